section
-- ===== PART A: goes FIRST, ahead of the names: the tables' words, and 'selects' of the private methods out of them =====
/-- a private method of a class that the tables say can be made, by its rows of tables_1 -/
def lw_okq (q : MethodName × Nat) : Prop := (q.1.cls ≠ "java/lang/invoke/MethodHandle" ∧ q.1.cls ≠ "java/lang/invoke/VarHandle") ∧ Cond.instantiable q.1.cls q.2 ∈ tables_1 ∧ Cond.privateMethod q.1 ∈ tables_1 ∧ Cond.instanceMethod q.1 ∈ tables_1
theorem lw_p0 : lw_okq (⟨"SheetRows", "tallyGreys", "()V"⟩, 16) := ⟨⟨by decide +kernel, by decide +kernel⟩, List.mem_of_getElem? (i := 11) (by decide +kernel), List.mem_of_getElem? (i := 84) (by decide +kernel), List.mem_of_getElem? (i := 85) (by decide +kernel)⟩
theorem lw_p1 : lw_okq (⟨"SheetRows", "spreadAt", "(I)I"⟩, 16) := ⟨⟨by decide +kernel, by decide +kernel⟩, List.mem_of_getElem? (i := 11) (by decide +kernel), List.mem_of_getElem? (i := 91) (by decide +kernel), List.mem_of_getElem? (i := 92) (by decide +kernel)⟩
theorem lw_p2 : lw_okq (⟨"SheetRows", "spreadOfLot", "(II)I"⟩, 16) := ⟨⟨by decide +kernel, by decide +kernel⟩, List.mem_of_getElem? (i := 11) (by decide +kernel), List.mem_of_getElem? (i := 95) (by decide +kernel), List.mem_of_getElem? (i := 96) (by decide +kernel)⟩
theorem lw_p3 : lw_okq (⟨"SheetRows", "markDark", "()V"⟩, 16) := ⟨⟨by decide +kernel, by decide +kernel⟩, List.mem_of_getElem? (i := 11) (by decide +kernel), List.mem_of_getElem? (i := 103) (by decide +kernel), List.mem_of_getElem? (i := 104) (by decide +kernel)⟩
theorem lw_p4 : lw_okq (⟨"SheetRows", "hasMostlyLow", "(I)Z"⟩, 16) := ⟨⟨by decide +kernel, by decide +kernel⟩, List.mem_of_getElem? (i := 11) (by decide +kernel), List.mem_of_getElem? (i := 108) (by decide +kernel), List.mem_of_getElem? (i := 109) (by decide +kernel)⟩
theorem lw_p5 : lw_okq (⟨"SheetRows", "reachPart", "(I)V"⟩, 16) := ⟨⟨by decide +kernel, by decide +kernel⟩, List.mem_of_getElem? (i := 11) (by decide +kernel), List.mem_of_getElem? (i := 112) (by decide +kernel), List.mem_of_getElem? (i := 113) (by decide +kernel)⟩
theorem lw_p6 : lw_okq (⟨"SheetRows", "reach", "(I)V"⟩, 16) := ⟨⟨by decide +kernel, by decide +kernel⟩, List.mem_of_getElem? (i := 11) (by decide +kernel), List.mem_of_getElem? (i := 116) (by decide +kernel), List.mem_of_getElem? (i := 117) (by decide +kernel)⟩
theorem lw_p7 : lw_okq (⟨"SheetRows", "reachAround", "(II)V"⟩, 16) := ⟨⟨by decide +kernel, by decide +kernel⟩, List.mem_of_getElem? (i := 11) (by decide +kernel), List.mem_of_getElem? (i := 120) (by decide +kernel), List.mem_of_getElem? (i := 121) (by decide +kernel)⟩
theorem lw_p8 : lw_okq (⟨"SheetRows", "keepPart", "()V"⟩, 16) := ⟨⟨by decide +kernel, by decide +kernel⟩, List.mem_of_getElem? (i := 11) (by decide +kernel), List.mem_of_getElem? (i := 124) (by decide +kernel), List.mem_of_getElem? (i := 125) (by decide +kernel)⟩
theorem lw_p9 : lw_okq (⟨"SheetRows", "sumOfSquares", "(I)I"⟩, 16) := ⟨⟨by decide +kernel, by decide +kernel⟩, List.mem_of_getElem? (i := 11) (by decide +kernel), List.mem_of_getElem? (i := 136) (by decide +kernel), List.mem_of_getElem? (i := 137) (by decide +kernel)⟩
theorem lw_p10 : lw_okq (⟨"SheetRows", "shearAt", "(II)I"⟩, 16) := ⟨⟨by decide +kernel, by decide +kernel⟩, List.mem_of_getElem? (i := 11) (by decide +kernel), List.mem_of_getElem? (i := 140) (by decide +kernel), List.mem_of_getElem? (i := 141) (by decide +kernel)⟩
theorem lw_p11 : lw_okq (⟨"SheetRows", "takeSpare", "()I"⟩, 16) := ⟨⟨by decide +kernel, by decide +kernel⟩, List.mem_of_getElem? (i := 11) (by decide +kernel), List.mem_of_getElem? (i := 154) (by decide +kernel), List.mem_of_getElem? (i := 155) (by decide +kernel)⟩
theorem lw_p12 : lw_okq (⟨"SheetRows", "packStretch", "(IB)V"⟩, 16) := ⟨⟨by decide +kernel, by decide +kernel⟩, List.mem_of_getElem? (i := 11) (by decide +kernel), List.mem_of_getElem? (i := 162) (by decide +kernel), List.mem_of_getElem? (i := 163) (by decide +kernel)⟩
theorem lw_p13 : lw_okq (⟨"SheetRows", "readCollected", "()I"⟩, 16) := ⟨⟨by decide +kernel, by decide +kernel⟩, List.mem_of_getElem? (i := 11) (by decide +kernel), List.mem_of_getElem? (i := 174) (by decide +kernel), List.mem_of_getElem? (i := 175) (by decide +kernel)⟩
theorem lw_p14 : lw_okq (⟨"SheetRows", "mirrorRows", "()V"⟩, 16) := ⟨⟨by decide +kernel, by decide +kernel⟩, List.mem_of_getElem? (i := 11) (by decide +kernel), List.mem_of_getElem? (i := 182) (by decide +kernel), List.mem_of_getElem? (i := 183) (by decide +kernel)⟩
theorem lw_p15 : lw_okq (⟨"SheetRows", "reverseRows", "()V"⟩, 16) := ⟨⟨by decide +kernel, by decide +kernel⟩, List.mem_of_getElem? (i := 11) (by decide +kernel), List.mem_of_getElem? (i := 186) (by decide +kernel), List.mem_of_getElem? (i := 187) (by decide +kernel)⟩
def lw_privs_1 : List (MethodName × Nat) := [(⟨"SheetRows", "tallyGreys", "()V"⟩, 16), (⟨"SheetRows", "spreadAt", "(I)I"⟩, 16), (⟨"SheetRows", "spreadOfLot", "(II)I"⟩, 16), (⟨"SheetRows", "markDark", "()V"⟩, 16), (⟨"SheetRows", "hasMostlyLow", "(I)Z"⟩, 16), (⟨"SheetRows", "reachPart", "(I)V"⟩, 16), (⟨"SheetRows", "reach", "(I)V"⟩, 16), (⟨"SheetRows", "reachAround", "(II)V"⟩, 16), (⟨"SheetRows", "keepPart", "()V"⟩, 16), (⟨"SheetRows", "sumOfSquares", "(I)I"⟩, 16), (⟨"SheetRows", "shearAt", "(II)I"⟩, 16), (⟨"SheetRows", "takeSpare", "()I"⟩, 16), (⟨"SheetRows", "packStretch", "(IB)V"⟩, 16), (⟨"SheetRows", "readCollected", "()I"⟩, 16), (⟨"SheetRows", "mirrorRows", "()V"⟩, 16), (⟨"SheetRows", "reverseRows", "()V"⟩, 16)]
theorem lw_r1 : ∀ q ∈ lw_privs_1, lw_okq q := List.forall_mem_cons.mpr ⟨lw_p0, List.forall_mem_cons.mpr ⟨lw_p1, List.forall_mem_cons.mpr ⟨lw_p2, List.forall_mem_cons.mpr ⟨lw_p3, List.forall_mem_cons.mpr ⟨lw_p4, List.forall_mem_cons.mpr ⟨lw_p5, List.forall_mem_cons.mpr ⟨lw_p6, List.forall_mem_cons.mpr ⟨lw_p7, List.forall_mem_cons.mpr ⟨lw_p8, List.forall_mem_cons.mpr ⟨lw_p9, List.forall_mem_cons.mpr ⟨lw_p10, List.forall_mem_cons.mpr ⟨lw_p11, List.forall_mem_cons.mpr ⟨lw_p12, List.forall_mem_cons.mpr ⟨lw_p13, List.forall_mem_cons.mpr ⟨lw_p14, List.forall_mem_cons.mpr ⟨lw_p15, fun _ h => absurd h List.not_mem_nil⟩⟩⟩⟩⟩⟩⟩⟩⟩⟩⟩⟩⟩⟩⟩⟩
theorem lw_p16 : lw_okq (⟨"SheetRows", "invertGreys", "()V"⟩, 16) := ⟨⟨by decide +kernel, by decide +kernel⟩, List.mem_of_getElem? (i := 11) (by decide +kernel), List.mem_of_getElem? (i := 190) (by decide +kernel), List.mem_of_getElem? (i := 191) (by decide +kernel)⟩
theorem lw_p17 : lw_okq (⟨"SheetRows", "halve", "()V"⟩, 16) := ⟨⟨by decide +kernel, by decide +kernel⟩, List.mem_of_getElem? (i := 11) (by decide +kernel), List.mem_of_getElem? (i := 194) (by decide +kernel), List.mem_of_getElem? (i := 195) (by decide +kernel)⟩
theorem lw_p18 : lw_okq (⟨"SheetRows", "meanOfFour", "(I)B"⟩, 16) := ⟨⟨by decide +kernel, by decide +kernel⟩, List.mem_of_getElem? (i := 11) (by decide +kernel), List.mem_of_getElem? (i := 198) (by decide +kernel), List.mem_of_getElem? (i := 199) (by decide +kernel)⟩
theorem lw_p19 : lw_okq (⟨"SheetRows", "isOnSheet", "(II)Z"⟩, 16) := ⟨⟨by decide +kernel, by decide +kernel⟩, List.mem_of_getElem? (i := 11) (by decide +kernel), List.mem_of_getElem? (i := 217) (by decide +kernel), List.mem_of_getElem? (i := 218) (by decide +kernel)⟩
theorem lw_p20 : lw_okq (⟨"java/lang/Throwable", "fillInStackTrace", "(I)Ljava/lang/Throwable;"⟩, 6) := ⟨⟨by decide +kernel, by decide +kernel⟩, List.mem_of_getElem? (i := 259) (by decide +kernel), List.mem_of_getElem? (i := 257) (by decide +kernel), List.mem_of_getElem? (i := 258) (by decide +kernel)⟩
theorem lw_p21 : lw_okq (⟨"SheetRowsModel", "isOn", "(II)Z"⟩, 15) := ⟨⟨by decide +kernel, by decide +kernel⟩, List.mem_of_getElem? (i := 306) (by decide +kernel), List.mem_of_getElem? (i := 366) (by decide +kernel), List.mem_of_getElem? (i := 367) (by decide +kernel)⟩
theorem lw_p22 : lw_okq (⟨"SheetRowsModel", "refused", "(Z)Z"⟩, 15) := ⟨⟨by decide +kernel, by decide +kernel⟩, List.mem_of_getElem? (i := 306) (by decide +kernel), List.mem_of_getElem? (i := 370) (by decide +kernel), List.mem_of_getElem? (i := 371) (by decide +kernel)⟩
theorem lw_p23 : lw_okq (⟨"SheetRowsModel", "thresholdNow", "()I"⟩, 15) := ⟨⟨by decide +kernel, by decide +kernel⟩, List.mem_of_getElem? (i := 306) (by decide +kernel), List.mem_of_getElem? (i := 382) (by decide +kernel), List.mem_of_getElem? (i := 383) (by decide +kernel)⟩
theorem lw_p24 : lw_okq (⟨"SheetRowsModel", "spread", "(II)I"⟩, 15) := ⟨⟨by decide +kernel, by decide +kernel⟩, List.mem_of_getElem? (i := 306) (by decide +kernel), List.mem_of_getElem? (i := 386) (by decide +kernel), List.mem_of_getElem? (i := 387) (by decide +kernel)⟩
theorem lw_p25 : lw_okq (⟨"SheetRowsModel", "isInverted", "(I)Z"⟩, 15) := ⟨⟨by decide +kernel, by decide +kernel⟩, List.mem_of_getElem? (i := 306) (by decide +kernel), List.mem_of_getElem? (i := 394) (by decide +kernel), List.mem_of_getElem? (i := 395) (by decide +kernel)⟩
theorem lw_p26 : lw_okq (⟨"SheetRowsModel", "darken", "()V"⟩, 15) := ⟨⟨by decide +kernel, by decide +kernel⟩, List.mem_of_getElem? (i := 306) (by decide +kernel), List.mem_of_getElem? (i := 402) (by decide +kernel), List.mem_of_getElem? (i := 403) (by decide +kernel)⟩
theorem lw_p27 : lw_okq (⟨"SheetRowsModel", "leastAround", "(I)I"⟩, 15) := ⟨⟨by decide +kernel, by decide +kernel⟩, List.mem_of_getElem? (i := 306) (by decide +kernel), List.mem_of_getElem? (i := 406) (by decide +kernel), List.mem_of_getElem? (i := 407) (by decide +kernel)⟩
theorem lw_p28 : lw_okq (⟨"SheetRowsModel", "sizeOf", "(I)I"⟩, 15) := ⟨⟨by decide +kernel, by decide +kernel⟩, List.mem_of_getElem? (i := 306) (by decide +kernel), List.mem_of_getElem? (i := 410) (by decide +kernel), List.mem_of_getElem? (i := 411) (by decide +kernel)⟩
theorem lw_p29 : lw_okq (⟨"SheetRowsModel", "tell", "(I)V"⟩, 15) := ⟨⟨by decide +kernel, by decide +kernel⟩, List.mem_of_getElem? (i := 306) (by decide +kernel), List.mem_of_getElem? (i := 414) (by decide +kernel), List.mem_of_getElem? (i := 415) (by decide +kernel)⟩
theorem lw_p30 : lw_okq (⟨"SheetRowsModel", "rowOf", "(III)I"⟩, 15) := ⟨⟨by decide +kernel, by decide +kernel⟩, List.mem_of_getElem? (i := 306) (by decide +kernel), List.mem_of_getElem? (i := 426) (by decide +kernel), List.mem_of_getElem? (i := 427) (by decide +kernel)⟩
theorem lw_p31 : lw_okq (⟨"SheetRowsModel", "change", "()I"⟩, 15) := ⟨⟨by decide +kernel, by decide +kernel⟩, List.mem_of_getElem? (i := 306) (by decide +kernel), List.mem_of_getElem? (i := 434) (by decide +kernel), List.mem_of_getElem? (i := 435) (by decide +kernel)⟩
def lw_privs_2 : List (MethodName × Nat) := [(⟨"SheetRows", "invertGreys", "()V"⟩, 16), (⟨"SheetRows", "halve", "()V"⟩, 16), (⟨"SheetRows", "meanOfFour", "(I)B"⟩, 16), (⟨"SheetRows", "isOnSheet", "(II)Z"⟩, 16), (⟨"java/lang/Throwable", "fillInStackTrace", "(I)Ljava/lang/Throwable;"⟩, 6), (⟨"SheetRowsModel", "isOn", "(II)Z"⟩, 15), (⟨"SheetRowsModel", "refused", "(Z)Z"⟩, 15), (⟨"SheetRowsModel", "thresholdNow", "()I"⟩, 15), (⟨"SheetRowsModel", "spread", "(II)I"⟩, 15), (⟨"SheetRowsModel", "isInverted", "(I)Z"⟩, 15), (⟨"SheetRowsModel", "darken", "()V"⟩, 15), (⟨"SheetRowsModel", "leastAround", "(I)I"⟩, 15), (⟨"SheetRowsModel", "sizeOf", "(I)I"⟩, 15), (⟨"SheetRowsModel", "tell", "(I)V"⟩, 15), (⟨"SheetRowsModel", "rowOf", "(III)I"⟩, 15), (⟨"SheetRowsModel", "change", "()I"⟩, 15)]
theorem lw_r2 : ∀ q ∈ lw_privs_2, lw_okq q := List.forall_mem_cons.mpr ⟨lw_p16, List.forall_mem_cons.mpr ⟨lw_p17, List.forall_mem_cons.mpr ⟨lw_p18, List.forall_mem_cons.mpr ⟨lw_p19, List.forall_mem_cons.mpr ⟨lw_p20, List.forall_mem_cons.mpr ⟨lw_p21, List.forall_mem_cons.mpr ⟨lw_p22, List.forall_mem_cons.mpr ⟨lw_p23, List.forall_mem_cons.mpr ⟨lw_p24, List.forall_mem_cons.mpr ⟨lw_p25, List.forall_mem_cons.mpr ⟨lw_p26, List.forall_mem_cons.mpr ⟨lw_p27, List.forall_mem_cons.mpr ⟨lw_p28, List.forall_mem_cons.mpr ⟨lw_p29, List.forall_mem_cons.mpr ⟨lw_p30, List.forall_mem_cons.mpr ⟨lw_p31, fun _ h => absurd h List.not_mem_nil⟩⟩⟩⟩⟩⟩⟩⟩⟩⟩⟩⟩⟩⟩⟩⟩
theorem lw_p32 : lw_okq (⟨"SheetRowsModel", "mean", "(II)I"⟩, 15) := ⟨⟨by decide +kernel, by decide +kernel⟩, List.mem_of_getElem? (i := 306) (by decide +kernel), List.mem_of_getElem? (i := 458) (by decide +kernel), List.mem_of_getElem? (i := 459) (by decide +kernel)⟩
def lw_privs_3 : List (MethodName × Nat) := [(⟨"SheetRowsModel", "mean", "(II)I"⟩, 15)]
theorem lw_r3 : ∀ q ∈ lw_privs_3, lw_okq q := List.forall_mem_cons.mpr ⟨lw_p32, fun _ h => absurd h List.not_mem_nil⟩
def lw_privs : List (MethodName × Nat) := lw_privs_1 ++ (lw_privs_2 ++ (lw_privs_3))
def lw_tbl : List Cond := k2_sels lw_privs ++ tables_1
theorem lw_privs_ok : ∀ q ∈ lw_privs, lw_okq q := by
  show ∀ q ∈ lw_privs_1 ++ (lw_privs_2 ++ (lw_privs_3)), lw_okq q
  exact List.forall_mem_append.mpr ⟨lw_r1, List.forall_mem_append.mpr ⟨lw_r2, lw_r3⟩⟩
-- ===== end of PART A; then your names; then what follows =====
end
section
/-! ===== BEGIN words of one list among another's, by their places ===== -/
theorem goodIn_r {big : List Cond} (ws : List Cond) (ps : List Nat) (hp : ws = ps.filterMap (fun i => big[i]?)) (h : ws.all goodWord = true) : GoodIn big ws := by
  intro w hw
  have h1 := List.all_eq_true.mp h w hw
  rw [hp] at hw
  obtain ⟨i, -, hi⟩ := List.mem_filterMap.mp hw
  have hm : w ∈ big := by first | exact List.mem_of_getElem? hi | exact List.getElem?_mem hi
  exact ⟨hm, good_of_word h1⟩
theorem goodIn_app {big a b : List Cond} (ha : GoodIn big a) (hb : GoodIn big b) : GoodIn big (a ++ b) := fun w h => (List.mem_append.mp h).elim (ha w) (hb w)
theorem goodIn_ca {big a b : List Cond} {c : Cond} (ha : GoodIn big (c :: a)) (hb : GoodIn big b) : GoodIn big (c :: (a ++ b)) := fun w h => (List.mem_cons.mp h).elim (fun e => ha w (List.mem_cons.mpr (Or.inl e))) (fun h => (List.mem_append.mp h).elim (fun h => ha w (List.mem_cons.mpr (Or.inr h))) (hb w))
theorem goodIn_sub {big ws : List Cond} (hm : ∀ w ∈ ws, w ∈ big) (h : ws.all goodWord = true) : GoodIn big ws := fun w hw => ⟨hm w hw, good_of_word (List.all_eq_true.mp h w hw)⟩
/-! ===== END ===== -/

/-! ===== BEGIN printed: names, fields, word lists, decode rows ===== -/
def RX0 : String := "SheetRows"
def TX0 : u_T := fun k => match k with
  | 0 => ("SheetRows", "width", "I", true)
  | 1 => ("SheetRows", "height", "I", true)
  | 2 => ("SheetRows", "greys", "[B", false)
  | 3 => ("SheetRows", "spare", "[B", false)
  | 4 => ("SheetRows", "countBelow", "[I", true)
  | 5 => ("SheetRows", "sumBelow", "[I", true)
  | 6 => ("SheetRows", "dark", "[Z", true)
  | 7 => ("SheetRows", "darkInRow", "[I", true)
  | 8 => ("SheetRows", "reached", "[I", true)
  | 9 => ("SheetRows", "reachedCount", "I", false)
  | 10 => ("SheetRows", "partFacts", "[I", true)
  | 11 => ("SheetRows", "partCount", "I", false)
  | 12 => ("SheetRows", "packed", "[B", true)
  | 13 => ("SheetRows", "packedCount", "I", false)
  | 14 => ("SheetRows", "collected", "[B", true)
  | _ => ("SheetRows", "collectedCount", "I", false)
def tyX0 : Nat → FieldType := fun k => match k with
  | 0 => .int
  | 1 => .int
  | 2 => .array .byte
  | 3 => .array .byte
  | 4 => .array .int
  | 5 => .array .int
  | 6 => .array .boolean
  | 7 => .array .int
  | 8 => .array .int
  | 9 => .int
  | 10 => .array .int
  | 11 => .int
  | 12 => .array .byte
  | 13 => .int
  | 14 => .array .byte
  | _ => .int
abbrev wsX00 : List Cond := u_ws RX0 TX0 16
theorem nmX0 : ∀ a, a < 16 → ∀ b, b < 16 → a ≠ b → (TX0 a).2.1 ≠ (TX0 b).2.1 := by decide +kernel
theorem tyX0_ok : ∀ k, k < 16 → parseFieldDescriptor (TX0 k).2.2.1 = some (tyX0 k) := by decide +kernel
abbrev cX0_init : ByteArray := prog_1_method_1_code
def yX0_init : MethodName := ⟨RX0, "<init>", "(II)V"⟩
abbrev cX0_put : ByteArray := prog_1_method_2_code
def yX0_put : MethodName := ⟨RX0, "put", "(IIB)V"⟩
abbrev cX0_threshold : ByteArray := prog_1_method_3_code
def yX0_threshold : MethodName := ⟨RX0, "threshold", "()I"⟩
abbrev cX0_parts : ByteArray := prog_1_method_4_code
def yX0_parts : MethodName := ⟨RX0, "parts", "()I"⟩
abbrev cX0_part : ByteArray := prog_1_method_5_code
def yX0_part : MethodName := ⟨RX0, "part", "(II)I"⟩
abbrev cX0_skew : ByteArray := prog_1_method_6_code
def yX0_skew : MethodName := ⟨RX0, "skew", "()I"⟩
abbrev cX0_turn : ByteArray := prog_1_method_7_code
def yX0_turn : MethodName := ⟨RX0, "turn", "(I)I"⟩
abbrev cX0_pack : ByteArray := prog_1_method_8_code
def yX0_pack : MethodName := ⟨RX0, "pack", "()I"⟩
abbrev cX0_octet : ByteArray := prog_1_method_9_code
def yX0_octet : MethodName := ⟨RX0, "octet", "(I)B"⟩
abbrev cX0_add : ByteArray := prog_1_method_10_code
def yX0_add : MethodName := ⟨RX0, "add", "(B)V"⟩
abbrev cX0_unpack : ByteArray := prog_1_method_11_code
def yX0_unpack : MethodName := ⟨RX0, "unpack", "()I"⟩
abbrev cX0_side : ByteArray := prog_1_method_12_code
def yX0_side : MethodName := ⟨RX0, "side", "(I)I"⟩
abbrev cX0_inverted : ByteArray := prog_1_method_13_code
def yX0_inverted : MethodName := ⟨RX0, "inverted", "()Z"⟩
abbrev cX0_grey : ByteArray := prog_1_method_14_code
def yX0_grey : MethodName := ⟨RX0, "grey", "(II)I"⟩
abbrev cX0_isOnSheet : ByteArray := prog_1_method_15_code
def yX0_isOnSheet : MethodName := ⟨RX0, "isOnSheet", "(II)Z"⟩
abbrev cX0_takeSpare : ByteArray := prog_1_method_16_code
def yX0_takeSpare : MethodName := ⟨RX0, "takeSpare", "()I"⟩
abbrev cX0_tallyGreys : ByteArray := prog_1_method_17_code
def yX0_tallyGreys : MethodName := ⟨RX0, "tallyGreys", "()V"⟩
abbrev cX0_spreadAt : ByteArray := prog_1_method_18_code
def yX0_spreadAt : MethodName := ⟨RX0, "spreadAt", "(I)I"⟩
abbrev cX0_spreadOfLot : ByteArray := prog_1_method_19_code
def yX0_spreadOfLot : MethodName := ⟨RX0, "spreadOfLot", "(II)I"⟩
abbrev cX0_hasMostlyLow : ByteArray := prog_1_method_20_code
def yX0_hasMostlyLow : MethodName := ⟨RX0, "hasMostlyLow", "(I)Z"⟩
abbrev cX0_markDark : ByteArray := prog_1_method_21_code
def yX0_markDark : MethodName := ⟨RX0, "markDark", "()V"⟩
abbrev cX0_reachPart : ByteArray := prog_1_method_22_code
def yX0_reachPart : MethodName := ⟨RX0, "reachPart", "(I)V"⟩
abbrev cX0_reachAround : ByteArray := prog_1_method_23_code
def yX0_reachAround : MethodName := ⟨RX0, "reachAround", "(II)V"⟩
abbrev cX0_reach : ByteArray := prog_1_method_24_code
def yX0_reach : MethodName := ⟨RX0, "reach", "(I)V"⟩
abbrev cX0_keepPart : ByteArray := prog_1_method_25_code
def yX0_keepPart : MethodName := ⟨RX0, "keepPart", "()V"⟩
abbrev cX0_shearAt : ByteArray := prog_1_method_26_code
def yX0_shearAt : MethodName := ⟨RX0, "shearAt", "(II)I"⟩
abbrev cX0_sumOfSquares : ByteArray := prog_1_method_27_code
def yX0_sumOfSquares : MethodName := ⟨RX0, "sumOfSquares", "(I)I"⟩
abbrev cX0_packStretch : ByteArray := prog_1_method_28_code
def yX0_packStretch : MethodName := ⟨RX0, "packStretch", "(IB)V"⟩
abbrev cX0_readCollected : ByteArray := prog_1_method_29_code
def yX0_readCollected : MethodName := ⟨RX0, "readCollected", "()I"⟩
abbrev cX0_mirrorRows : ByteArray := prog_1_method_30_code
def yX0_mirrorRows : MethodName := ⟨RX0, "mirrorRows", "()V"⟩
abbrev cX0_reverseRows : ByteArray := prog_1_method_31_code
def yX0_reverseRows : MethodName := ⟨RX0, "reverseRows", "()V"⟩
abbrev cX0_invertGreys : ByteArray := prog_1_method_32_code
def yX0_invertGreys : MethodName := ⟨RX0, "invertGreys", "()V"⟩
abbrev cX0_halve : ByteArray := prog_1_method_33_code
def yX0_halve : MethodName := ⟨RX0, "halve", "()V"⟩
abbrev cX0_meanOfFour : ByteArray := prog_1_method_34_code
def yX0_meanOfFour : MethodName := ⟨RX0, "meanOfFour", "(I)B"⟩
def RX1 : String := "SheetRowsModel"
def TX1 : u_T := fun k => match k with
  | 0 => ("SheetRowsModel", "thrown", "I", false)
  | 1 => ("SheetRowsModel", "w", "I", true)
  | 2 => ("SheetRowsModel", "h", "I", true)
  | 3 => ("SheetRowsModel", "n", "I", true)
  | 4 => ("SheetRowsModel", "greys", "[I", true)
  | 5 => ("SheetRowsModel", "other", "[I", true)
  | 6 => ("SheetRowsModel", "counts", "[I", true)
  | 7 => ("SheetRowsModel", "labels", "[I", true)
  | 8 => ("SheetRowsModel", "parts", "I", false)
  | 9 => ("SheetRowsModel", "firsts", "[I", true)
  | 10 => ("SheetRowsModel", "told", "[I", true)
  | 11 => ("SheetRowsModel", "packed", "I", false)
  | 12 => ("SheetRowsModel", "pairs", "[B", true)
  | 13 => ("SheetRowsModel", "collected", "I", false)
  | _ => ("SheetRowsModel", "bytes", "[B", true)
def tyX1 : Nat → FieldType := fun k => match k with
  | 0 => .int
  | 1 => .int
  | 2 => .int
  | 3 => .int
  | 4 => .array .int
  | 5 => .array .int
  | 6 => .array .int
  | 7 => .array .int
  | 8 => .int
  | 9 => .array .int
  | 10 => .array .int
  | 11 => .int
  | 12 => .array .byte
  | 13 => .int
  | _ => .array .byte
abbrev wsX10 : List Cond := u_ws RX1 TX1 15
theorem nmX1 : ∀ a, a < 15 → ∀ b, b < 15 → a ≠ b → (TX1 a).2.1 ≠ (TX1 b).2.1 := by decide +kernel
theorem tyX1_ok : ∀ k, k < 15 → parseFieldDescriptor (TX1 k).2.2.1 = some (tyX1 k) := by decide +kernel
abbrev cX1_init : ByteArray := prog_3_method_1_code
def yX1_init : MethodName := ⟨RX1, "<init>", "(II)V"⟩
abbrev cX1_thrown : ByteArray := prog_3_method_2_code
def yX1_thrown : MethodName := ⟨RX1, "thrown", "()I"⟩
abbrev cX1_refused : ByteArray := prog_3_method_3_code
def yX1_refused : MethodName := ⟨RX1, "refused", "(Z)Z"⟩
abbrev cX1_isOn : ByteArray := prog_3_method_4_code
def yX1_isOn : MethodName := ⟨RX1, "isOn", "(II)Z"⟩
abbrev cX1_put : ByteArray := prog_3_method_5_code
def yX1_put : MethodName := ⟨RX1, "put", "(IIB)V"⟩
abbrev cX1_grey : ByteArray := prog_3_method_6_code
def yX1_grey : MethodName := ⟨RX1, "grey", "(II)I"⟩
abbrev cX1_spread : ByteArray := prog_3_method_7_code
def yX1_spread : MethodName := ⟨RX1, "spread", "(II)I"⟩
abbrev cX1_thresholdNow : ByteArray := prog_3_method_8_code
def yX1_thresholdNow : MethodName := ⟨RX1, "thresholdNow", "()I"⟩
abbrev cX1_threshold : ByteArray := prog_3_method_9_code
def yX1_threshold : MethodName := ⟨RX1, "threshold", "()I"⟩
abbrev cX1_isInverted : ByteArray := prog_3_method_10_code
def yX1_isInverted : MethodName := ⟨RX1, "isInverted", "(I)Z"⟩
abbrev cX1_inverted : ByteArray := prog_3_method_11_code
def yX1_inverted : MethodName := ⟨RX1, "inverted", "()Z"⟩
abbrev cX1_darken : ByteArray := prog_3_method_12_code
def yX1_darken : MethodName := ⟨RX1, "darken", "()V"⟩
abbrev cX1_leastAround : ByteArray := prog_3_method_13_code
def yX1_leastAround : MethodName := ⟨RX1, "leastAround", "(I)I"⟩
abbrev cX1_parts : ByteArray := prog_3_method_14_code
def yX1_parts : MethodName := ⟨RX1, "parts", "()I"⟩
abbrev cX1_sizeOf : ByteArray := prog_3_method_15_code
def yX1_sizeOf : MethodName := ⟨RX1, "sizeOf", "(I)I"⟩
abbrev cX1_tell : ByteArray := prog_3_method_16_code
def yX1_tell : MethodName := ⟨RX1, "tell", "(I)V"⟩
abbrev cX1_part : ByteArray := prog_3_method_17_code
def yX1_part : MethodName := ⟨RX1, "part", "(II)I"⟩
abbrev cX1_rowOf : ByteArray := prog_3_method_18_code
def yX1_rowOf : MethodName := ⟨RX1, "rowOf", "(III)I"⟩
abbrev cX1_skew : ByteArray := prog_3_method_19_code
def yX1_skew : MethodName := ⟨RX1, "skew", "()I"⟩
abbrev cX1_change : ByteArray := prog_3_method_20_code
def yX1_change : MethodName := ⟨RX1, "change", "()I"⟩
abbrev cX1_turn : ByteArray := prog_3_method_21_code
def yX1_turn : MethodName := ⟨RX1, "turn", "(I)I"⟩
abbrev cX1_pack : ByteArray := prog_3_method_22_code
def yX1_pack : MethodName := ⟨RX1, "pack", "()I"⟩
abbrev cX1_octet : ByteArray := prog_3_method_23_code
def yX1_octet : MethodName := ⟨RX1, "octet", "(I)B"⟩
abbrev cX1_add : ByteArray := prog_3_method_24_code
def yX1_add : MethodName := ⟨RX1, "add", "(B)V"⟩
abbrev cX1_unpack : ByteArray := prog_3_method_25_code
def yX1_unpack : MethodName := ⟨RX1, "unpack", "()I"⟩
abbrev cX1_mean : ByteArray := prog_3_method_26_code
def yX1_mean : MethodName := ⟨RX1, "mean", "(II)I"⟩
abbrev cX1_side : ByteArray := prog_3_method_27_code
def yX1_side : MethodName := ⟨RX1, "side", "(I)I"⟩
def RJx00060 : String := "java/lang/ArrayIndexOutOfBoundsException"
def TJx00060 : u_T := fun k => match k with
  | 0 => ("java/lang/Throwable", "cause", "Ljava/lang/Throwable;", false)
  | 1 => ("java/lang/Throwable", "stackTrace", "[Ljava/lang/StackTraceElement;", false)
  | 2 => ("java/lang/Throwable", "suppressedExceptions", "Ljava/util/List;", false)
  | 3 => ("java/lang/Throwable", "detailMessage", "Ljava/lang/String;", false)
  | 4 => ("java/lang/Throwable", "backtrace", "Ljava/lang/Object;", false)
  | _ => ("java/lang/Throwable", "depth", "I", false)
def tyJx00060 : Nat → FieldType := fun k => match k with
  | 0 => .object "java/lang/Throwable"
  | 1 => .array (.object "java/lang/StackTraceElement")
  | 2 => .object "java/util/List"
  | 3 => .object "java/lang/String"
  | 4 => .object "java/lang/Object"
  | _ => .int
abbrev wsJx000600 : List Cond := u_ws RJx00060 TJx00060 6
theorem nmJx00060 : ∀ a, a < 6 → ∀ b, b < 6 → a ≠ b → (TJx00060 a).2.1 ≠ (TJx00060 b).2.1 := by decide +kernel
theorem tyJx00060_ok : ∀ k, k < 6 → parseFieldDescriptor (TJx00060 k).2.2.1 = some (tyJx00060 k) := by decide +kernel
abbrev cJx00060_init_a7421 : ByteArray := prog_4_method_2_code
def yJx00060_init_a7421 : MethodName := ⟨RJx00060, "<init>", "(Ljava/lang/String;)V"⟩
def RJ9 : String := "java/lang/Math"
def TJ9 : u_T := fun k => match k with
  | _ => ("", "", "", false)
def tyJ9 : Nat → FieldType := fun k => match k with
  | _ => .int
abbrev wsJ90 : List Cond := u_ws RJ9 TJ9 0
theorem nmJ9 : ∀ a, a < 0 → ∀ b, b < 0 → a ≠ b → (TJ9 a).2.1 ≠ (TJ9 b).2.1 := by decide +kernel
theorem tyJ9_ok : ∀ k, k < 0 → parseFieldDescriptor (TJ9 k).2.2.1 = some (tyJ9 k) := by decide +kernel
abbrev cJ9_floorDiv_7cf53 : ByteArray := prog_7_method_47_code
def yJ9_floorDiv_7cf53 : MethodName := ⟨RJ9, "floorDiv", "(II)I"⟩
abbrev cJ9_floorMod_7cf53 : ByteArray := prog_7_method_50_code
def yJ9_floorMod_7cf53 : MethodName := ⟨RJ9, "floorMod", "(II)I"⟩
abbrev cJ9_max_7cf53 : ByteArray := prog_7_method_65_code
def yJ9_max_7cf53 : MethodName := ⟨RJ9, "max", "(II)I"⟩
abbrev cJ9_min_7cf53 : ByteArray := prog_7_method_69_code
def yJ9_min_7cf53 : MethodName := ⟨RJ9, "min", "(II)I"⟩
def RJ0 : String := "java/lang/String"
def TJ0 : u_T := fun k => match k with
  | _ => ("", "", "", false)
def tyJ0 : Nat → FieldType := fun k => match k with
  | _ => .int
abbrev wsJ00 : List Cond := u_ws RJ0 TJ0 0
theorem nmJ0 : ∀ a, a < 0 → ∀ b, b < 0 → a ≠ b → (TJ0 a).2.1 ≠ (TJ0 b).2.1 := by decide +kernel
theorem tyJ0_ok : ∀ k, k < 0 → parseFieldDescriptor (TJ0 k).2.2.1 = some (tyJ0 k) := by decide +kernel
def RJ7 : String := "java/util/Arrays"
def TJ7 : u_T := fun k => match k with
  | _ => ("", "", "", false)
def tyJ7 : Nat → FieldType := fun k => match k with
  | _ => .int
abbrev wsJ70 : List Cond := u_ws RJ7 TJ7 0
theorem nmJ7 : ∀ a, a < 0 → ∀ b, b < 0 → a ≠ b → (TJ7 a).2.1 ≠ (TJ7 b).2.1 := by decide +kernel
theorem tyJ7_ok : ∀ k, k < 0 → parseFieldDescriptor (TJ7 k).2.2.1 = some (tyJ7 k) := by decide +kernel
abbrev cJ7_fill_53178 : ByteArray := prog_11_method_103_code
def yJ7_fill_53178 : MethodName := ⟨RJ7, "fill", "([II)V"⟩
abbrev cJ7_fill_031fb : ByteArray := prog_11_method_109_code
def yJ7_fill_031fb : MethodName := ⟨RJ7, "fill", "([BB)V"⟩
def RL : String := "SheetRowsLaw"
abbrev cL_cell : ByteArray := method_2_code
def yL_cell : MethodName := ⟨RL, "cell", "([II)I"⟩
abbrev cL_put : ByteArray := method_3_code
def yL_put : MethodName := ⟨RL, "put", "(LSheetRows;IIB)I"⟩
abbrev cL_octet : ByteArray := method_4_code
def yL_octet : MethodName := ⟨RL, "octet", "(LSheetRows;I[J)I"⟩
abbrev cL_grey : ByteArray := method_5_code
def yL_grey : MethodName := ⟨RL, "grey", "(LSheetRows;II[J)I"⟩
abbrev cL_law : ByteArray := code
def yL_law : MethodName := ⟨RL, "law", "([I)Z"⟩
def wsJ7_fill_031fb : List Cond := .code yJ7_fill_031fb cJ7_fill_031fb 4 none :: ([])
def wsX0_init_r1 : List Cond := [Cond.methodLink RX0 3 objectInit, Cond.instanceMethod objectInit, Cond.code objectInit ⟨#[0xb1]⟩ 1 none, Cond.methodLink RX0 9 Lib.Math.min.name, Cond.static Lib.Math.min.name, Cond.initialized "java/lang/Math", Cond.code Lib.Math.min.name Lib.Math.min.code 2 (some .int), Cond.methodLink RX0 15 Lib.Math.max.name, Cond.static Lib.Math.max.name, Cond.code Lib.Math.max.name Lib.Math.max.code 2 (some .int), Cond.fieldLink RX0 18 "SheetRows" "width" "I", Cond.fieldLink RX0 22 "SheetRows" "height" "I", Cond.arrayClass .byte, Cond.fieldLink RX0 25 "SheetRows" "greys" "[B", Cond.fieldLink RX0 29 "SheetRows" "spare" "[B", Cond.arrayClass .int, Cond.fieldLink RX0 32 "SheetRows" "countBelow" "[I", Cond.fieldLink RX0 36 "SheetRows" "sumBelow" "[I", Cond.arrayClass .boolean, Cond.fieldLink RX0 39 "SheetRows" "dark" "[Z", Cond.fieldLink RX0 43 "SheetRows" "darkInRow" "[I", Cond.fieldLink RX0 46 "SheetRows" "reached" "[I", Cond.fieldLink RX0 49 "SheetRows" "partFacts" "[I", Cond.fieldLink RX0 52 "SheetRows" "packed" "[B"]
def wsX0_init_r2 : List Cond := [Cond.fieldLink RX0 55 "SheetRows" "collected" "[B", Cond.methodLink RX0 58 yJ7_fill_031fb, Cond.static yJ7_fill_031fb, Cond.initialized RJ7, Cond.code yJ7_fill_031fb cJ7_fill_031fb 4 none]
def wsX0_init : List Cond := .code yX0_init cX0_init 4 none :: ((wsX0_init_r1 ++ wsX0_init_r2) ++ wsX00)
def wsX0_isOnSheet : List Cond := .code yX0_isOnSheet cX0_isOnSheet 3 (some .boolean) :: ([.fieldLink RX0 18 "SheetRows" "width" "I", .fieldLink RX0 22 "SheetRows" "height" "I"] ++ wsX00)
def wsX0_put : List Cond := .code yX0_put cX0_put 4 none :: ([.classLink RX0 68 RJx00060, .instantiable RJx00060 6, .initialized RJx00060, .fieldLink RX0 25 "SheetRows" "greys" "[B", .fieldLink RX0 18 "SheetRows" "width" "I", .methodLink RX0 64 yX0_isOnSheet, .instanceMethod yX0_isOnSheet, .selects RX0 yX0_isOnSheet yX0_isOnSheet, .initialized RX0, .code yX0_isOnSheet cX0_isOnSheet 3 (some .boolean), .fieldLink RX0 22 "SheetRows" "height" "I"] ++ wsJx000600 ++ wsX00)
def wsJ7_fill_53178 : List Cond := .code yJ7_fill_53178 cJ7_fill_53178 4 none :: ([])
def wsX0_tallyGreys : List Cond := .code yX0_tallyGreys cX0_tallyGreys 2 none :: ([.fieldLink RX0 32 "SheetRows" "countBelow" "[I", .fieldLink RX0 25 "SheetRows" "greys" "[B", .fieldLink RX0 36 "SheetRows" "sumBelow" "[I", .methodLink RX0 142 yJ7_fill_53178, .static yJ7_fill_53178, .initialized RJ7, .code yJ7_fill_53178 cJ7_fill_53178 4 none] ++ wsX00)
def wsX0_spreadOfLot : List Cond := .code yX0_spreadOfLot cX0_spreadOfLot 8 (some .int) :: ([.fieldLink RX0 32 "SheetRows" "countBelow" "[I", .fieldLink RX0 36 "SheetRows" "sumBelow" "[I"] ++ wsX00)
def wsX0_spreadAt : List Cond := .code yX0_spreadAt cX0_spreadAt 2 (some .int) :: ([.methodLink RX0 145 yX0_spreadOfLot, .instanceMethod yX0_spreadOfLot, .selects RX0 yX0_spreadOfLot yX0_spreadOfLot, .initialized RX0, .code yX0_spreadOfLot cX0_spreadOfLot 8 (some .int), .fieldLink RX0 32 "SheetRows" "countBelow" "[I", .fieldLink RX0 36 "SheetRows" "sumBelow" "[I"] ++ wsX00)
def wsX0_threshold : List Cond := .code yX0_threshold cX0_threshold 5 (some .int) :: ([.methodLink RX0 75 yX0_tallyGreys, .instanceMethod yX0_tallyGreys, .selects RX0 yX0_tallyGreys yX0_tallyGreys, .initialized RX0, .code yX0_tallyGreys cX0_tallyGreys 2 none, .fieldLink RX0 32 "SheetRows" "countBelow" "[I", .fieldLink RX0 25 "SheetRows" "greys" "[B", .fieldLink RX0 36 "SheetRows" "sumBelow" "[I", .methodLink RX0 142 yJ7_fill_53178, .static yJ7_fill_53178, .initialized RJ7, .code yJ7_fill_53178 cJ7_fill_53178 4 none, .methodLink RX0 78 yX0_spreadAt, .instanceMethod yX0_spreadAt, .selects RX0 yX0_spreadAt yX0_spreadAt, .code yX0_spreadAt cX0_spreadAt 2 (some .int), .methodLink RX0 145 yX0_spreadOfLot, .instanceMethod yX0_spreadOfLot, .selects RX0 yX0_spreadOfLot yX0_spreadOfLot, .code yX0_spreadOfLot cX0_spreadOfLot 8 (some .int)] ++ wsX00)
def wsX0_hasMostlyLow : List Cond := .code yX0_hasMostlyLow cX0_hasMostlyLow 2 (some .boolean) :: ([.fieldLink RX0 32 "SheetRows" "countBelow" "[I", .fieldLink RX0 25 "SheetRows" "greys" "[B"] ++ wsX00)
def wsX0_markDark_r1 : List Cond := [Cond.fieldLink RX0 25 "SheetRows" "greys" "[B", Cond.fieldLink RX0 39 "SheetRows" "dark" "[Z", Cond.methodLink RX0 135 yX0_threshold, Cond.instanceMethod yX0_threshold, Cond.selects RX0 yX0_threshold yX0_threshold, Cond.initialized RX0, Cond.code yX0_threshold cX0_threshold 5 (some .int), Cond.methodLink RX0 75 yX0_tallyGreys, Cond.instanceMethod yX0_tallyGreys, Cond.selects RX0 yX0_tallyGreys yX0_tallyGreys, Cond.code yX0_tallyGreys cX0_tallyGreys 2 none, Cond.fieldLink RX0 32 "SheetRows" "countBelow" "[I", Cond.fieldLink RX0 36 "SheetRows" "sumBelow" "[I", Cond.methodLink RX0 142 yJ7_fill_53178, Cond.static yJ7_fill_53178, Cond.initialized RJ7, Cond.code yJ7_fill_53178 cJ7_fill_53178 4 none, Cond.methodLink RX0 78 yX0_spreadAt, Cond.instanceMethod yX0_spreadAt, Cond.selects RX0 yX0_spreadAt yX0_spreadAt, Cond.code yX0_spreadAt cX0_spreadAt 2 (some .int), Cond.methodLink RX0 145 yX0_spreadOfLot, Cond.instanceMethod yX0_spreadOfLot, Cond.selects RX0 yX0_spreadOfLot yX0_spreadOfLot]
def wsX0_markDark_r2 : List Cond := [Cond.code yX0_spreadOfLot cX0_spreadOfLot 8 (some .int), Cond.methodLink RX0 138 yX0_hasMostlyLow, Cond.instanceMethod yX0_hasMostlyLow, Cond.selects RX0 yX0_hasMostlyLow yX0_hasMostlyLow, Cond.code yX0_hasMostlyLow cX0_hasMostlyLow 2 (some .boolean)]
def wsX0_markDark : List Cond := .code yX0_markDark cX0_markDark 5 none :: ((wsX0_markDark_r1 ++ wsX0_markDark_r2) ++ wsX00)
def wsX0_reach : List Cond := .code yX0_reach cX0_reach 2 none :: ([.fieldLink RX0 39 "SheetRows" "dark" "[Z", .fieldLink RX0 92 "SheetRows" "reachedCount" "I", .fieldLink RX0 46 "SheetRows" "reached" "[I"] ++ wsX00)
def wsX0_reachAround : List Cond := .code yX0_reachAround cX0_reachAround 5 none :: ([.methodLink RX0 15 Lib.Math.max.name, .static Lib.Math.max.name, .initialized "java/lang/Math", .code Lib.Math.max.name Lib.Math.max.code 2 (some .int), .fieldLink RX0 22 "SheetRows" "height" "I", .methodLink RX0 9 Lib.Math.min.name, .static Lib.Math.min.name, .code Lib.Math.min.name Lib.Math.min.code 2 (some .int), .fieldLink RX0 18 "SheetRows" "width" "I", .methodLink RX0 148 yX0_reach, .instanceMethod yX0_reach, .selects RX0 yX0_reach yX0_reach, .initialized RX0, .code yX0_reach cX0_reach 2 none, .fieldLink RX0 39 "SheetRows" "dark" "[Z", .fieldLink RX0 92 "SheetRows" "reachedCount" "I", .fieldLink RX0 46 "SheetRows" "reached" "[I"] ++ wsX00)
def wsX0_reachPart : List Cond := .code yX0_reachPart cX0_reachPart 3 none :: ([.fieldLink RX0 92 "SheetRows" "reachedCount" "I", .fieldLink RX0 46 "SheetRows" "reached" "[I", .fieldLink RX0 18 "SheetRows" "width" "I", .methodLink RX0 148 yX0_reach, .instanceMethod yX0_reach, .selects RX0 yX0_reach yX0_reach, .initialized RX0, .code yX0_reach cX0_reach 2 none, .fieldLink RX0 39 "SheetRows" "dark" "[Z", .methodLink RX0 151 yX0_reachAround, .instanceMethod yX0_reachAround, .selects RX0 yX0_reachAround yX0_reachAround, .code yX0_reachAround cX0_reachAround 5 none, .methodLink RX0 15 Lib.Math.max.name, .static Lib.Math.max.name, .initialized "java/lang/Math", .code Lib.Math.max.name Lib.Math.max.code 2 (some .int), .fieldLink RX0 22 "SheetRows" "height" "I", .methodLink RX0 9 Lib.Math.min.name, .static Lib.Math.min.name, .code Lib.Math.min.name Lib.Math.min.code 2 (some .int)] ++ wsX00)
def wsX0_keepPart : List Cond := .code yX0_keepPart cX0_keepPart 11 none :: ([.fieldLink RX0 85 "SheetRows" "partCount" "I", .fieldLink RX0 49 "SheetRows" "partFacts" "[I", .fieldLink RX0 18 "SheetRows" "width" "I", .fieldLink RX0 22 "SheetRows" "height" "I", .fieldLink RX0 92 "SheetRows" "reachedCount" "I", .fieldLink RX0 46 "SheetRows" "reached" "[I", .methodLink RX0 9 Lib.Math.min.name, .static Lib.Math.min.name, .initialized "java/lang/Math", .code Lib.Math.min.name Lib.Math.min.code 2 (some .int), .methodLink RX0 15 Lib.Math.max.name, .static Lib.Math.max.name, .code Lib.Math.max.name Lib.Math.max.code 2 (some .int)] ++ wsX00)
def wsX0_parts_r1 : List Cond := [Cond.fieldLink RX0 85 "SheetRows" "partCount" "I", Cond.fieldLink RX0 39 "SheetRows" "dark" "[Z", Cond.fieldLink RX0 92 "SheetRows" "reachedCount" "I", Cond.methodLink RX0 82 yX0_markDark, Cond.instanceMethod yX0_markDark, Cond.selects RX0 yX0_markDark yX0_markDark, Cond.initialized RX0, Cond.code yX0_markDark cX0_markDark 5 none, Cond.fieldLink RX0 25 "SheetRows" "greys" "[B", Cond.methodLink RX0 135 yX0_threshold, Cond.instanceMethod yX0_threshold, Cond.selects RX0 yX0_threshold yX0_threshold, Cond.code yX0_threshold cX0_threshold 5 (some .int), Cond.methodLink RX0 75 yX0_tallyGreys, Cond.instanceMethod yX0_tallyGreys, Cond.selects RX0 yX0_tallyGreys yX0_tallyGreys, Cond.code yX0_tallyGreys cX0_tallyGreys 2 none, Cond.fieldLink RX0 32 "SheetRows" "countBelow" "[I", Cond.fieldLink RX0 36 "SheetRows" "sumBelow" "[I", Cond.methodLink RX0 142 yJ7_fill_53178, Cond.static yJ7_fill_53178, Cond.initialized RJ7, Cond.code yJ7_fill_53178 cJ7_fill_53178 4 none, Cond.methodLink RX0 78 yX0_spreadAt]
def wsX0_parts_r2 : List Cond := [Cond.instanceMethod yX0_spreadAt, Cond.selects RX0 yX0_spreadAt yX0_spreadAt, Cond.code yX0_spreadAt cX0_spreadAt 2 (some .int), Cond.methodLink RX0 145 yX0_spreadOfLot, Cond.instanceMethod yX0_spreadOfLot, Cond.selects RX0 yX0_spreadOfLot yX0_spreadOfLot, Cond.code yX0_spreadOfLot cX0_spreadOfLot 8 (some .int), Cond.methodLink RX0 138 yX0_hasMostlyLow, Cond.instanceMethod yX0_hasMostlyLow, Cond.selects RX0 yX0_hasMostlyLow yX0_hasMostlyLow, Cond.code yX0_hasMostlyLow cX0_hasMostlyLow 2 (some .boolean), Cond.methodLink RX0 88 yX0_reachPart, Cond.instanceMethod yX0_reachPart, Cond.selects RX0 yX0_reachPart yX0_reachPart, Cond.code yX0_reachPart cX0_reachPart 3 none, Cond.fieldLink RX0 46 "SheetRows" "reached" "[I", Cond.fieldLink RX0 18 "SheetRows" "width" "I", Cond.methodLink RX0 148 yX0_reach, Cond.instanceMethod yX0_reach, Cond.selects RX0 yX0_reach yX0_reach, Cond.code yX0_reach cX0_reach 2 none, Cond.methodLink RX0 151 yX0_reachAround, Cond.instanceMethod yX0_reachAround, Cond.selects RX0 yX0_reachAround yX0_reachAround]
def wsX0_parts_r3 : List Cond := [Cond.code yX0_reachAround cX0_reachAround 5 none, Cond.methodLink RX0 15 Lib.Math.max.name, Cond.static Lib.Math.max.name, Cond.initialized "java/lang/Math", Cond.code Lib.Math.max.name Lib.Math.max.code 2 (some .int), Cond.fieldLink RX0 22 "SheetRows" "height" "I", Cond.methodLink RX0 9 Lib.Math.min.name, Cond.static Lib.Math.min.name, Cond.code Lib.Math.min.name Lib.Math.min.code 2 (some .int), Cond.methodLink RX0 95 yX0_keepPart, Cond.instanceMethod yX0_keepPart, Cond.selects RX0 yX0_keepPart yX0_keepPart, Cond.code yX0_keepPart cX0_keepPart 11 none, Cond.fieldLink RX0 49 "SheetRows" "partFacts" "[I"]
def wsX0_parts : List Cond := .code yX0_parts cX0_parts 2 (some .int) :: ((wsX0_parts_r1 ++ (wsX0_parts_r2 ++ wsX0_parts_r3)) ++ wsX00)
def wsX0_part : List Cond := .code yX0_part cX0_part 3 (some .int) :: ([.fieldLink RX0 85 "SheetRows" "partCount" "I", .fieldLink RX0 49 "SheetRows" "partFacts" "[I"] ++ wsX00)
def wsJ9_floorDiv_7cf53 : List Cond := .code yJ9_floorDiv_7cf53 cJ9_floorDiv_7cf53 3 (some .int) :: ([])
def wsJ9_floorMod_7cf53 : List Cond := .code yJ9_floorMod_7cf53 cJ9_floorMod_7cf53 3 (some .int) :: ([])
def wsX0_shearAt : List Cond := .code yX0_shearAt cX0_shearAt 3 (some .int) :: ([.fieldLink RX0 22 "SheetRows" "height" "I", .methodLink RX0 155 yJ9_floorDiv_7cf53, .static yJ9_floorDiv_7cf53, .initialized RJ9, .code yJ9_floorDiv_7cf53 cJ9_floorDiv_7cf53 3 (some .int), .methodLink RX0 158 yJ9_floorMod_7cf53, .static yJ9_floorMod_7cf53, .code yJ9_floorMod_7cf53 cJ9_floorMod_7cf53 3 (some .int)] ++ wsX00)
def wsX0_sumOfSquares : List Cond := .code yX0_sumOfSquares cX0_sumOfSquares 5 (some .int) :: ([.fieldLink RX0 43 "SheetRows" "darkInRow" "[I", .fieldLink RX0 18 "SheetRows" "width" "I", .fieldLink RX0 22 "SheetRows" "height" "I", .fieldLink RX0 39 "SheetRows" "dark" "[Z", .methodLink RX0 142 yJ7_fill_53178, .static yJ7_fill_53178, .initialized RJ7, .code yJ7_fill_53178 cJ7_fill_53178 4 none, .methodLink RX0 101 yX0_shearAt, .instanceMethod yX0_shearAt, .selects RX0 yX0_shearAt yX0_shearAt, .initialized RX0, .code yX0_shearAt cX0_shearAt 3 (some .int), .methodLink RX0 155 yJ9_floorDiv_7cf53, .static yJ9_floorDiv_7cf53, .initialized RJ9, .code yJ9_floorDiv_7cf53 cJ9_floorDiv_7cf53 3 (some .int), .methodLink RX0 158 yJ9_floorMod_7cf53, .static yJ9_floorMod_7cf53, .code yJ9_floorMod_7cf53 cJ9_floorMod_7cf53 3 (some .int)] ++ wsX00)
def wsX0_skew_r1 : List Cond := [Cond.methodLink RX0 82 yX0_markDark, Cond.instanceMethod yX0_markDark, Cond.selects RX0 yX0_markDark yX0_markDark, Cond.initialized RX0, Cond.code yX0_markDark cX0_markDark 5 none, Cond.fieldLink RX0 25 "SheetRows" "greys" "[B", Cond.fieldLink RX0 39 "SheetRows" "dark" "[Z", Cond.methodLink RX0 135 yX0_threshold, Cond.instanceMethod yX0_threshold, Cond.selects RX0 yX0_threshold yX0_threshold, Cond.code yX0_threshold cX0_threshold 5 (some .int), Cond.methodLink RX0 75 yX0_tallyGreys, Cond.instanceMethod yX0_tallyGreys, Cond.selects RX0 yX0_tallyGreys yX0_tallyGreys, Cond.code yX0_tallyGreys cX0_tallyGreys 2 none, Cond.fieldLink RX0 32 "SheetRows" "countBelow" "[I", Cond.fieldLink RX0 36 "SheetRows" "sumBelow" "[I", Cond.methodLink RX0 142 yJ7_fill_53178, Cond.static yJ7_fill_53178, Cond.initialized RJ7, Cond.code yJ7_fill_53178 cJ7_fill_53178 4 none, Cond.methodLink RX0 78 yX0_spreadAt, Cond.instanceMethod yX0_spreadAt, Cond.selects RX0 yX0_spreadAt yX0_spreadAt]
def wsX0_skew_r2 : List Cond := [Cond.code yX0_spreadAt cX0_spreadAt 2 (some .int), Cond.methodLink RX0 145 yX0_spreadOfLot, Cond.instanceMethod yX0_spreadOfLot, Cond.selects RX0 yX0_spreadOfLot yX0_spreadOfLot, Cond.code yX0_spreadOfLot cX0_spreadOfLot 8 (some .int), Cond.methodLink RX0 138 yX0_hasMostlyLow, Cond.instanceMethod yX0_hasMostlyLow, Cond.selects RX0 yX0_hasMostlyLow yX0_hasMostlyLow, Cond.code yX0_hasMostlyLow cX0_hasMostlyLow 2 (some .boolean), Cond.methodLink RX0 98 yX0_sumOfSquares, Cond.instanceMethod yX0_sumOfSquares, Cond.selects RX0 yX0_sumOfSquares yX0_sumOfSquares, Cond.code yX0_sumOfSquares cX0_sumOfSquares 5 (some .int), Cond.fieldLink RX0 43 "SheetRows" "darkInRow" "[I", Cond.fieldLink RX0 18 "SheetRows" "width" "I", Cond.fieldLink RX0 22 "SheetRows" "height" "I", Cond.methodLink RX0 101 yX0_shearAt, Cond.instanceMethod yX0_shearAt, Cond.selects RX0 yX0_shearAt yX0_shearAt, Cond.code yX0_shearAt cX0_shearAt 3 (some .int), Cond.methodLink RX0 155 yJ9_floorDiv_7cf53, Cond.static yJ9_floorDiv_7cf53, Cond.initialized RJ9, Cond.code yJ9_floorDiv_7cf53 cJ9_floorDiv_7cf53 3 (some .int)]
def wsX0_skew_r3 : List Cond := [Cond.methodLink RX0 158 yJ9_floorMod_7cf53, Cond.static yJ9_floorMod_7cf53, Cond.code yJ9_floorMod_7cf53 cJ9_floorMod_7cf53 3 (some .int)]
def wsX0_skew : List Cond := .code yX0_skew cX0_skew 6 (some .int) :: ((wsX0_skew_r1 ++ (wsX0_skew_r2 ++ wsX0_skew_r3)) ++ wsX00)
def wsX0_takeSpare : List Cond := .code yX0_takeSpare cX0_takeSpare 3 (some .int) :: ([.fieldLink RX0 25 "SheetRows" "greys" "[B", .fieldLink RX0 29 "SheetRows" "spare" "[B"] ++ wsX00)
def wsX0_turn : List Cond := .code yX0_turn cX0_turn 5 (some .int) :: ([.fieldLink RX0 18 "SheetRows" "width" "I", .fieldLink RX0 22 "SheetRows" "height" "I", .fieldLink RX0 29 "SheetRows" "spare" "[B", .fieldLink RX0 25 "SheetRows" "greys" "[B", .methodLink RX0 101 yX0_shearAt, .instanceMethod yX0_shearAt, .selects RX0 yX0_shearAt yX0_shearAt, .initialized RX0, .code yX0_shearAt cX0_shearAt 3 (some .int), .methodLink RX0 155 yJ9_floorDiv_7cf53, .static yJ9_floorDiv_7cf53, .initialized RJ9, .code yJ9_floorDiv_7cf53 cJ9_floorDiv_7cf53 3 (some .int), .methodLink RX0 158 yJ9_floorMod_7cf53, .static yJ9_floorMod_7cf53, .code yJ9_floorMod_7cf53 cJ9_floorMod_7cf53 3 (some .int), .methodLink RX0 104 yX0_takeSpare, .instanceMethod yX0_takeSpare, .selects RX0 yX0_takeSpare yX0_takeSpare, .code yX0_takeSpare cX0_takeSpare 3 (some .int)] ++ wsX00)
def wsX0_packStretch : List Cond := .code yX0_packStretch cX0_packStretch 3 none :: ([.fieldLink RX0 108 "SheetRows" "packedCount" "I", .fieldLink RX0 52 "SheetRows" "packed" "[B"] ++ wsX00)
def wsX0_pack : List Cond := .code yX0_pack cX0_pack 3 (some .int) :: ([.fieldLink RX0 108 "SheetRows" "packedCount" "I", .fieldLink RX0 25 "SheetRows" "greys" "[B", .methodLink RX0 111 yX0_packStretch, .instanceMethod yX0_packStretch, .selects RX0 yX0_packStretch yX0_packStretch, .initialized RX0, .code yX0_packStretch cX0_packStretch 3 none, .fieldLink RX0 52 "SheetRows" "packed" "[B"] ++ wsX00)
def wsX0_octet : List Cond := .code yX0_octet cX0_octet 2 (some .byte) :: ([.fieldLink RX0 108 "SheetRows" "packedCount" "I", .classLink RX0 68 RJx00060, .instantiable RJx00060 6, .initialized RJx00060, .fieldLink RX0 52 "SheetRows" "packed" "[B"] ++ wsX00 ++ wsJx000600)
def wsX0_add : List Cond := .code yX0_add cX0_add 2 none :: ([.fieldLink RX0 117 "SheetRows" "collectedCount" "I", .fieldLink RX0 55 "SheetRows" "collected" "[B"] ++ wsX00)
def wsX0_readCollected : List Cond := .code yX0_readCollected cX0_readCollected 6 (some .int) :: ([.fieldLink RX0 117 "SheetRows" "collectedCount" "I", .fieldLink RX0 55 "SheetRows" "collected" "[B", .fieldLink RX0 29 "SheetRows" "spare" "[B"] ++ wsX00)
def wsX0_unpack : List Cond := .code yX0_unpack cX0_unpack 2 (some .int) :: ([.fieldLink RX0 117 "SheetRows" "collectedCount" "I", .methodLink RX0 120 yX0_readCollected, .instanceMethod yX0_readCollected, .selects RX0 yX0_readCollected yX0_readCollected, .initialized RX0, .code yX0_readCollected cX0_readCollected 6 (some .int), .fieldLink RX0 55 "SheetRows" "collected" "[B", .fieldLink RX0 29 "SheetRows" "spare" "[B", .methodLink RX0 104 yX0_takeSpare, .instanceMethod yX0_takeSpare, .selects RX0 yX0_takeSpare yX0_takeSpare, .code yX0_takeSpare cX0_takeSpare 3 (some .int), .fieldLink RX0 25 "SheetRows" "greys" "[B"] ++ wsX00)
def wsX0_mirrorRows : List Cond := .code yX0_mirrorRows cX0_mirrorRows 3 none :: ([.fieldLink RX0 22 "SheetRows" "height" "I", .fieldLink RX0 18 "SheetRows" "width" "I", .fieldLink RX0 29 "SheetRows" "spare" "[B", .fieldLink RX0 25 "SheetRows" "greys" "[B"] ++ wsX00)
def wsX0_reverseRows : List Cond := .code yX0_reverseRows cX0_reverseRows 3 none :: ([.fieldLink RX0 22 "SheetRows" "height" "I", .fieldLink RX0 18 "SheetRows" "width" "I", .fieldLink RX0 29 "SheetRows" "spare" "[B", .fieldLink RX0 25 "SheetRows" "greys" "[B"] ++ wsX00)
def wsX0_invertGreys : List Cond := .code yX0_invertGreys cX0_invertGreys 2 none :: ([.fieldLink RX0 25 "SheetRows" "greys" "[B", .fieldLink RX0 29 "SheetRows" "spare" "[B"] ++ wsX00)
def wsX0_meanOfFour : List Cond := .code yX0_meanOfFour cX0_meanOfFour 4 (some .byte) :: ([.fieldLink RX0 25 "SheetRows" "greys" "[B", .fieldLink RX0 18 "SheetRows" "width" "I"] ++ wsX00)
def wsX0_halve : List Cond := .code yX0_halve cX0_halve 3 none :: ([.fieldLink RX0 29 "SheetRows" "spare" "[B", .fieldLink RX0 22 "SheetRows" "height" "I", .fieldLink RX0 18 "SheetRows" "width" "I", .methodLink RX0 58 yJ7_fill_031fb, .static yJ7_fill_031fb, .initialized RJ7, .code yJ7_fill_031fb cJ7_fill_031fb 4 none, .methodLink RX0 161 yX0_meanOfFour, .instanceMethod yX0_meanOfFour, .selects RX0 yX0_meanOfFour yX0_meanOfFour, .initialized RX0, .code yX0_meanOfFour cX0_meanOfFour 4 (some .byte), .fieldLink RX0 25 "SheetRows" "greys" "[B"] ++ wsX00)
def wsX0_side_r1 : List Cond := [Cond.methodLink RX0 123 yX0_mirrorRows, Cond.instanceMethod yX0_mirrorRows, Cond.selects RX0 yX0_mirrorRows yX0_mirrorRows, Cond.initialized RX0, Cond.code yX0_mirrorRows cX0_mirrorRows 3 none, Cond.fieldLink RX0 22 "SheetRows" "height" "I", Cond.fieldLink RX0 18 "SheetRows" "width" "I", Cond.fieldLink RX0 29 "SheetRows" "spare" "[B", Cond.fieldLink RX0 25 "SheetRows" "greys" "[B", Cond.methodLink RX0 126 yX0_reverseRows, Cond.instanceMethod yX0_reverseRows, Cond.selects RX0 yX0_reverseRows yX0_reverseRows, Cond.code yX0_reverseRows cX0_reverseRows 3 none, Cond.methodLink RX0 129 yX0_invertGreys, Cond.instanceMethod yX0_invertGreys, Cond.selects RX0 yX0_invertGreys yX0_invertGreys, Cond.code yX0_invertGreys cX0_invertGreys 2 none, Cond.methodLink RX0 132 yX0_halve, Cond.instanceMethod yX0_halve, Cond.selects RX0 yX0_halve yX0_halve, Cond.code yX0_halve cX0_halve 3 none, Cond.methodLink RX0 58 yJ7_fill_031fb, Cond.static yJ7_fill_031fb, Cond.initialized RJ7]
def wsX0_side_r2 : List Cond := [Cond.code yJ7_fill_031fb cJ7_fill_031fb 4 none, Cond.methodLink RX0 161 yX0_meanOfFour, Cond.instanceMethod yX0_meanOfFour, Cond.selects RX0 yX0_meanOfFour yX0_meanOfFour, Cond.code yX0_meanOfFour cX0_meanOfFour 4 (some .byte), Cond.methodLink RX0 104 yX0_takeSpare, Cond.instanceMethod yX0_takeSpare, Cond.selects RX0 yX0_takeSpare yX0_takeSpare, Cond.code yX0_takeSpare cX0_takeSpare 3 (some .int)]
def wsX0_side : List Cond := .code yX0_side cX0_side 2 (some .int) :: ((wsX0_side_r1 ++ wsX0_side_r2) ++ wsX00)
def wsX0_inverted_r1 : List Cond := [Cond.methodLink RX0 135 yX0_threshold, Cond.instanceMethod yX0_threshold, Cond.selects RX0 yX0_threshold yX0_threshold, Cond.initialized RX0, Cond.code yX0_threshold cX0_threshold 5 (some .int), Cond.methodLink RX0 75 yX0_tallyGreys, Cond.instanceMethod yX0_tallyGreys, Cond.selects RX0 yX0_tallyGreys yX0_tallyGreys, Cond.code yX0_tallyGreys cX0_tallyGreys 2 none, Cond.fieldLink RX0 32 "SheetRows" "countBelow" "[I", Cond.fieldLink RX0 25 "SheetRows" "greys" "[B", Cond.fieldLink RX0 36 "SheetRows" "sumBelow" "[I", Cond.methodLink RX0 142 yJ7_fill_53178, Cond.static yJ7_fill_53178, Cond.initialized RJ7, Cond.code yJ7_fill_53178 cJ7_fill_53178 4 none, Cond.methodLink RX0 78 yX0_spreadAt, Cond.instanceMethod yX0_spreadAt, Cond.selects RX0 yX0_spreadAt yX0_spreadAt, Cond.code yX0_spreadAt cX0_spreadAt 2 (some .int), Cond.methodLink RX0 145 yX0_spreadOfLot, Cond.instanceMethod yX0_spreadOfLot, Cond.selects RX0 yX0_spreadOfLot yX0_spreadOfLot, Cond.code yX0_spreadOfLot cX0_spreadOfLot 8 (some .int)]
def wsX0_inverted_r2 : List Cond := [Cond.methodLink RX0 138 yX0_hasMostlyLow, Cond.instanceMethod yX0_hasMostlyLow, Cond.selects RX0 yX0_hasMostlyLow yX0_hasMostlyLow, Cond.code yX0_hasMostlyLow cX0_hasMostlyLow 2 (some .boolean)]
def wsX0_inverted : List Cond := .code yX0_inverted cX0_inverted 1 (some .boolean) :: ((wsX0_inverted_r1 ++ wsX0_inverted_r2) ++ wsX00)
def wsX0_grey : List Cond := .code yX0_grey cX0_grey 3 (some .int) :: ([.classLink RX0 68 RJx00060, .instantiable RJx00060 6, .initialized RJx00060, .fieldLink RX0 25 "SheetRows" "greys" "[B", .fieldLink RX0 18 "SheetRows" "width" "I", .methodLink RX0 64 yX0_isOnSheet, .instanceMethod yX0_isOnSheet, .selects RX0 yX0_isOnSheet yX0_isOnSheet, .initialized RX0, .code yX0_isOnSheet cX0_isOnSheet 3 (some .boolean), .fieldLink RX0 22 "SheetRows" "height" "I"] ++ wsJx000600 ++ wsX00)
def wsX1_init : List Cond := .code yX1_init cX1_init 4 none :: ([.methodLink RX1 1 objectInit, .instanceMethod objectInit, .code objectInit ⟨#[0xb1]⟩ 1 none, .arrayClass .int, .fieldLink RX1 7 "SheetRowsModel" "greys" "[I", .fieldLink RX1 13 "SheetRowsModel" "other" "[I", .fieldLink RX1 16 "SheetRowsModel" "counts" "[I", .fieldLink RX1 19 "SheetRowsModel" "labels" "[I", .fieldLink RX1 22 "SheetRowsModel" "firsts" "[I", .fieldLink RX1 25 "SheetRowsModel" "told" "[I", .arrayClass .byte, .fieldLink RX1 28 "SheetRowsModel" "pairs" "[B", .fieldLink RX1 32 "SheetRowsModel" "bytes" "[B", .fieldLink RX1 35 "SheetRowsModel" "w" "I", .fieldLink RX1 39 "SheetRowsModel" "h" "I", .fieldLink RX1 42 "SheetRowsModel" "n" "I"] ++ wsX10)
def wsX1_thrown : List Cond := .code yX1_thrown cX1_thrown 1 (some .int) :: ([.fieldLink RX1 45 "SheetRowsModel" "thrown" "I"] ++ wsX10)
def wsX1_refused : List Cond := .code yX1_refused cX1_refused 2 (some .boolean) :: ([.fieldLink RX1 45 "SheetRowsModel" "thrown" "I"] ++ wsX10)
def wsX1_isOn : List Cond := .code yX1_isOn cX1_isOn 3 (some .boolean) :: ([.fieldLink RX1 35 "SheetRowsModel" "w" "I", .fieldLink RX1 39 "SheetRowsModel" "h" "I"] ++ wsX10)
def wsX1_put : List Cond := .code yX1_put cX1_put 4 none :: ([.fieldLink RX1 7 "SheetRowsModel" "greys" "[I", .fieldLink RX1 35 "SheetRowsModel" "w" "I", .methodLink RX1 48 yX1_isOn, .instanceMethod yX1_isOn, .selects RX1 yX1_isOn yX1_isOn, .initialized RX1, .code yX1_isOn cX1_isOn 3 (some .boolean), .fieldLink RX1 39 "SheetRowsModel" "h" "I", .methodLink RX1 52 yX1_refused, .instanceMethod yX1_refused, .selects RX1 yX1_refused yX1_refused, .code yX1_refused cX1_refused 2 (some .boolean), .fieldLink RX1 45 "SheetRowsModel" "thrown" "I"] ++ wsX10)
def wsX1_grey : List Cond := .code yX1_grey cX1_grey 3 (some .int) :: ([.fieldLink RX1 7 "SheetRowsModel" "greys" "[I", .fieldLink RX1 35 "SheetRowsModel" "w" "I", .methodLink RX1 48 yX1_isOn, .instanceMethod yX1_isOn, .selects RX1 yX1_isOn yX1_isOn, .initialized RX1, .code yX1_isOn cX1_isOn 3 (some .boolean), .fieldLink RX1 39 "SheetRowsModel" "h" "I", .methodLink RX1 52 yX1_refused, .instanceMethod yX1_refused, .selects RX1 yX1_refused yX1_refused, .code yX1_refused cX1_refused 2 (some .boolean), .fieldLink RX1 45 "SheetRowsModel" "thrown" "I"] ++ wsX10)
def wsX1_spread : List Cond := .code yX1_spread cX1_spread 8 (some .int) :: ([.fieldLink RX1 16 "SheetRowsModel" "counts" "[I"] ++ wsX10)
def wsX1_thresholdNow : List Cond := .code yX1_thresholdNow cX1_thresholdNow 5 (some .int) :: ([.fieldLink RX1 16 "SheetRowsModel" "counts" "[I", .fieldLink RX1 42 "SheetRowsModel" "n" "I", .fieldLink RX1 7 "SheetRowsModel" "greys" "[I", .methodLink RX1 56 yX1_spread, .instanceMethod yX1_spread, .selects RX1 yX1_spread yX1_spread, .initialized RX1, .code yX1_spread cX1_spread 8 (some .int)] ++ wsX10)
def wsX1_threshold : List Cond := .code yX1_threshold cX1_threshold 1 (some .int) :: ([.fieldLink RX1 45 "SheetRowsModel" "thrown" "I", .methodLink RX1 60 yX1_thresholdNow, .instanceMethod yX1_thresholdNow, .selects RX1 yX1_thresholdNow yX1_thresholdNow, .initialized RX1, .code yX1_thresholdNow cX1_thresholdNow 5 (some .int), .fieldLink RX1 16 "SheetRowsModel" "counts" "[I", .fieldLink RX1 42 "SheetRowsModel" "n" "I", .fieldLink RX1 7 "SheetRowsModel" "greys" "[I", .methodLink RX1 56 yX1_spread, .instanceMethod yX1_spread, .selects RX1 yX1_spread yX1_spread, .code yX1_spread cX1_spread 8 (some .int)] ++ wsX10)
def wsX1_isInverted : List Cond := .code yX1_isInverted cX1_isInverted 4 (some .boolean) :: ([.fieldLink RX1 42 "SheetRowsModel" "n" "I", .fieldLink RX1 7 "SheetRowsModel" "greys" "[I"] ++ wsX10)
def wsX1_inverted : List Cond := .code yX1_inverted cX1_inverted 1 (some .boolean) :: ([.fieldLink RX1 45 "SheetRowsModel" "thrown" "I", .methodLink RX1 60 yX1_thresholdNow, .instanceMethod yX1_thresholdNow, .selects RX1 yX1_thresholdNow yX1_thresholdNow, .initialized RX1, .code yX1_thresholdNow cX1_thresholdNow 5 (some .int), .fieldLink RX1 16 "SheetRowsModel" "counts" "[I", .fieldLink RX1 42 "SheetRowsModel" "n" "I", .fieldLink RX1 7 "SheetRowsModel" "greys" "[I", .methodLink RX1 56 yX1_spread, .instanceMethod yX1_spread, .selects RX1 yX1_spread yX1_spread, .code yX1_spread cX1_spread 8 (some .int), .methodLink RX1 64 yX1_isInverted, .instanceMethod yX1_isInverted, .selects RX1 yX1_isInverted yX1_isInverted, .code yX1_isInverted cX1_isInverted 4 (some .boolean)] ++ wsX10)
def wsX1_darken : List Cond := .code yX1_darken cX1_darken 5 none :: ([.fieldLink RX1 42 "SheetRowsModel" "n" "I", .fieldLink RX1 7 "SheetRowsModel" "greys" "[I", .fieldLink RX1 13 "SheetRowsModel" "other" "[I", .methodLink RX1 60 yX1_thresholdNow, .instanceMethod yX1_thresholdNow, .selects RX1 yX1_thresholdNow yX1_thresholdNow, .initialized RX1, .code yX1_thresholdNow cX1_thresholdNow 5 (some .int), .fieldLink RX1 16 "SheetRowsModel" "counts" "[I", .methodLink RX1 56 yX1_spread, .instanceMethod yX1_spread, .selects RX1 yX1_spread yX1_spread, .code yX1_spread cX1_spread 8 (some .int), .methodLink RX1 64 yX1_isInverted, .instanceMethod yX1_isInverted, .selects RX1 yX1_isInverted yX1_isInverted, .code yX1_isInverted cX1_isInverted 4 (some .boolean)] ++ wsX10)
def wsX1_leastAround : List Cond := .code yX1_leastAround cX1_leastAround 7 (some .int) :: ([.fieldLink RX1 19 "SheetRowsModel" "labels" "[I", .fieldLink RX1 35 "SheetRowsModel" "w" "I", .fieldLink RX1 13 "SheetRowsModel" "other" "[I", .methodLink RX1 48 yX1_isOn, .instanceMethod yX1_isOn, .selects RX1 yX1_isOn yX1_isOn, .initialized RX1, .code yX1_isOn cX1_isOn 3 (some .boolean), .fieldLink RX1 39 "SheetRowsModel" "h" "I"] ++ wsX10)
def wsX1_sizeOf : List Cond := .code yX1_sizeOf cX1_sizeOf 4 (some .int) :: ([.fieldLink RX1 42 "SheetRowsModel" "n" "I", .fieldLink RX1 13 "SheetRowsModel" "other" "[I", .fieldLink RX1 19 "SheetRowsModel" "labels" "[I"] ++ wsX10)
def wsX1_tell : List Cond := .code yX1_tell cX1_tell 6 none :: ([.fieldLink RX1 75 "SheetRowsModel" "parts" "I", .fieldLink RX1 25 "SheetRowsModel" "told" "[I", .fieldLink RX1 35 "SheetRowsModel" "w" "I", .fieldLink RX1 39 "SheetRowsModel" "h" "I", .fieldLink RX1 42 "SheetRowsModel" "n" "I", .fieldLink RX1 13 "SheetRowsModel" "other" "[I", .fieldLink RX1 19 "SheetRowsModel" "labels" "[I"] ++ wsX10)
def wsX1_parts_r1 : List Cond := [Cond.fieldLink RX1 45 "SheetRowsModel" "thrown" "I", Cond.fieldLink RX1 42 "SheetRowsModel" "n" "I", Cond.fieldLink RX1 19 "SheetRowsModel" "labels" "[I", Cond.fieldLink RX1 13 "SheetRowsModel" "other" "[I", Cond.fieldLink RX1 75 "SheetRowsModel" "parts" "I", Cond.methodLink RX1 68 yX1_darken, Cond.instanceMethod yX1_darken, Cond.selects RX1 yX1_darken yX1_darken, Cond.initialized RX1, Cond.code yX1_darken cX1_darken 5 none, Cond.fieldLink RX1 7 "SheetRowsModel" "greys" "[I", Cond.methodLink RX1 60 yX1_thresholdNow, Cond.instanceMethod yX1_thresholdNow, Cond.selects RX1 yX1_thresholdNow yX1_thresholdNow, Cond.code yX1_thresholdNow cX1_thresholdNow 5 (some .int), Cond.fieldLink RX1 16 "SheetRowsModel" "counts" "[I", Cond.methodLink RX1 56 yX1_spread, Cond.instanceMethod yX1_spread, Cond.selects RX1 yX1_spread yX1_spread, Cond.code yX1_spread cX1_spread 8 (some .int), Cond.methodLink RX1 64 yX1_isInverted, Cond.instanceMethod yX1_isInverted, Cond.selects RX1 yX1_isInverted yX1_isInverted, Cond.code yX1_isInverted cX1_isInverted 4 (some .boolean)]
def wsX1_parts_r2 : List Cond := [Cond.methodLink RX1 71 yX1_leastAround, Cond.instanceMethod yX1_leastAround, Cond.selects RX1 yX1_leastAround yX1_leastAround, Cond.code yX1_leastAround cX1_leastAround 7 (some .int), Cond.fieldLink RX1 35 "SheetRowsModel" "w" "I", Cond.methodLink RX1 48 yX1_isOn, Cond.instanceMethod yX1_isOn, Cond.selects RX1 yX1_isOn yX1_isOn, Cond.code yX1_isOn cX1_isOn 3 (some .boolean), Cond.fieldLink RX1 39 "SheetRowsModel" "h" "I", Cond.methodLink RX1 78 yX1_sizeOf, Cond.instanceMethod yX1_sizeOf, Cond.selects RX1 yX1_sizeOf yX1_sizeOf, Cond.code yX1_sizeOf cX1_sizeOf 4 (some .int), Cond.methodLink RX1 81 yX1_tell, Cond.instanceMethod yX1_tell, Cond.selects RX1 yX1_tell yX1_tell, Cond.code yX1_tell cX1_tell 6 none, Cond.fieldLink RX1 25 "SheetRowsModel" "told" "[I"]
def wsX1_parts : List Cond := .code yX1_parts cX1_parts 5 (some .int) :: ((wsX1_parts_r1 ++ wsX1_parts_r2) ++ wsX10)
def wsX1_part : List Cond := .code yX1_part cX1_part 3 (some .int) :: ([.fieldLink RX1 45 "SheetRowsModel" "thrown" "I", .fieldLink RX1 75 "SheetRowsModel" "parts" "I", .fieldLink RX1 25 "SheetRowsModel" "told" "[I"] ++ wsX10)
def wsX1_rowOf : List Cond := .code yX1_rowOf cX1_rowOf 5 (some .int) :: ([.fieldLink RX1 39 "SheetRowsModel" "h" "I"] ++ wsX10)
def wsX1_skew_r1 : List Cond := [Cond.fieldLink RX1 45 "SheetRowsModel" "thrown" "I", Cond.fieldLink RX1 39 "SheetRowsModel" "h" "I", Cond.fieldLink RX1 16 "SheetRowsModel" "counts" "[I", Cond.fieldLink RX1 42 "SheetRowsModel" "n" "I", Cond.fieldLink RX1 35 "SheetRowsModel" "w" "I", Cond.fieldLink RX1 13 "SheetRowsModel" "other" "[I", Cond.methodLink RX1 68 yX1_darken, Cond.instanceMethod yX1_darken, Cond.selects RX1 yX1_darken yX1_darken, Cond.initialized RX1, Cond.code yX1_darken cX1_darken 5 none, Cond.fieldLink RX1 7 "SheetRowsModel" "greys" "[I", Cond.methodLink RX1 60 yX1_thresholdNow, Cond.instanceMethod yX1_thresholdNow, Cond.selects RX1 yX1_thresholdNow yX1_thresholdNow, Cond.code yX1_thresholdNow cX1_thresholdNow 5 (some .int), Cond.methodLink RX1 56 yX1_spread, Cond.instanceMethod yX1_spread, Cond.selects RX1 yX1_spread yX1_spread, Cond.code yX1_spread cX1_spread 8 (some .int), Cond.methodLink RX1 64 yX1_isInverted, Cond.instanceMethod yX1_isInverted, Cond.selects RX1 yX1_isInverted yX1_isInverted, Cond.code yX1_isInverted cX1_isInverted 4 (some .boolean)]
def wsX1_skew_r2 : List Cond := [Cond.methodLink RX1 85 yX1_rowOf, Cond.instanceMethod yX1_rowOf, Cond.selects RX1 yX1_rowOf yX1_rowOf, Cond.code yX1_rowOf cX1_rowOf 5 (some .int)]
def wsX1_skew : List Cond := .code yX1_skew cX1_skew 7 (some .int) :: ((wsX1_skew_r1 ++ wsX1_skew_r2) ++ wsX10)
def wsX1_change : List Cond := .code yX1_change cX1_change 3 (some .int) :: ([.fieldLink RX1 42 "SheetRowsModel" "n" "I", .fieldLink RX1 13 "SheetRowsModel" "other" "[I", .fieldLink RX1 7 "SheetRowsModel" "greys" "[I"] ++ wsX10)
def wsX1_turn : List Cond := .code yX1_turn cX1_turn 3 (some .int) :: ([.fieldLink RX1 45 "SheetRowsModel" "thrown" "I", .fieldLink RX1 42 "SheetRowsModel" "n" "I", .fieldLink RX1 13 "SheetRowsModel" "other" "[I", .fieldLink RX1 35 "SheetRowsModel" "w" "I", .fieldLink RX1 7 "SheetRowsModel" "greys" "[I", .methodLink RX1 85 yX1_rowOf, .instanceMethod yX1_rowOf, .selects RX1 yX1_rowOf yX1_rowOf, .initialized RX1, .code yX1_rowOf cX1_rowOf 5 (some .int), .fieldLink RX1 39 "SheetRowsModel" "h" "I", .methodLink RX1 89 yX1_change, .instanceMethod yX1_change, .selects RX1 yX1_change yX1_change, .code yX1_change cX1_change 3 (some .int)] ++ wsX10)
def wsX1_pack : List Cond := .code yX1_pack cX1_pack 3 (some .int) :: ([.fieldLink RX1 45 "SheetRowsModel" "thrown" "I", .fieldLink RX1 92 "SheetRowsModel" "packed" "I", .fieldLink RX1 42 "SheetRowsModel" "n" "I", .fieldLink RX1 7 "SheetRowsModel" "greys" "[I", .fieldLink RX1 28 "SheetRowsModel" "pairs" "[B"] ++ wsX10)
def wsX1_octet : List Cond := .code yX1_octet cX1_octet 2 (some .byte) :: ([.fieldLink RX1 92 "SheetRowsModel" "packed" "I", .fieldLink RX1 28 "SheetRowsModel" "pairs" "[B", .methodLink RX1 52 yX1_refused, .instanceMethod yX1_refused, .selects RX1 yX1_refused yX1_refused, .initialized RX1, .code yX1_refused cX1_refused 2 (some .boolean), .fieldLink RX1 45 "SheetRowsModel" "thrown" "I"] ++ wsX10)
def wsX1_add : List Cond := .code yX1_add cX1_add 2 none :: ([.fieldLink RX1 45 "SheetRowsModel" "thrown" "I", .fieldLink RX1 95 "SheetRowsModel" "collected" "I", .fieldLink RX1 32 "SheetRowsModel" "bytes" "[B"] ++ wsX10)
def wsX1_unpack : List Cond := .code yX1_unpack cX1_unpack 6 (some .int) :: ([.fieldLink RX1 45 "SheetRowsModel" "thrown" "I", .fieldLink RX1 95 "SheetRowsModel" "collected" "I", .fieldLink RX1 42 "SheetRowsModel" "n" "I", .fieldLink RX1 32 "SheetRowsModel" "bytes" "[B", .fieldLink RX1 13 "SheetRowsModel" "other" "[I", .methodLink RX1 89 yX1_change, .instanceMethod yX1_change, .selects RX1 yX1_change yX1_change, .initialized RX1, .code yX1_change cX1_change 3 (some .int), .fieldLink RX1 7 "SheetRowsModel" "greys" "[I"] ++ wsX10)
def wsX1_mean : List Cond := .code yX1_mean cX1_mean 4 (some .int) :: ([.fieldLink RX1 35 "SheetRowsModel" "w" "I", .fieldLink RX1 7 "SheetRowsModel" "greys" "[I"] ++ wsX10)
def wsX1_side : List Cond := .code yX1_side cX1_side 5 (some .int) :: ([.fieldLink RX1 45 "SheetRowsModel" "thrown" "I", .fieldLink RX1 42 "SheetRowsModel" "n" "I", .fieldLink RX1 35 "SheetRowsModel" "w" "I", .fieldLink RX1 13 "SheetRowsModel" "other" "[I", .fieldLink RX1 7 "SheetRowsModel" "greys" "[I", .fieldLink RX1 39 "SheetRowsModel" "h" "I", .methodLink RX1 98 yX1_mean, .instanceMethod yX1_mean, .selects RX1 yX1_mean yX1_mean, .initialized RX1, .code yX1_mean cX1_mean 4 (some .int), .methodLink RX1 89 yX1_change, .instanceMethod yX1_change, .selects RX1 yX1_change yX1_change, .code yX1_change cX1_change 3 (some .int)] ++ wsX10)
def wsJx00060_init_a7421 : List Cond := .code yJx00060_init_a7421 cJx00060_init_a7421 2 none :: ([])
def wsJ9_max_7cf53 : List Cond := .code yJ9_max_7cf53 cJ9_max_7cf53 2 (some .int) :: ([])
def wsJ9_min_7cf53 : List Cond := .code yJ9_min_7cf53 cJ9_min_7cf53 2 (some .int) :: ([])
def wsL_cell : List Cond := .code yL_cell cL_cell 2 (some .int) :: ([])
def wsL_put : List Cond := .codeWith yL_put cL_put 5 (some .int) [(0, 7, 10, 13)] :: ([.methodLink RL 7 yX0_put, .instanceMethod yX0_put, .selects RX0 yX0_put yX0_put, .initialized RX0, .code yX0_put cX0_put 4 none, .classLink RX0 68 RJx00060, .instantiable RJx00060 6, .initialized RJx00060, .fieldLink RX0 25 "SheetRows" "greys" "[B", .fieldLink RX0 18 "SheetRows" "width" "I", .methodLink RX0 64 yX0_isOnSheet, .instanceMethod yX0_isOnSheet, .selects RX0 yX0_isOnSheet yX0_isOnSheet, .code yX0_isOnSheet cX0_isOnSheet 3 (some .boolean), .fieldLink RX0 22 "SheetRows" "height" "I"] ++ wsJx000600 ++ wsX00)
def wsL_octet : List Cond := .codeWith yL_octet cL_octet 4 (some .int) [(0, 9, 12, 13)] :: ([.methodLink RL 15 yX0_octet, .instanceMethod yX0_octet, .selects RX0 yX0_octet yX0_octet, .initialized RX0, .code yX0_octet cX0_octet 2 (some .byte), .fieldLink RX0 108 "SheetRows" "packedCount" "I", .classLink RX0 68 RJx00060, .instantiable RJx00060 6, .initialized RJx00060, .fieldLink RX0 52 "SheetRows" "packed" "[B"] ++ wsX00 ++ wsJx000600)
def wsL_grey : List Cond := .codeWith yL_grey cL_grey 5 (some .int) [(0, 10, 13, 13)] :: ([.methodLink RL 19 yX0_grey, .instanceMethod yX0_grey, .selects RX0 yX0_grey yX0_grey, .initialized RX0, .code yX0_grey cX0_grey 3 (some .int), .classLink RX0 68 RJx00060, .instantiable RJx00060 6, .initialized RJx00060, .fieldLink RX0 25 "SheetRows" "greys" "[B", .fieldLink RX0 18 "SheetRows" "width" "I", .methodLink RX0 64 yX0_isOnSheet, .instanceMethod yX0_isOnSheet, .selects RX0 yX0_isOnSheet yX0_isOnSheet, .code yX0_isOnSheet cX0_isOnSheet 3 (some .boolean), .fieldLink RX0 22 "SheetRows" "height" "I"] ++ wsJx000600 ++ wsX00)
def wsL_law_r1 : List Cond := [Cond.classLink RL 8 RX0, Cond.instantiable RX0 16, Cond.initialized RX0, Cond.classLink RL 32 RX1, Cond.instantiable RX1 15, Cond.initialized RX1, Cond.arrayClass .long, Cond.methodLink RL 23 yL_cell, Cond.static yL_cell, Cond.initialized RL, Cond.code yL_cell cL_cell 2 (some .int), Cond.methodLink RL 29 yX0_init, Cond.instanceMethod yX0_init, Cond.code yX0_init cX0_init 4 none, Cond.methodLink RX0 3 objectInit, Cond.instanceMethod objectInit, Cond.code objectInit ⟨#[0xb1]⟩ 1 none, Cond.methodLink RX0 9 Lib.Math.min.name, Cond.static Lib.Math.min.name, Cond.initialized "java/lang/Math", Cond.code Lib.Math.min.name Lib.Math.min.code 2 (some .int), Cond.methodLink RX0 15 Lib.Math.max.name, Cond.static Lib.Math.max.name, Cond.code Lib.Math.max.name Lib.Math.max.code 2 (some .int)]
def wsL_law_r2 : List Cond := [Cond.fieldLink RX0 18 "SheetRows" "width" "I", Cond.fieldLink RX0 22 "SheetRows" "height" "I", Cond.arrayClass .byte, Cond.fieldLink RX0 25 "SheetRows" "greys" "[B", Cond.fieldLink RX0 29 "SheetRows" "spare" "[B", Cond.arrayClass .int, Cond.fieldLink RX0 32 "SheetRows" "countBelow" "[I", Cond.fieldLink RX0 36 "SheetRows" "sumBelow" "[I", Cond.arrayClass .boolean, Cond.fieldLink RX0 39 "SheetRows" "dark" "[Z", Cond.fieldLink RX0 43 "SheetRows" "darkInRow" "[I", Cond.fieldLink RX0 46 "SheetRows" "reached" "[I", Cond.fieldLink RX0 49 "SheetRows" "partFacts" "[I", Cond.fieldLink RX0 52 "SheetRows" "packed" "[B", Cond.fieldLink RX0 55 "SheetRows" "collected" "[B", Cond.methodLink RX0 58 yJ7_fill_031fb, Cond.static yJ7_fill_031fb, Cond.initialized RJ7, Cond.code yJ7_fill_031fb cJ7_fill_031fb 4 none, Cond.methodLink RL 34 yX1_init, Cond.instanceMethod yX1_init, Cond.code yX1_init cX1_init 4 none, Cond.methodLink RX1 1 objectInit, Cond.fieldLink RX1 7 "SheetRowsModel" "greys" "[I"]
def wsL_law_r3 : List Cond := [Cond.fieldLink RX1 13 "SheetRowsModel" "other" "[I", Cond.fieldLink RX1 16 "SheetRowsModel" "counts" "[I", Cond.fieldLink RX1 19 "SheetRowsModel" "labels" "[I", Cond.fieldLink RX1 22 "SheetRowsModel" "firsts" "[I", Cond.fieldLink RX1 25 "SheetRowsModel" "told" "[I", Cond.fieldLink RX1 28 "SheetRowsModel" "pairs" "[B", Cond.fieldLink RX1 32 "SheetRowsModel" "bytes" "[B", Cond.fieldLink RX1 35 "SheetRowsModel" "w" "I", Cond.fieldLink RX1 39 "SheetRowsModel" "h" "I", Cond.fieldLink RX1 42 "SheetRowsModel" "n" "I", Cond.methodLink RL 35 yL_put, Cond.static yL_put, Cond.codeWith yL_put cL_put 5 (some .int) [(0, 7, 10, 13)], Cond.methodLink RL 7 yX0_put, Cond.instanceMethod yX0_put, Cond.selects RX0 yX0_put yX0_put, Cond.code yX0_put cX0_put 4 none, Cond.classLink RX0 68 RJx00060, Cond.instantiable RJx00060 6, Cond.initialized RJx00060, Cond.methodLink RX0 64 yX0_isOnSheet, Cond.instanceMethod yX0_isOnSheet, Cond.selects RX0 yX0_isOnSheet yX0_isOnSheet, Cond.code yX0_isOnSheet cX0_isOnSheet 3 (some .boolean)]
def wsL_law_r4 : List Cond := [Cond.methodLink RL 38 yX1_put, Cond.instanceMethod yX1_put, Cond.selects RX1 yX1_put yX1_put, Cond.code yX1_put cX1_put 4 none, Cond.methodLink RX1 48 yX1_isOn, Cond.instanceMethod yX1_isOn, Cond.selects RX1 yX1_isOn yX1_isOn, Cond.code yX1_isOn cX1_isOn 3 (some .boolean), Cond.methodLink RX1 52 yX1_refused, Cond.instanceMethod yX1_refused, Cond.selects RX1 yX1_refused yX1_refused, Cond.code yX1_refused cX1_refused 2 (some .boolean), Cond.fieldLink RX1 45 "SheetRowsModel" "thrown" "I", Cond.methodLink RL 39 yX1_thrown, Cond.instanceMethod yX1_thrown, Cond.selects RX1 yX1_thrown yX1_thrown, Cond.code yX1_thrown cX1_thrown 1 (some .int), Cond.methodLink RL 43 yX0_threshold, Cond.instanceMethod yX0_threshold, Cond.selects RX0 yX0_threshold yX0_threshold, Cond.code yX0_threshold cX0_threshold 5 (some .int), Cond.methodLink RX0 75 yX0_tallyGreys, Cond.instanceMethod yX0_tallyGreys, Cond.selects RX0 yX0_tallyGreys yX0_tallyGreys]
def wsL_law_r5 : List Cond := [Cond.code yX0_tallyGreys cX0_tallyGreys 2 none, Cond.methodLink RX0 142 yJ7_fill_53178, Cond.static yJ7_fill_53178, Cond.code yJ7_fill_53178 cJ7_fill_53178 4 none, Cond.methodLink RX0 78 yX0_spreadAt, Cond.instanceMethod yX0_spreadAt, Cond.selects RX0 yX0_spreadAt yX0_spreadAt, Cond.code yX0_spreadAt cX0_spreadAt 2 (some .int), Cond.methodLink RX0 145 yX0_spreadOfLot, Cond.instanceMethod yX0_spreadOfLot, Cond.selects RX0 yX0_spreadOfLot yX0_spreadOfLot, Cond.code yX0_spreadOfLot cX0_spreadOfLot 8 (some .int), Cond.methodLink RL 46 yX1_threshold, Cond.instanceMethod yX1_threshold, Cond.selects RX1 yX1_threshold yX1_threshold, Cond.code yX1_threshold cX1_threshold 1 (some .int), Cond.methodLink RX1 60 yX1_thresholdNow, Cond.instanceMethod yX1_thresholdNow, Cond.selects RX1 yX1_thresholdNow yX1_thresholdNow, Cond.code yX1_thresholdNow cX1_thresholdNow 5 (some .int), Cond.methodLink RX1 56 yX1_spread, Cond.instanceMethod yX1_spread, Cond.selects RX1 yX1_spread yX1_spread, Cond.code yX1_spread cX1_spread 8 (some .int)]
def wsL_law_r6 : List Cond := [Cond.methodLink RL 47 yX0_parts, Cond.instanceMethod yX0_parts, Cond.selects RX0 yX0_parts yX0_parts, Cond.code yX0_parts cX0_parts 2 (some .int), Cond.fieldLink RX0 85 "SheetRows" "partCount" "I", Cond.fieldLink RX0 92 "SheetRows" "reachedCount" "I", Cond.methodLink RX0 82 yX0_markDark, Cond.instanceMethod yX0_markDark, Cond.selects RX0 yX0_markDark yX0_markDark, Cond.code yX0_markDark cX0_markDark 5 none, Cond.methodLink RX0 135 yX0_threshold, Cond.methodLink RX0 138 yX0_hasMostlyLow, Cond.instanceMethod yX0_hasMostlyLow, Cond.selects RX0 yX0_hasMostlyLow yX0_hasMostlyLow, Cond.code yX0_hasMostlyLow cX0_hasMostlyLow 2 (some .boolean), Cond.methodLink RX0 88 yX0_reachPart, Cond.instanceMethod yX0_reachPart, Cond.selects RX0 yX0_reachPart yX0_reachPart, Cond.code yX0_reachPart cX0_reachPart 3 none, Cond.methodLink RX0 148 yX0_reach, Cond.instanceMethod yX0_reach, Cond.selects RX0 yX0_reach yX0_reach, Cond.code yX0_reach cX0_reach 2 none, Cond.methodLink RX0 151 yX0_reachAround]
def wsL_law_r7 : List Cond := [Cond.instanceMethod yX0_reachAround, Cond.selects RX0 yX0_reachAround yX0_reachAround, Cond.code yX0_reachAround cX0_reachAround 5 none, Cond.methodLink RX0 95 yX0_keepPart, Cond.instanceMethod yX0_keepPart, Cond.selects RX0 yX0_keepPart yX0_keepPart, Cond.code yX0_keepPart cX0_keepPart 11 none, Cond.methodLink RL 50 yX1_parts, Cond.instanceMethod yX1_parts, Cond.selects RX1 yX1_parts yX1_parts, Cond.code yX1_parts cX1_parts 5 (some .int), Cond.fieldLink RX1 75 "SheetRowsModel" "parts" "I", Cond.methodLink RX1 68 yX1_darken, Cond.instanceMethod yX1_darken, Cond.selects RX1 yX1_darken yX1_darken, Cond.code yX1_darken cX1_darken 5 none, Cond.methodLink RX1 64 yX1_isInverted, Cond.instanceMethod yX1_isInverted, Cond.selects RX1 yX1_isInverted yX1_isInverted, Cond.code yX1_isInverted cX1_isInverted 4 (some .boolean), Cond.methodLink RX1 71 yX1_leastAround, Cond.instanceMethod yX1_leastAround, Cond.selects RX1 yX1_leastAround yX1_leastAround, Cond.code yX1_leastAround cX1_leastAround 7 (some .int)]
def wsL_law_r8 : List Cond := [Cond.methodLink RX1 78 yX1_sizeOf, Cond.instanceMethod yX1_sizeOf, Cond.selects RX1 yX1_sizeOf yX1_sizeOf, Cond.code yX1_sizeOf cX1_sizeOf 4 (some .int), Cond.methodLink RX1 81 yX1_tell, Cond.instanceMethod yX1_tell, Cond.selects RX1 yX1_tell yX1_tell, Cond.code yX1_tell cX1_tell 6 none, Cond.methodLink RL 51 yX0_part, Cond.instanceMethod yX0_part, Cond.selects RX0 yX0_part yX0_part, Cond.code yX0_part cX0_part 3 (some .int), Cond.methodLink RL 54 yX1_part, Cond.instanceMethod yX1_part, Cond.selects RX1 yX1_part yX1_part, Cond.code yX1_part cX1_part 3 (some .int), Cond.methodLink RL 55 yX0_skew, Cond.instanceMethod yX0_skew, Cond.selects RX0 yX0_skew yX0_skew, Cond.code yX0_skew cX0_skew 6 (some .int), Cond.methodLink RX0 98 yX0_sumOfSquares, Cond.instanceMethod yX0_sumOfSquares, Cond.selects RX0 yX0_sumOfSquares yX0_sumOfSquares, Cond.code yX0_sumOfSquares cX0_sumOfSquares 5 (some .int)]
def wsL_law_r9 : List Cond := [Cond.methodLink RX0 101 yX0_shearAt, Cond.instanceMethod yX0_shearAt, Cond.selects RX0 yX0_shearAt yX0_shearAt, Cond.code yX0_shearAt cX0_shearAt 3 (some .int), Cond.methodLink RX0 155 yJ9_floorDiv_7cf53, Cond.static yJ9_floorDiv_7cf53, Cond.initialized RJ9, Cond.code yJ9_floorDiv_7cf53 cJ9_floorDiv_7cf53 3 (some .int), Cond.methodLink RX0 158 yJ9_floorMod_7cf53, Cond.static yJ9_floorMod_7cf53, Cond.code yJ9_floorMod_7cf53 cJ9_floorMod_7cf53 3 (some .int), Cond.methodLink RL 58 yX1_skew, Cond.instanceMethod yX1_skew, Cond.selects RX1 yX1_skew yX1_skew, Cond.code yX1_skew cX1_skew 7 (some .int), Cond.methodLink RX1 85 yX1_rowOf, Cond.instanceMethod yX1_rowOf, Cond.selects RX1 yX1_rowOf yX1_rowOf, Cond.code yX1_rowOf cX1_rowOf 5 (some .int), Cond.methodLink RL 59 yX0_turn, Cond.instanceMethod yX0_turn, Cond.selects RX0 yX0_turn yX0_turn, Cond.code yX0_turn cX0_turn 5 (some .int), Cond.methodLink RX0 104 yX0_takeSpare]
def wsL_law_r10 : List Cond := [Cond.instanceMethod yX0_takeSpare, Cond.selects RX0 yX0_takeSpare yX0_takeSpare, Cond.code yX0_takeSpare cX0_takeSpare 3 (some .int), Cond.methodLink RL 63 yX1_turn, Cond.instanceMethod yX1_turn, Cond.selects RX1 yX1_turn yX1_turn, Cond.code yX1_turn cX1_turn 3 (some .int), Cond.methodLink RX1 89 yX1_change, Cond.instanceMethod yX1_change, Cond.selects RX1 yX1_change yX1_change, Cond.code yX1_change cX1_change 3 (some .int), Cond.methodLink RL 64 yX0_pack, Cond.instanceMethod yX0_pack, Cond.selects RX0 yX0_pack yX0_pack, Cond.code yX0_pack cX0_pack 3 (some .int), Cond.fieldLink RX0 108 "SheetRows" "packedCount" "I", Cond.methodLink RX0 111 yX0_packStretch, Cond.instanceMethod yX0_packStretch, Cond.selects RX0 yX0_packStretch yX0_packStretch, Cond.code yX0_packStretch cX0_packStretch 3 none, Cond.methodLink RL 67 yX1_pack, Cond.instanceMethod yX1_pack, Cond.selects RX1 yX1_pack yX1_pack, Cond.code yX1_pack cX1_pack 3 (some .int)]
def wsL_law_r11 : List Cond := [Cond.fieldLink RX1 92 "SheetRowsModel" "packed" "I", Cond.methodLink RL 68 yL_octet, Cond.static yL_octet, Cond.codeWith yL_octet cL_octet 4 (some .int) [(0, 9, 12, 13)], Cond.methodLink RL 15 yX0_octet, Cond.instanceMethod yX0_octet, Cond.selects RX0 yX0_octet yX0_octet, Cond.code yX0_octet cX0_octet 2 (some .byte), Cond.methodLink RL 71 yX1_octet, Cond.instanceMethod yX1_octet, Cond.selects RX1 yX1_octet yX1_octet, Cond.code yX1_octet cX1_octet 2 (some .byte), Cond.methodLink RL 72 yX0_add, Cond.instanceMethod yX0_add, Cond.selects RX0 yX0_add yX0_add, Cond.code yX0_add cX0_add 2 none, Cond.fieldLink RX0 117 "SheetRows" "collectedCount" "I", Cond.methodLink RL 76 yX1_add, Cond.instanceMethod yX1_add, Cond.selects RX1 yX1_add yX1_add, Cond.code yX1_add cX1_add 2 none, Cond.fieldLink RX1 95 "SheetRowsModel" "collected" "I", Cond.methodLink RL 77 yX0_unpack, Cond.instanceMethod yX0_unpack]
def wsL_law_r12 : List Cond := [Cond.selects RX0 yX0_unpack yX0_unpack, Cond.code yX0_unpack cX0_unpack 2 (some .int), Cond.methodLink RX0 120 yX0_readCollected, Cond.instanceMethod yX0_readCollected, Cond.selects RX0 yX0_readCollected yX0_readCollected, Cond.code yX0_readCollected cX0_readCollected 6 (some .int), Cond.methodLink RL 80 yX1_unpack, Cond.instanceMethod yX1_unpack, Cond.selects RX1 yX1_unpack yX1_unpack, Cond.code yX1_unpack cX1_unpack 6 (some .int), Cond.methodLink RL 81 yX0_side, Cond.instanceMethod yX0_side, Cond.selects RX0 yX0_side yX0_side, Cond.code yX0_side cX0_side 2 (some .int), Cond.methodLink RX0 123 yX0_mirrorRows, Cond.instanceMethod yX0_mirrorRows, Cond.selects RX0 yX0_mirrorRows yX0_mirrorRows, Cond.code yX0_mirrorRows cX0_mirrorRows 3 none, Cond.methodLink RX0 126 yX0_reverseRows, Cond.instanceMethod yX0_reverseRows, Cond.selects RX0 yX0_reverseRows yX0_reverseRows, Cond.code yX0_reverseRows cX0_reverseRows 3 none, Cond.methodLink RX0 129 yX0_invertGreys, Cond.instanceMethod yX0_invertGreys]
def wsL_law_r13 : List Cond := [Cond.selects RX0 yX0_invertGreys yX0_invertGreys, Cond.code yX0_invertGreys cX0_invertGreys 2 none, Cond.methodLink RX0 132 yX0_halve, Cond.instanceMethod yX0_halve, Cond.selects RX0 yX0_halve yX0_halve, Cond.code yX0_halve cX0_halve 3 none, Cond.methodLink RX0 161 yX0_meanOfFour, Cond.instanceMethod yX0_meanOfFour, Cond.selects RX0 yX0_meanOfFour yX0_meanOfFour, Cond.code yX0_meanOfFour cX0_meanOfFour 4 (some .byte), Cond.methodLink RL 84 yX1_side, Cond.instanceMethod yX1_side, Cond.selects RX1 yX1_side yX1_side, Cond.code yX1_side cX1_side 5 (some .int), Cond.methodLink RX1 98 yX1_mean, Cond.instanceMethod yX1_mean, Cond.selects RX1 yX1_mean yX1_mean, Cond.code yX1_mean cX1_mean 4 (some .int), Cond.methodLink RL 85 yX0_inverted, Cond.instanceMethod yX0_inverted, Cond.selects RX0 yX0_inverted yX0_inverted, Cond.code yX0_inverted cX0_inverted 1 (some .boolean), Cond.methodLink RL 89 yX1_inverted, Cond.instanceMethod yX1_inverted]
def wsL_law_r14 : List Cond := [Cond.selects RX1 yX1_inverted yX1_inverted, Cond.code yX1_inverted cX1_inverted 1 (some .boolean), Cond.methodLink RL 90 yL_grey, Cond.static yL_grey, Cond.codeWith yL_grey cL_grey 5 (some .int) [(0, 10, 13, 13)], Cond.methodLink RL 19 yX0_grey, Cond.instanceMethod yX0_grey, Cond.selects RX0 yX0_grey yX0_grey, Cond.code yX0_grey cX0_grey 3 (some .int), Cond.methodLink RL 93 yX1_grey, Cond.instanceMethod yX1_grey, Cond.selects RX1 yX1_grey yX1_grey, Cond.code yX1_grey cX1_grey 3 (some .int)]
def wsL_law : List Cond := (wsL_law_r1 ++ (wsL_law_r2 ++ (wsL_law_r3 ++ (wsL_law_r4 ++ (wsL_law_r5 ++ (wsL_law_r6 ++ (wsL_law_r7 ++ (wsL_law_r8 ++ (wsL_law_r9 ++ (wsL_law_r10 ++ (wsL_law_r11 ++ (wsL_law_r12 ++ (wsL_law_r13 ++ wsL_law_r14))))))))))))) ++ wsX00 ++ wsX10 ++ wsJx000600 ++ ([] : List Cond)
set_option maxRecDepth 20000 in
theorem wsL_law_r1_good : GoodIn lw_tbl wsL_law_r1 := goodIn_p wsL_law_r1 [240, 47, 50, 53, 56] (by decide +kernel) (by decide +kernel)
set_option maxRecDepth 20000 in
theorem wsL_law_r2_good : GoodIn lw_tbl wsL_law_r2 := goodIn_p wsL_law_r2 [59, 342] (by decide +kernel) (by decide +kernel)
set_option maxRecDepth 20000 in
theorem wsL_law_r3_good : GoodIn lw_tbl wsL_law_r3 := goodIn_p wsL_law_r3 [248, 252] (by decide +kernel) (by decide +kernel)
set_option maxRecDepth 20000 in
theorem wsL_law_r4_good : GoodIn lw_tbl wsL_law_r4 := goodIn_p wsL_law_r4 [397, 401, 405, 393, 115] (by decide +kernel) (by decide +kernel)
set_option maxRecDepth 20000 in
theorem wsL_law_r5_good : GoodIn lw_tbl wsL_law_r5 := goodIn_p wsL_law_r5 [119, 122, 126, 130, 413, 417, 421] (by decide +kernel) (by decide +kernel)
set_option maxRecDepth 20000 in
theorem wsL_law_r6_good : GoodIn lw_tbl wsL_law_r6 := goodIn_p wsL_law_r6 [134, 138, 143, 147, 151] (by decide +kernel) (by decide +kernel)
set_option maxRecDepth 20000 in
theorem wsL_law_r7_good : GoodIn lw_tbl wsL_law_r7 := goodIn_p wsL_law_r7 [155, 159, 433, 437, 429, 441] (by decide +kernel) (by decide +kernel)
set_option maxRecDepth 20000 in
theorem wsL_law_r8_good : GoodIn lw_tbl wsL_law_r8 := goodIn_p wsL_law_r8 [445, 449, 163, 453, 167, 171] (by decide +kernel) (by decide +kernel)
set_option maxRecDepth 20000 in
theorem wsL_law_r9_good : GoodIn lw_tbl wsL_law_r9 := goodIn_p wsL_law_r9 [175, 178, 181, 457, 461, 185] (by decide +kernel) (by decide +kernel)
set_option maxRecDepth 20000 in
theorem wsL_law_r10_good : GoodIn lw_tbl wsL_law_r10 := goodIn_p wsL_law_r10 [189, 465, 469, 193, 197, 473] (by decide +kernel) (by decide +kernel)
set_option maxRecDepth 20000 in
theorem wsL_law_r11_good : GoodIn lw_tbl wsL_law_r11 := goodIn_p wsL_law_r11 [329, 477, 201, 481] (by decide +kernel) (by decide +kernel)
set_option maxRecDepth 20000 in
theorem wsL_law_r12_good : GoodIn lw_tbl wsL_law_r12 := goodIn_p wsL_law_r12 [205, 209, 485, 213, 217, 221] (by decide +kernel) (by decide +kernel)
set_option maxRecDepth 20000 in
theorem wsL_law_r13_good : GoodIn lw_tbl wsL_law_r13 := goodIn_p wsL_law_r13 [225, 229, 233, 489, 493, 237] (by decide +kernel) (by decide +kernel)
set_option maxRecDepth 20000 in
theorem wsL_law_r14_good : GoodIn lw_tbl wsL_law_r14 := goodIn_p wsL_law_r14 [425, 337, 409] (by decide +kernel) (by decide +kernel)
set_option maxRecDepth 20000 in
theorem wsX00_good : GoodIn lw_tbl wsX00 := goodIn_p wsX00 [] (by decide +kernel) (by decide +kernel)
set_option maxRecDepth 20000 in
theorem wsX10_good : GoodIn lw_tbl wsX10 := goodIn_p wsX10 [] (by decide +kernel) (by decide +kernel)
set_option maxRecDepth 20000 in
theorem wsJx000600_good : GoodIn lw_tbl wsJx000600 := goodIn_p wsJx000600 [] (by decide +kernel) (by decide +kernel)
theorem wsL_law_good : GoodIn lw_tbl wsL_law := goodIn_app (goodIn_app (goodIn_app (goodIn_app (goodIn_app wsL_law_r1_good (goodIn_app wsL_law_r2_good (goodIn_app wsL_law_r3_good (goodIn_app wsL_law_r4_good (goodIn_app wsL_law_r5_good (goodIn_app wsL_law_r6_good (goodIn_app wsL_law_r7_good (goodIn_app wsL_law_r8_good (goodIn_app wsL_law_r9_good (goodIn_app wsL_law_r10_good (goodIn_app wsL_law_r11_good (goodIn_app wsL_law_r12_good (goodIn_app wsL_law_r13_good wsL_law_r14_good))))))))))))) wsX00_good) wsX10_good) wsJx000600_good) (fun _ h => absurd h List.not_mem_nil)
theorem wsL_law_in : ∀ w ∈ wsL_law, w ∈ lw_tbl := fun w h => (wsL_law_good w h).1
theorem inlX0 : ∀ w ∈ wsX00, w ∈ wsL_law := fun _ h => List.mem_append_left _ (List.mem_append_left _ (List.mem_append_left _ (List.mem_append_right _ h)))
theorem inX0 : ∀ w ∈ wsX00, w ∈ lw_tbl := fun w h => wsL_law_in w (inlX0 w h)
theorem inlX1 : ∀ w ∈ wsX10, w ∈ wsL_law := fun _ h => List.mem_append_left _ (List.mem_append_left _ (List.mem_append_right _ h))
theorem inX1 : ∀ w ∈ wsX10, w ∈ lw_tbl := fun w h => wsL_law_in w (inlX1 w h)
theorem inlJx00060 : ∀ w ∈ wsJx000600, w ∈ wsL_law := fun _ h => List.mem_append_left _ (List.mem_append_right _ h)
theorem inJx00060 : ∀ w ∈ wsJx000600, w ∈ lw_tbl := fun w h => wsL_law_in w (inlJx00060 w h)
theorem inJ9 : ∀ w ∈ wsJ90, w ∈ lw_tbl := by decide +kernel
theorem inJ0 : ∀ w ∈ wsJ00, w ∈ lw_tbl := by decide +kernel
theorem inJ7 : ∀ w ∈ wsJ70, w ∈ lw_tbl := by decide +kernel
abbrev vwCl : List vw_C := [(RJx00060, TJx00060, 6), (RX0, TX0, 16), (RX1, TX1, 15)]
/-- one decoded instruction: what, how long, where the next one is -/
def dec (cc : ByteArray) (pc : Nat) (i : Instr) (n pc' : Nat) : Prop := decode cc pc = .ok (i, n) ∧ pc + n = pc'
end
section
/-! THE J LAYER: a walk's state is (pc, locals as a list, stack, world as a list, cells, slots); the heap, the written places and the locals' array are bound inside. -/
def zI (z : Int) : Int32 := Int32.ofInt z
theorem zI_add (a b : Int) : zI a + zI b = zI (a + b) := (Int32.ofInt_add a b).symm
theorem zI_sub (a b : Int) : zI a - zI b = zI (a - b) := (Int32.ofInt_sub a b).symm
theorem zI_mul (a b : Int) : zI a * zI b = zI (a * b) := (Int32.ofInt_mul a b).symm
theorem zI_neg (a : Int) : - zI a = zI (-a) := (Int32.ofInt_neg a).symm
theorem zI_toInt {z : Int} (h : -2147483648 ≤ z ∧ z ≤ 2147483647) : (zI z).toInt = z := by
  unfold zI
  rw [Int32.toInt_ofInt]
  have h5 : Int32.size = 4294967296 := rfl
  rw [h5]
  simp only [Int.bmod_def]
  omega
theorem r0 : (-2147483648 : Int) ≤ 0 ∧ (0 : Int) ≤ 2147483647 := by decide
theorem zI_of (x : Int32) : ∃ z : Int, (-2147483648 ≤ z ∧ z ≤ 2147483647) ∧ x = zI z := by
  refine ⟨x.toInt, ?_, (Int32.ofInt_toInt x).symm⟩
  have h1 := Int32.le_toInt x
  have h2 := Int32.toInt_lt x
  omega
theorem zI_inj {a b : Int} (ha : -2147483648 ≤ a ∧ a ≤ 2147483647) (hb : -2147483648 ≤ b ∧ b ≤ 2147483647) : zI a = zI b ↔ a = b := by
  constructor
  · intro h
    have := congrArg Int32.toInt h
    rw [zI_toInt ha, zI_toInt hb] at this
    exact this
  · intro h; rw [h]
theorem zI_lt {a b : Int} (ha : -2147483648 ≤ a ∧ a ≤ 2147483647) (hb : -2147483648 ≤ b ∧ b ≤ 2147483647) : zI a < zI b ↔ a < b := by
  rw [Int32.lt_iff_toInt_lt, zI_toInt ha, zI_toInt hb]
theorem zI_le {a b : Int} (ha : -2147483648 ≤ a ∧ a ≤ 2147483647) (hb : -2147483648 ≤ b ∧ b ≤ 2147483647) : zI a ≤ zI b ↔ a ≤ b := by
  rw [Int32.le_iff_toInt_le, zI_toInt ha, zI_toInt hb]
theorem zI_0 : zI 0 = 0 := by decide +kernel
theorem zI_nat (n : Nat) : zI (n : Int) = Int32.ofNat n := by
  unfold zI
  exact Int32.ofInt_eq_ofNat ..
theorem zI_clamp {k : Nat} (h : k ≤ 2147483647) : (zI (k : Int)).toNatClampNeg = k := by
  have h1 := zI_toInt (z := (k : Int)) (by omega)
  have h2 : (zI (k : Int)).toNatClampNeg = (zI (k : Int)).toInt.toNat := rfl
  rw [h2, h1]
  exact Int.toNat_natCast k
theorem zI_in {k n : Nat} (h : k < n) (hn : n ≤ 2147483647) : vp_in (zI (k : Int)) n := by
  rw [vp_in_iff, zI_toInt (by omega)]
  omega
theorem zI_toNat (a : Int) : (zI a).toBitVec.toNat = (a % 4294967296).toNat := by
  show (BitVec.ofInt 32 a).toNat = _
  rw [BitVec.toNat_ofInt]
  rfl
theorem zI_and255 (a : Int) : zI a &&& zI 255 = zI (a % 256) := by
  rw [pk_and (zI a) (m := zI 255) 8 (by decide +kernel), zI_toNat, nI, ← zI_nat]
  congr 1
  omega
theorem zI_and15 (a : Int) : zI a &&& zI 15 = zI (a % 16) := by
  rw [pk_and (zI a) (m := zI 15) 4 (by decide +kernel), zI_toNat, nI, ← zI_nat]
  congr 1
  omega
theorem zI_i2b (a : Int) : (zI a).toInt8.toInt32 = zI (Int.bmod a 256) := by
  apply Int32.toInt_inj.mp
  rw [Int8.toInt_toInt32, Int32.toInt_toInt8]
  have h1 : (zI a).toInt = a.bmod 4294967296 := by unfold zI; rw [Int32.toInt_ofInt]
  have h2 : -128 ≤ Int.bmod a 256 ∧ Int.bmod a 256 ≤ 127 := by simp only [Int.bmod_def]; omega
  rw [h1, zI_toInt (z := Int.bmod a 256) (by omega)]
  simp only [Int.bmod_def]
  omega
theorem bmod_byte {v : Int} (h : -128 ≤ v ∧ v ≤ 127) : Int.bmod v 256 = v := by
  simp only [Int.bmod_def]; omega
theorem nar_b {v : Int} (h : -128 ≤ v ∧ v ≤ 127) : vp_nar .byte (zI v) = zI v := by
  rw [vp_nar_byte, zI_i2b, bmod_byte h]
theorem nar_z {v : Int} (h : 0 ≤ v ∧ v ≤ 1) : vp_nar .boolean (zI v) = zI v := by
  have h1 : v = 0 ∨ v = 1 := by omega
  rcases h1 with rfl | rfl <;> decide +kernel
theorem zI_shr5 {z : Int} (h : -2147483648 ≤ z ∧ z ≤ 2147483647) : zI z >>> (zI 5 &&& 31) = zI (z / 32) := by
  apply Int32.toInt_inj.mp
  rw [pk_shr (zI z) (zI 5 &&& 31) 5 (by decide +kernel), zI_toInt h, zI_toInt (by omega), Int.shiftRight_eq_div_pow]
  rfl
theorem zI_div {a b : Int} (ha : -2147483648 ≤ a ∧ a ≤ 2147483647) (hb : 0 < b ∧ b ≤ 2147483647) : zI a / zI b = zI (a.tdiv b) := by
  apply Int32.toInt_inj.mp
  have h1 : (zI a / zI b).toInt = ((zI a).toInt.tdiv (zI b).toInt).bmod (2 ^ 32) := Int32.toInt_div _ _
  rw [h1, zI_toInt ha, zI_toInt (by omega)]
  unfold zI
  rw [Int32.toInt_ofInt]
theorem zI_rem {a b : Int} (ha : -2147483648 ≤ a ∧ a ≤ 2147483647) (hb : 0 < b ∧ b ≤ 2147483647) : zI a - zI a / zI b * zI b = zI (a.tmod b) := by
  rw [zI_div ha hb, zI_mul, zI_sub]
  congr 1
  have := Int.tmod_add_mul_tdiv a b
  have h2 : a.tdiv b * b = b * a.tdiv b := Int.mul_comm _ _
  omega
/-- the locals after a store: in place, or at the end -/
def lput (lv : List (Nat × Value)) (i : Nat) (v : Value) : List (Nat × Value) := if lv.any (fun q => q.1 == i) then lv.map (fun q => if q.1 == i then (i, v) else q) else lv ++ [(i, v)]
theorem lput_mem {lv : List (Nat × Value)} {i : Nat} {v : Value} {q : Nat × Value} (h : q ∈ lput lv i v) : q = (i, v) ∨ (q ∈ lv ∧ q.1 ≠ i) := by
  unfold lput at h
  split at h
  · obtain ⟨a, ha, hq⟩ := List.mem_map.mp h
    by_cases hi : a.1 == i
    · rw [if_pos hi] at hq; exact Or.inl hq.symm
    · rw [if_neg hi] at hq
      subst hq
      exact Or.inr ⟨ha, fun z => hi (by simp [z])⟩
  · rename_i hn
    rcases List.mem_append.mp h with h | h
    · refine Or.inr ⟨h, fun z => hn ?_⟩
      exact List.any_eq_true.mpr ⟨q, h, by simp [z]⟩
    · exact Or.inl (List.mem_singleton.mp h)
theorem lput_has {ls : Array Slot} {nL : Nat} {lv lv' : List (Nat × Value)} {i : Nat} {v : Value} (hc : lv.all (fun q => q.2.category == 1) = true) (hl : lput lv i v = lv') (h : lv_has ls nL ((i, v) :: lv.filter (fun q => !(q.1 == i) && !(q.1 + 1 == i && q.2.category == 2)))) : lv_has ls nL lv' := by
  refine ⟨h.1, h.2.1, fun q hq => h.2.2 q ?_⟩
  rw [← hl] at hq
  rcases lput_mem hq with hq | ⟨hq, hne⟩
  · rw [hq]; exact List.mem_cons_self
  · refine List.mem_cons_of_mem _ (List.mem_filter.mpr ⟨hq, ?_⟩)
    have h1 : q.2.category = 1 := by simpa using List.all_eq_true.mp hc q hq
    simp [hne, h1]
def J (p : Program) (l : Launch) (e : Env) (R : Room) (s : State) (m : MethodId) (args : Array Value) (below : List Frame) (meth : Method) (c : Code) (Q : State → Prop) (nL : Nat) (D : va_G) (cl : List vw_C) (A : Nat → Prop) (pc : Nat) (lv : List (Nat × Value)) (st : List Value) (wd : va_W) (cells slots : Nat) : Prop := ∀ (H : Heap) (locs : List Loc) (ls : Array Slot), lv_has ls nL lv → va_P D cl wd H → va_D A wd → va_S A s.heap H locs → W p l e R s m args below meth c H locs cells slots Q (F0 m pc ls st)
/-- what stays the same through a method's walk -/
def JC (p : Program) (m : MethodId) (c : Code) (cc : ByteArray) (nL : Nat) (s : State) (args : Array Value) (Ts : List Cond) (own : String) (D : va_G) (cl : List vw_C) (tys : List (ClassId × FieldType)) (A : Nat → Prop) : Prop := CallFix p m c cc nL s args Ts own ∧ va_K D cl tys s ∧ ∀ q : Nat, s.heap.size ≤ q → A q
section JR
variable {p : Program} {l : Launch} {e : Env} {R : Room} {s : State} {m : MethodId} {args : Array Value} {below : List Frame} {meth : Method} {c : Code} {Q : State → Prop} {nL : Nat} {D : va_G} {cl : List vw_C} {tys : List (ClassId × FieldType)} {A : Nat → Prop} {cc : ByteArray} {Ts : List Cond} {own : String} {pc pc' : Nat} {lv lv' : List (Nat × Value)} {st : List Value} {wd wd' : va_W} {cells slots : Nat}
theorem j_iconst (C : JC p m c cc nL s args Ts own D cl tys A) {n : Int} (hd : dec cc pc (.iconst n) 1 pc')  (k : J p l e R s m args below meth c Q nL D cl A pc' lv (.int (zI n) :: st) wd cells slots) : J p l e R s m args below meth c Q nL D cl A pc lv st wd cells slots := fun H locs ls hl hP hD hS => lv_iconst C.1.1 C.1.2.1 hd.1 rfl (by exact hd.2 ▸ (k H locs ls hl hP hD hS))
theorem j_bipush (C : JC p m c cc nL s args Ts own D cl tys A) {n : Int} (hd : dec cc pc (.bipush n) 2 pc') (hv : (Int8.ofInt n).toInt32 = zI n) (k : J p l e R s m args below meth c Q nL D cl A pc' lv (.int (zI n) :: st) wd cells slots) : J p l e R s m args below meth c Q nL D cl A pc lv st wd cells slots := fun H locs ls hl hP hD hS => lv_bipush C.1.1 C.1.2.1 hd.1 hv (by exact hd.2 ▸ (k H locs ls hl hP hD hS))
theorem j_sipush (C : JC p m c cc nL s args Ts own D cl tys A) {n : Int} (hd : dec cc pc (.sipush n) 3 pc') (hv : (Int16.ofInt n).toInt32 = zI n) (k : J p l e R s m args below meth c Q nL D cl A pc' lv (.int (zI n) :: st) wd cells slots) : J p l e R s m args below meth c Q nL D cl A pc lv st wd cells slots := fun H locs ls hl hP hD hS => lv_sipush C.1.1 C.1.2.1 hd.1 hv (by exact hd.2 ▸ (k H locs ls hl hP hD hS))
theorem j_iload_n (C : JC p m c cc nL s args Ts own D cl tys A) {i : Fin 4} {x : Int32} (hd : dec cc pc (.iload_n i) 1 pc') (q : Nat) (hq : lv[q]? = some ((i : Nat), .int x)) (k : J p l e R s m args below meth c Q nL D cl A pc' lv (.int x :: st) wd cells slots) : J p l e R s m args below meth c Q nL D cl A pc lv st wd cells slots := fun H locs ls hl hP hD hS => lv_iload_n C.1.1 C.1.2.1 hd.1 rfl (lv_at hl q hq) (by exact hd.2 ▸ (k H locs ls hl hP hD hS))
theorem j_iload (C : JC p m c cc nL s args Ts own D cl tys A) {i : Nat} {x : Int32} (hd : dec cc pc (.iload i) 2 pc') (q : Nat) (hq : lv[q]? = some (i, .int x)) (k : J p l e R s m args below meth c Q nL D cl A pc' lv (.int x :: st) wd cells slots) : J p l e R s m args below meth c Q nL D cl A pc lv st wd cells slots := fun H locs ls hl hP hD hS => lv_iload C.1.1 C.1.2.1 hd.1 (lv_at hl q hq) (by exact hd.2 ▸ (k H locs ls hl hP hD hS))
theorem j_istore_n (C : JC p m c cc nL s args Ts own D cl tys A) {i : Fin 4} {x : Int32} (hd : dec cc pc (.istore_n i) 1 pc') (hc : lv.all (fun q => q.2.category == 1) = true) (hn : (i : Nat) < nL) (hv : lput lv (i : Nat) (.int x) = lv') (k : J p l e R s m args below meth c Q nL D cl A pc' lv' st wd cells slots) : J p l e R s m args below meth c Q nL D cl A pc lv (.int x :: st) wd cells slots := fun H locs ls hl hP hD hS => lv_istore_n C.1.1 C.1.2.1 hd.1 rfl hl hn rfl (fun ls' hl' => by exact hd.2 ▸ k H locs ls' (lput_has hc hv hl') hP hD hS)
theorem j_istore (C : JC p m c cc nL s args Ts own D cl tys A) {i : Nat} {x : Int32} (hd : dec cc pc (.istore i) 2 pc') (hc : lv.all (fun q => q.2.category == 1) = true) (hn : i < nL) (hv : lput lv i (.int x) = lv') (k : J p l e R s m args below meth c Q nL D cl A pc' lv' st wd cells slots) : J p l e R s m args below meth c Q nL D cl A pc lv (.int x :: st) wd cells slots := fun H locs ls hl hP hD hS => lv_istore C.1.1 C.1.2.1 hd.1 hl hn rfl (fun ls' hl' => by exact hd.2 ▸ k H locs ls' (lput_has hc hv hl') hP hD hS)
theorem j_aload_n (C : JC p m c cc nL s args Ts own D cl tys A) {i : Fin 4} {x : Nat} (hd : dec cc pc (.aload_n i) 1 pc') (q : Nat) (hq : lv[q]? = some ((i : Nat), .ref x)) (k : J p l e R s m args below meth c Q nL D cl A pc' lv (.ref x :: st) wd cells slots) : J p l e R s m args below meth c Q nL D cl A pc lv st wd cells slots := fun H locs ls hl hP hD hS => lv_aload_n C.1.1 C.1.2.1 hd.1 rfl (lv_at hl q hq) (by exact hd.2 ▸ (k H locs ls hl hP hD hS))
theorem j_aload (C : JC p m c cc nL s args Ts own D cl tys A) {i : Nat} {x : Nat} (hd : dec cc pc (.aload i) 2 pc') (q : Nat) (hq : lv[q]? = some (i, .ref x)) (k : J p l e R s m args below meth c Q nL D cl A pc' lv (.ref x :: st) wd cells slots) : J p l e R s m args below meth c Q nL D cl A pc lv st wd cells slots := fun H locs ls hl hP hD hS => lv_aload C.1.1 C.1.2.1 hd.1 (lv_at hl q hq) (by exact hd.2 ▸ (k H locs ls hl hP hD hS))
theorem j_astore_n (C : JC p m c cc nL s args Ts own D cl tys A) {i : Fin 4} {x : Nat} (hd : dec cc pc (.astore_n i) 1 pc') (hc : lv.all (fun q => q.2.category == 1) = true) (hn : (i : Nat) < nL) (hv : lput lv (i : Nat) (.ref x) = lv') (k : J p l e R s m args below meth c Q nL D cl A pc' lv' st wd cells slots) : J p l e R s m args below meth c Q nL D cl A pc lv (.ref x :: st) wd cells slots := fun H locs ls hl hP hD hS => lv_astore_n C.1.1 C.1.2.1 hd.1 rfl hl hn rfl (fun ls' hl' => by exact hd.2 ▸ k H locs ls' (lput_has hc hv hl') hP hD hS)
theorem j_astore (C : JC p m c cc nL s args Ts own D cl tys A) {i : Nat} {x : Nat} (hd : dec cc pc (.astore i) 2 pc') (hc : lv.all (fun q => q.2.category == 1) = true) (hn : i < nL) (hv : lput lv i (.ref x) = lv') (k : J p l e R s m args below meth c Q nL D cl A pc' lv' st wd cells slots) : J p l e R s m args below meth c Q nL D cl A pc lv (.ref x :: st) wd cells slots := fun H locs ls hl hP hD hS => lv_astore C.1.1 C.1.2.1 hd.1 hl hn rfl (fun ls' hl' => by exact hd.2 ▸ k H locs ls' (lput_has hc hv hl') hP hD hS)
theorem j_iinc (C : JC p m c cc nL s args Ts own D cl tys A) {i : Nat} {n x : Int} (hd : dec cc pc (.iinc i n) 3 pc') (q : Nat) (hq : lv[q]? = some (i, .int (zI x))) (hc : lv.all (fun q => q.2.category == 1) = true) (hn : i < nL) (hv : lput lv i (.int (zI (x + n))) = lv') (k : J p l e R s m args below meth c Q nL D cl A pc' lv' st wd cells slots) : J p l e R s m args below meth c Q nL D cl A pc lv st wd cells slots := fun H locs ls hl hP hD hS => lv_iinc (v := zI (x + n)) C.1.1 C.1.2.1 hd.1 hl hq (zI_add x n) hn rfl (fun ls' hl' => by exact hd.2 ▸ k H locs ls' (lput_has hc hv hl') hP hD hS)
theorem j_iadd (C : JC p m c cc nL s args Ts own D cl tys A) {a b : Int} (hd : dec cc pc .iadd 1 pc')  (k : J p l e R s m args below meth c Q nL D cl A pc' lv (.int (zI (a + b)) :: st) wd cells slots) : J p l e R s m args below meth c Q nL D cl A pc lv (.int (zI b) :: .int (zI a) :: st) wd cells slots := fun H locs ls hl hP hD hS => lv_iadd C.1.1 C.1.2.1 hd.1 (by rw [zI_add]; exact hd.2 ▸ (k H locs ls hl hP hD hS))
theorem j_isub (C : JC p m c cc nL s args Ts own D cl tys A) {a b : Int} (hd : dec cc pc .isub 1 pc')  (k : J p l e R s m args below meth c Q nL D cl A pc' lv (.int (zI (a - b)) :: st) wd cells slots) : J p l e R s m args below meth c Q nL D cl A pc lv (.int (zI b) :: .int (zI a) :: st) wd cells slots := fun H locs ls hl hP hD hS => lv_isub C.1.1 C.1.2.1 hd.1 (by rw [zI_sub]; exact hd.2 ▸ (k H locs ls hl hP hD hS))
theorem j_imul (C : JC p m c cc nL s args Ts own D cl tys A) {a b : Int} (hd : dec cc pc .imul 1 pc')  (k : J p l e R s m args below meth c Q nL D cl A pc' lv (.int (zI (a * b)) :: st) wd cells slots) : J p l e R s m args below meth c Q nL D cl A pc lv (.int (zI b) :: .int (zI a) :: st) wd cells slots := fun H locs ls hl hP hD hS => lv_imul C.1.1 C.1.2.1 hd.1 (by rw [zI_mul]; exact hd.2 ▸ (k H locs ls hl hP hD hS))
theorem j_ineg (C : JC p m c cc nL s args Ts own D cl tys A) {a : Int} (hd : dec cc pc .ineg 1 pc')  (k : J p l e R s m args below meth c Q nL D cl A pc' lv (.int (zI (-a)) :: st) wd cells slots) : J p l e R s m args below meth c Q nL D cl A pc lv (.int (zI a) :: st) wd cells slots := fun H locs ls hl hP hD hS => lv_ineg C.1.1 C.1.2.1 hd.1 (by rw [zI_neg]; exact hd.2 ▸ (k H locs ls hl hP hD hS))
theorem j_idiv (C : JC p m c cc nL s args Ts own D cl tys A) {a b : Int} (hd : dec cc pc .idiv 1 pc') (ha : (-2147483648 ≤ a ∧ a ≤ 2147483647)) (hb : 0 < b ∧ b ≤ 2147483647) (k : J p l e R s m args below meth c Q nL D cl A pc' lv (.int (zI (a.tdiv b)) :: st) wd cells slots) : J p l e R s m args below meth c Q nL D cl A pc lv (.int (zI b) :: .int (zI a) :: st) wd cells slots := fun H locs ls hl hP hD hS => lv_idiv C.1.1 C.1.2.1 hd.1 (fun z => absurd ((zI_inj (a := b) (b := 0) (by omega) (by omega)).mp (by rw [zI_0]; exact z)) (by omega)) (by rw [zI_div ha hb]; exact hd.2 ▸ (k H locs ls hl hP hD hS))
theorem j_irem (C : JC p m c cc nL s args Ts own D cl tys A) {a b : Int} (hd : dec cc pc .irem 1 pc') (ha : (-2147483648 ≤ a ∧ a ≤ 2147483647)) (hb : 0 < b ∧ b ≤ 2147483647) (k : J p l e R s m args below meth c Q nL D cl A pc' lv (.int (zI (a.tmod b)) :: st) wd cells slots) : J p l e R s m args below meth c Q nL D cl A pc lv (.int (zI b) :: .int (zI a) :: st) wd cells slots := fun H locs ls hl hP hD hS => lv_irem C.1.1 C.1.2.1 hd.1 (fun z => absurd ((zI_inj (a := b) (b := 0) (by omega) (by omega)).mp (by rw [zI_0]; exact z)) (by omega)) (by rw [zI_rem ha hb]; exact hd.2 ▸ (k H locs ls hl hP hD hS))
theorem j_iand (C : JC p m c cc nL s args Ts own D cl tys A) {x y : Int32} (hd : dec cc pc .iand 1 pc')  (k : J p l e R s m args below meth c Q nL D cl A pc' lv (.int (x &&& y) :: st) wd cells slots) : J p l e R s m args below meth c Q nL D cl A pc lv (.int y :: .int x :: st) wd cells slots := fun H locs ls hl hP hD hS => lv_iand C.1.1 C.1.2.1 hd.1 (by exact hd.2 ▸ (k H locs ls hl hP hD hS))
theorem j_ixor (C : JC p m c cc nL s args Ts own D cl tys A) {x y : Int32} (hd : dec cc pc .ixor 1 pc')  (k : J p l e R s m args below meth c Q nL D cl A pc' lv (.int (x ^^^ y) :: st) wd cells slots) : J p l e R s m args below meth c Q nL D cl A pc lv (.int y :: .int x :: st) wd cells slots := fun H locs ls hl hP hD hS => lv_ixor C.1.1 C.1.2.1 hd.1 (by exact hd.2 ▸ (k H locs ls hl hP hD hS))
theorem j_i2b (C : JC p m c cc nL s args Ts own D cl tys A) {x : Int32} (hd : dec cc pc .i2b 1 pc')  (k : J p l e R s m args below meth c Q nL D cl A pc' lv (.int x.toInt8.toInt32 :: st) wd cells slots) : J p l e R s m args below meth c Q nL D cl A pc lv (.int x :: st) wd cells slots := fun H locs ls hl hP hD hS => lv_i2b C.1.1 C.1.2.1 hd.1 rfl (by exact hd.2 ▸ (k H locs ls hl hP hD hS))
theorem j_i2bz (C : JC p m c cc nL s args Ts own D cl tys A) {a : Int} (hd : dec cc pc .i2b 1 pc')  (k : J p l e R s m args below meth c Q nL D cl A pc' lv (.int (zI (Int.bmod a 256)) :: st) wd cells slots) : J p l e R s m args below meth c Q nL D cl A pc lv (.int (zI a) :: st) wd cells slots := fun H locs ls hl hP hD hS => lv_i2b C.1.1 C.1.2.1 hd.1 (zI_i2b a) (by exact hd.2 ▸ (k H locs ls hl hP hD hS))
theorem j_and255 (C : JC p m c cc nL s args Ts own D cl tys A) {a : Int} (hd : dec cc pc .iand 1 pc')  (k : J p l e R s m args below meth c Q nL D cl A pc' lv (.int (zI (a % 256)) :: st) wd cells slots) : J p l e R s m args below meth c Q nL D cl A pc lv (.int (zI 255) :: .int (zI a) :: st) wd cells slots := fun H locs ls hl hP hD hS => lv_iand C.1.1 C.1.2.1 hd.1 (by rw [zI_and255]; exact hd.2 ▸ (k H locs ls hl hP hD hS))
theorem j_and15 (C : JC p m c cc nL s args Ts own D cl tys A) {a : Int} (hd : dec cc pc .iand 1 pc')  (k : J p l e R s m args below meth c Q nL D cl A pc' lv (.int (zI (a % 16)) :: st) wd cells slots) : J p l e R s m args below meth c Q nL D cl A pc lv (.int (zI 15) :: .int (zI a) :: st) wd cells slots := fun H locs ls hl hP hD hS => lv_iand C.1.1 C.1.2.1 hd.1 (by rw [zI_and15]; exact hd.2 ▸ (k H locs ls hl hP hD hS))
theorem j_shr5 (C : JC p m c cc nL s args Ts own D cl tys A) {z : Int} (hd : dec cc pc .ishr 1 pc') (ha : (-2147483648 ≤ z ∧ z ≤ 2147483647)) (k : J p l e R s m args below meth c Q nL D cl A pc' lv (.int (zI (z / 32)) :: st) wd cells slots) : J p l e R s m args below meth c Q nL D cl A pc lv (.int (zI 5) :: .int (zI z) :: st) wd cells slots := fun H locs ls hl hP hD hS => lv_ishr C.1.1 C.1.2.1 hd.1 (by rw [zI_shr5 ha]; exact hd.2 ▸ (k H locs ls hl hP hD hS))
theorem j_dup (C : JC p m c cc nL s args Ts own D cl tys A) {v : Value} (hd : dec cc pc .dup 1 pc') (hv : v.category = 1) (k : J p l e R s m args below meth c Q nL D cl A pc' lv (v :: v :: st) wd cells slots) : J p l e R s m args below meth c Q nL D cl A pc lv (v :: st) wd cells slots := fun H locs ls hl hP hD hS => lv_dup C.1.1 C.1.2.1 hd.1 hv (by exact hd.2 ▸ (k H locs ls hl hP hD hS))
theorem j_pop (C : JC p m c cc nL s args Ts own D cl tys A) {v : Value} (hd : dec cc pc .pop 1 pc') (hv : v.category = 1) (k : J p l e R s m args below meth c Q nL D cl A pc' lv st wd cells slots) : J p l e R s m args below meth c Q nL D cl A pc lv (v :: st) wd cells slots := fun H locs ls hl hP hD hS => lv_pop C.1.1 C.1.2.1 hd.1 hv (by exact hd.2 ▸ (k H locs ls hl hP hD hS))
theorem j_dup_x1 (C : JC p m c cc nL s args Ts own D cl tys A) {v w : Value} (hd : dec cc pc .dup_x1 1 pc') (hv : v.category = 1) (hw : w.category = 1) (k : J p l e R s m args below meth c Q nL D cl A pc' lv (v :: w :: v :: st) wd cells slots) : J p l e R s m args below meth c Q nL D cl A pc lv (v :: w :: st) wd cells slots := fun H locs ls hl hP hD hS => lv_dup_x1 C.1.1 C.1.2.1 hd.1 hv hw (by exact hd.2 ▸ (k H locs ls hl hP hD hS))
theorem j_dup2 (C : JC p m c cc nL s args Ts own D cl tys A) {v w : Value} (hd : dec cc pc .dup2 1 pc') (hv : v.category = 1) (hw : w.category = 1) (k : J p l e R s m args below meth c Q nL D cl A pc' lv (v :: w :: v :: w :: st) wd cells slots) : J p l e R s m args below meth c Q nL D cl A pc lv (v :: w :: st) wd cells slots := fun H locs ls hl hP hD hS => lv_dup2_11 C.1.1 C.1.2.1 hd.1 hv hw (by exact hd.2 ▸ (k H locs ls hl hP hD hS))
theorem j_top {x y : Int32} (h : x = y) (k : J p l e R s m args below meth c Q nL D cl A pc lv (.int y :: st) wd cells slots) : J p l e R s m args below meth c Q nL D cl A pc lv (.int x :: st) wd cells slots := h ▸ k
theorem j_loc (ks : List Nat) (h : lv_pick lv ks = lv') (k : J p l e R s m args below meth c Q nL D cl A pc lv' st wd cells slots) : J p l e R s m args below meth c Q nL D cl A pc lv st wd cells slots := fun H locs ls hl hP hD hS => k H locs ls (lv_sub hl ks h) hP hD hS
theorem j_wd (h : wd = wd') (k : J p l e R s m args below meth c Q nL D cl A pc lv st wd' cells slots) : J p l e R s m args below meth c Q nL D cl A pc lv st wd cells slots := h ▸ k
theorem j_widen {cells' slots' : Nat} (h1 : cells ≤ cells') (h2 : slots ≤ slots') (k : J p l e R s m args below meth c Q nL D cl A pc lv st wd cells' slots') : J p l e R s m args below meth c Q nL D cl A pc lv st wd cells slots := fun H locs ls hl hP hD hS => W.widen h1 h2 (k H locs ls hl hP hD hS)
theorem j_icmp_eq (C : JC p m c cc nL s args Ts own D cl tys A) {a b : Int} {off : Int} (tgt : Nat) (hd : dec cc pc (.if_icmp .eq off) 3 pc') (ht : (pc : Int) + off = (tgt : Int)) (ha : (-2147483648 ≤ a ∧ a ≤ 2147483647)) (hb : (-2147483648 ≤ b ∧ b ≤ 2147483647)) (kt : a = b → J p l e R s m args below meth c Q nL D cl A tgt lv st wd cells slots) (kf : a ≠ b → J p l e R s m args below meth c Q nL D cl A pc' lv st wd cells slots) : J p l e R s m args below meth c Q nL D cl A pc lv (.int (zI b) :: .int (zI a) :: st) wd cells slots := fun H locs ls hl hP hD hS => lv_icmp_eq C.1.1 C.1.2.1 hd.1 ht (fun z => kt ((zI_inj ha hb).mp z) H locs ls hl hP hD hS) (fun z => by exact hd.2 ▸ kf (fun q => z ((zI_inj ha hb).mpr q)) H locs ls hl hP hD hS)
theorem j_if_eq (C : JC p m c cc nL s args Ts own D cl tys A) {a : Int} {off : Int} (tgt : Nat) (hd : dec cc pc (.ifCond .eq off) 3 pc') (ht : (pc : Int) + off = (tgt : Int)) (ha : (-2147483648 ≤ a ∧ a ≤ 2147483647)) (kt : a = 0 → J p l e R s m args below meth c Q nL D cl A tgt lv st wd cells slots) (kf : a ≠ 0 → J p l e R s m args below meth c Q nL D cl A pc' lv st wd cells slots) : J p l e R s m args below meth c Q nL D cl A pc lv (.int (zI a) :: st) wd cells slots := fun H locs ls hl hP hD hS => lv_if_eq C.1.1 C.1.2.1 hd.1 ht (fun z => kt ((zI_inj ha r0).mp (by rw [zI_0]; exact z)) H locs ls hl hP hD hS) (fun z => by exact hd.2 ▸ kf (fun q => z (by rw [← zI_0]; exact (zI_inj ha r0).mpr q)) H locs ls hl hP hD hS)
theorem j_icmp_ne (C : JC p m c cc nL s args Ts own D cl tys A) {a b : Int} {off : Int} (tgt : Nat) (hd : dec cc pc (.if_icmp .ne off) 3 pc') (ht : (pc : Int) + off = (tgt : Int)) (ha : (-2147483648 ≤ a ∧ a ≤ 2147483647)) (hb : (-2147483648 ≤ b ∧ b ≤ 2147483647)) (kt : a ≠ b → J p l e R s m args below meth c Q nL D cl A tgt lv st wd cells slots) (kf : a = b → J p l e R s m args below meth c Q nL D cl A pc' lv st wd cells slots) : J p l e R s m args below meth c Q nL D cl A pc lv (.int (zI b) :: .int (zI a) :: st) wd cells slots := fun H locs ls hl hP hD hS => lv_icmp_ne C.1.1 C.1.2.1 hd.1 ht (fun z => kt (fun q => z ((zI_inj ha hb).mpr q)) H locs ls hl hP hD hS) (fun z => by exact hd.2 ▸ kf ((zI_inj ha hb).mp z) H locs ls hl hP hD hS)
theorem j_if_ne (C : JC p m c cc nL s args Ts own D cl tys A) {a : Int} {off : Int} (tgt : Nat) (hd : dec cc pc (.ifCond .ne off) 3 pc') (ht : (pc : Int) + off = (tgt : Int)) (ha : (-2147483648 ≤ a ∧ a ≤ 2147483647)) (kt : a ≠ 0 → J p l e R s m args below meth c Q nL D cl A tgt lv st wd cells slots) (kf : a = 0 → J p l e R s m args below meth c Q nL D cl A pc' lv st wd cells slots) : J p l e R s m args below meth c Q nL D cl A pc lv (.int (zI a) :: st) wd cells slots := fun H locs ls hl hP hD hS => lv_if_ne C.1.1 C.1.2.1 hd.1 ht (fun z => kt (fun q => z (by rw [← zI_0]; exact (zI_inj ha r0).mpr q)) H locs ls hl hP hD hS) (fun z => by exact hd.2 ▸ kf ((zI_inj ha r0).mp (by rw [zI_0]; exact z)) H locs ls hl hP hD hS)
theorem j_icmp_lt (C : JC p m c cc nL s args Ts own D cl tys A) {a b : Int} {off : Int} (tgt : Nat) (hd : dec cc pc (.if_icmp .lt off) 3 pc') (ht : (pc : Int) + off = (tgt : Int)) (ha : (-2147483648 ≤ a ∧ a ≤ 2147483647)) (hb : (-2147483648 ≤ b ∧ b ≤ 2147483647)) (kt : a < b → J p l e R s m args below meth c Q nL D cl A tgt lv st wd cells slots) (kf : b ≤ a → J p l e R s m args below meth c Q nL D cl A pc' lv st wd cells slots) : J p l e R s m args below meth c Q nL D cl A pc lv (.int (zI b) :: .int (zI a) :: st) wd cells slots := fun H locs ls hl hP hD hS => lv_icmp_lt C.1.1 C.1.2.1 hd.1 ht (fun z => kt ((zI_lt ha hb).mp z) H locs ls hl hP hD hS) (fun z => by exact hd.2 ▸ kf (by have := mt (zI_lt ha hb).mpr z; omega) H locs ls hl hP hD hS)
theorem j_if_lt (C : JC p m c cc nL s args Ts own D cl tys A) {a : Int} {off : Int} (tgt : Nat) (hd : dec cc pc (.ifCond .lt off) 3 pc') (ht : (pc : Int) + off = (tgt : Int)) (ha : (-2147483648 ≤ a ∧ a ≤ 2147483647)) (kt : a < 0 → J p l e R s m args below meth c Q nL D cl A tgt lv st wd cells slots) (kf : 0 ≤ a → J p l e R s m args below meth c Q nL D cl A pc' lv st wd cells slots) : J p l e R s m args below meth c Q nL D cl A pc lv (.int (zI a) :: st) wd cells slots := fun H locs ls hl hP hD hS => lv_if_lt C.1.1 C.1.2.1 hd.1 ht (fun z => kt ((zI_lt ha r0).mp (by rw [zI_0]; exact z)) H locs ls hl hP hD hS) (fun z => by exact hd.2 ▸ kf (by have := mt (zI_lt ha r0).mpr (by rw [zI_0]; exact z); omega) H locs ls hl hP hD hS)
theorem j_icmp_ge (C : JC p m c cc nL s args Ts own D cl tys A) {a b : Int} {off : Int} (tgt : Nat) (hd : dec cc pc (.if_icmp .ge off) 3 pc') (ht : (pc : Int) + off = (tgt : Int)) (ha : (-2147483648 ≤ a ∧ a ≤ 2147483647)) (hb : (-2147483648 ≤ b ∧ b ≤ 2147483647)) (kt : b ≤ a → J p l e R s m args below meth c Q nL D cl A tgt lv st wd cells slots) (kf : a < b → J p l e R s m args below meth c Q nL D cl A pc' lv st wd cells slots) : J p l e R s m args below meth c Q nL D cl A pc lv (.int (zI b) :: .int (zI a) :: st) wd cells slots := fun H locs ls hl hP hD hS => lv_icmp_ge C.1.1 C.1.2.1 hd.1 ht (fun z => kt ((zI_le hb ha).mp z) H locs ls hl hP hD hS) (fun z => by exact hd.2 ▸ kf (by have := mt (zI_le hb ha).mpr z; omega) H locs ls hl hP hD hS)
theorem j_if_ge (C : JC p m c cc nL s args Ts own D cl tys A) {a : Int} {off : Int} (tgt : Nat) (hd : dec cc pc (.ifCond .ge off) 3 pc') (ht : (pc : Int) + off = (tgt : Int)) (ha : (-2147483648 ≤ a ∧ a ≤ 2147483647)) (kt : 0 ≤ a → J p l e R s m args below meth c Q nL D cl A tgt lv st wd cells slots) (kf : a < 0 → J p l e R s m args below meth c Q nL D cl A pc' lv st wd cells slots) : J p l e R s m args below meth c Q nL D cl A pc lv (.int (zI a) :: st) wd cells slots := fun H locs ls hl hP hD hS => lv_if_ge C.1.1 C.1.2.1 hd.1 ht (fun z => kt ((zI_le r0 ha).mp (by rw [zI_0]; exact z)) H locs ls hl hP hD hS) (fun z => by exact hd.2 ▸ kf (by have := mt (zI_le r0 ha).mpr (by rw [zI_0]; exact z); omega) H locs ls hl hP hD hS)
theorem j_icmp_gt (C : JC p m c cc nL s args Ts own D cl tys A) {a b : Int} {off : Int} (tgt : Nat) (hd : dec cc pc (.if_icmp .gt off) 3 pc') (ht : (pc : Int) + off = (tgt : Int)) (ha : (-2147483648 ≤ a ∧ a ≤ 2147483647)) (hb : (-2147483648 ≤ b ∧ b ≤ 2147483647)) (kt : b < a → J p l e R s m args below meth c Q nL D cl A tgt lv st wd cells slots) (kf : a ≤ b → J p l e R s m args below meth c Q nL D cl A pc' lv st wd cells slots) : J p l e R s m args below meth c Q nL D cl A pc lv (.int (zI b) :: .int (zI a) :: st) wd cells slots := fun H locs ls hl hP hD hS => lv_icmp_gt C.1.1 C.1.2.1 hd.1 ht (fun z => kt ((zI_lt hb ha).mp z) H locs ls hl hP hD hS) (fun z => by exact hd.2 ▸ kf (by have := mt (zI_lt hb ha).mpr z; omega) H locs ls hl hP hD hS)
theorem j_if_gt (C : JC p m c cc nL s args Ts own D cl tys A) {a : Int} {off : Int} (tgt : Nat) (hd : dec cc pc (.ifCond .gt off) 3 pc') (ht : (pc : Int) + off = (tgt : Int)) (ha : (-2147483648 ≤ a ∧ a ≤ 2147483647)) (kt : 0 < a → J p l e R s m args below meth c Q nL D cl A tgt lv st wd cells slots) (kf : a ≤ 0 → J p l e R s m args below meth c Q nL D cl A pc' lv st wd cells slots) : J p l e R s m args below meth c Q nL D cl A pc lv (.int (zI a) :: st) wd cells slots := fun H locs ls hl hP hD hS => lv_if_gt C.1.1 C.1.2.1 hd.1 ht (fun z => kt ((zI_lt r0 ha).mp (by rw [zI_0]; exact z)) H locs ls hl hP hD hS) (fun z => by exact hd.2 ▸ kf (by have := mt (zI_lt r0 ha).mpr (by rw [zI_0]; exact z); omega) H locs ls hl hP hD hS)
theorem j_icmp_le (C : JC p m c cc nL s args Ts own D cl tys A) {a b : Int} {off : Int} (tgt : Nat) (hd : dec cc pc (.if_icmp .le off) 3 pc') (ht : (pc : Int) + off = (tgt : Int)) (ha : (-2147483648 ≤ a ∧ a ≤ 2147483647)) (hb : (-2147483648 ≤ b ∧ b ≤ 2147483647)) (kt : a ≤ b → J p l e R s m args below meth c Q nL D cl A tgt lv st wd cells slots) (kf : b < a → J p l e R s m args below meth c Q nL D cl A pc' lv st wd cells slots) : J p l e R s m args below meth c Q nL D cl A pc lv (.int (zI b) :: .int (zI a) :: st) wd cells slots := fun H locs ls hl hP hD hS => lv_icmp_le C.1.1 C.1.2.1 hd.1 ht (fun z => kt ((zI_le ha hb).mp z) H locs ls hl hP hD hS) (fun z => by exact hd.2 ▸ kf (by have := mt (zI_le ha hb).mpr z; omega) H locs ls hl hP hD hS)
theorem j_if_le (C : JC p m c cc nL s args Ts own D cl tys A) {a : Int} {off : Int} (tgt : Nat) (hd : dec cc pc (.ifCond .le off) 3 pc') (ht : (pc : Int) + off = (tgt : Int)) (ha : (-2147483648 ≤ a ∧ a ≤ 2147483647)) (kt : a ≤ 0 → J p l e R s m args below meth c Q nL D cl A tgt lv st wd cells slots) (kf : 0 < a → J p l e R s m args below meth c Q nL D cl A pc' lv st wd cells slots) : J p l e R s m args below meth c Q nL D cl A pc lv (.int (zI a) :: st) wd cells slots := fun H locs ls hl hP hD hS => lv_if_le C.1.1 C.1.2.1 hd.1 ht (fun z => kt ((zI_le ha r0).mp (by rw [zI_0]; exact z)) H locs ls hl hP hD hS) (fun z => by exact hd.2 ▸ kf (by have := mt (zI_le ha r0).mpr (by rw [zI_0]; exact z); omega) H locs ls hl hP hD hS)
theorem j_goto (C : JC p m c cc nL s args Ts own D cl tys A) {off : Int} (tgt : Nat) (hd : dec cc pc (.goto off) 3 pc') (ht : (pc : Int) + off = (tgt : Int)) (k : J p l e R s m args below meth c Q nL D cl A tgt lv st wd cells slots) : J p l e R s m args below meth c Q nL D cl A pc lv st wd cells slots := fun H locs ls hl hP hD hS => lv_goto C.1.1 C.1.2.1 hd.1 ht (k H locs ls hl hP hD hS)
theorem j_getf (C : JC p m c cc nL s args Ts own D cl tys A) {ref Cn : String} {T : u_T} {N ci index a : Nat} {fs : List Value} {v : Value} (hin : ∀ w ∈ u_ws Cn T N, w ∈ Ts) (q0 : Nat) (he : wd[q0]? = some (a, .inr (ci, fs))) (hc : cl[ci]? = some (Cn, T, N)) (f : Nat) (hf : f < N) (hlink : Cond.fieldLink own index ref (T f).2.1 (T f).2.2.1 ∈ Ts) (hsame : (T f).1 = ref) (hv : fs[f]? = some v) (hd : dec cc pc (.getfield index) 3 pc') (k : J p l e R s m args below meth c Q nL D cl A pc' lv (v :: st) wd cells slots) : J p l e R s m args below meth c Q nL D cl A pc lv (.ref a :: st) wd cells slots := fun H locs ls hl hP hD hS => va_get C.1.1 C.1.2.1 C.1.2.2.2.2 hin C.1.2.2.2.1 C.2.1 hP q0 he hc f hf (C.1.2.2.2.2 _ hlink) (fun _ h => by rw [← hsame]; exact h) hv hd.1 (by exact hd.2 ▸ k H locs ls hl hP hD hS)
theorem j_putf (C : JC p m c cc nL s args Ts own D cl tys A) {ref Cn : String} {T : u_T} {N ci index a : Nat} {fs : List Value} {v : Value} {ty : FieldType} (hin : ∀ w ∈ u_ws Cn T N, w ∈ Ts) (ty0 : Nat → FieldType) (hty : ∀ k, k < N → parseFieldDescriptor (T k).2.2.1 = some (ty0 k)) (hnm : ∀ a, a < N → ∀ b, b < N → a ≠ b → (T a).2.1 ≠ (T b).2.1) (q0 : Nat) (he : wd[q0]? = some (a, .inr (ci, fs))) (hc : cl[ci]? = some (Cn, T, N)) (f : Nat) (hf : f < N) (hlink : Cond.fieldLink own index ref (T f).2.1 (T f).2.2.1 ∈ Ts) (hsame : (T f).1 = ref) (hfin : (T f).2.2.2 = false) (hdsc : parseFieldDescriptor (T f).2.2.1 = some ty) (hn : narrow ty v = v) (hfit : fits ty v = true) (hlen : f < fs.length) (hd : dec cc pc (.putfield index) 3 pc') (hw : wd.set q0 (a, .inr (ci, fs.set f v)) = wd') (k : J p l e R s m args below meth c Q nL D cl A pc' lv st wd' cells slots) : J p l e R s m args below meth c Q nL D cl A pc lv (v :: .ref a :: st) wd cells slots := fun H locs ls hl hP hD hS => va_put C.1.1 C.1.2.1 C.1.2.2.2.2 hin ty0 hty hnm C.1.2.2.2.1 C.2.1 hP hD hS q0 he hc f hf (C.1.2.2.2.2 _ hlink) (fun _ h => by rw [← hsame]; exact h) hfin hdsc hn hfit hlen hd.1 (fun H1 locs1 hP1 hD1 hS1 => by rw [hw] at hP1 hD1; exact hd.2 ▸ k H1 locs1 ls hl hP1 hD1 hS1)
theorem j_putF (C : JC p m c cc nL s args Ts own D cl tys A) {ref Cn : String} {T : u_T} {N ci index a : Nat} {fs : List Value} {v : Value} {ty : FieldType} (hin : ∀ w ∈ u_ws Cn T N, w ∈ Ts) (ty0 : Nat → FieldType) (hty : ∀ k, k < N → parseFieldDescriptor (T k).2.2.1 = some (ty0 k)) (hnm : ∀ a, a < N → ∀ b, b < N → a ≠ b → (T a).2.1 ≠ (T b).2.1) (q0 : Nat) (he : wd[q0]? = some (a, .inr (ci, fs))) (hc : cl[ci]? = some (Cn, T, N)) (f : Nat) (hf : f < N) (hlink : Cond.fieldLink own index ref (T f).2.1 (T f).2.2.1 ∈ Ts) (hsame : (T f).1 = ref) (hfin : (T f).2.2.2 = true) (hin2 : meth.name = "<init>") (hdecl : (T f).1 = own) (hdsc : parseFieldDescriptor (T f).2.2.1 = some ty) (hn : narrow ty v = v) (hfit : fits ty v = true) (hlen : f < fs.length) (hd : dec cc pc (.putfield index) 3 pc') (hw : wd.set q0 (a, .inr (ci, fs.set f v)) = wd') (k : J p l e R s m args below meth c Q nL D cl A pc' lv st wd' cells slots) : J p l e R s m args below meth c Q nL D cl A pc lv (v :: .ref a :: st) wd cells slots := fun H locs ls hl hP hD hS => va_putF C.1.1 C.1.2.1 C.1.2.2.2.2 hin ty0 hty hnm C.1.2.2.2.1 C.2.1 hP hD hS q0 he hc f hf (C.1.2.2.2.2 _ hlink) (fun _ h => by rw [← hsame]; exact h) hfin hin2 hdecl hdsc hn hfit hlen hd.1 (fun H1 locs1 hP1 hD1 hS1 => by rw [hw] at hP1 hD1; exact hd.2 ▸ k H1 locs1 ls hl hP1 hD1 hS1)
/-- an array cell whose contents are read off a function to Int -/
abbrev zA (cA : ClassId) (n : Nat) (g : Nat → Int) : va_E := .inl (cA, n, .inl (fun k => zI (g k)))
def zup (g : Nat → Int) (k : Nat) (v : Int) : Nat → Int := fun j => if j = k then v else g j
theorem zup_s {g : Nat → Int} {k : Nat} {v : Int} : zup g k v k = v := if_pos rfl
theorem zup_n {g : Nat → Int} {k j : Nat} {v : Int} (h : j ≠ k) : zup g k v j = g j := if_neg h
theorem zup_upd (g : Nat → Int) (k : Nat) (v : Int) : upd (fun j => zI (g j)) k (zI v) = fun j => zI (zup g k v j) := by
  funext j
  by_cases h : j = k
  · subst h; simp [upd, zup]
  · simp [upd, zup, h]
theorem j_iald (C : JC p m c cc nL s args Ts own D cl tys A) {a n : Nat} {cA : ClassId} {g : Nat → Int} {z : Int} (q0 t0 : Nat) (ha : wd[q0]? = some (a, zA cA n g)) (ht : tys[t0]? = some (cA, .int)) (i : Nat) (hz : z = (i : Int)) (hi : i < n) (hn : n ≤ 2147483647) (hd : dec cc pc .iaload 1 pc') (k : J p l e R s m args below meth c Q nL D cl A pc' lv (.int (zI (g i)) :: st) wd cells slots) : J p l e R s m args below meth c Q nL D cl A pc lv (.int (zI z) :: .ref a :: st) wd cells slots := by
  subst hz
  intro H locs ls hl hP hD hS
  refine va_iald C.1.1 C.1.2.1 C.2.1 hP q0 t0 ha ht (zI_in hi hn) hd.1 ?_
  rw [zI_clamp (by omega)]
  exact hd.2 ▸ k H locs ls hl hP hD hS
theorem j_bald (C : JC p m c cc nL s args Ts own D cl tys A) {a n : Nat} {cA : ClassId} {g : Nat → Int} {z : Int} (q0 t0 : Nat) (ha : wd[q0]? = some (a, zA cA n g)) (ht : tys[t0]? = some (cA, .byte)) (i : Nat) (hz : z = (i : Int)) (hi : i < n) (hn : n ≤ 2147483647) (hd : dec cc pc .baload 1 pc') (k : J p l e R s m args below meth c Q nL D cl A pc' lv (.int (zI (g i)) :: st) wd cells slots) : J p l e R s m args below meth c Q nL D cl A pc lv (.int (zI z) :: .ref a :: st) wd cells slots := by
  subst hz
  intro H locs ls hl hP hD hS
  refine va_bald C.1.1 C.1.2.1 C.2.1 hP q0 t0 ha ht (zI_in hi hn) hd.1 ?_
  rw [zI_clamp (by omega)]
  exact hd.2 ▸ k H locs ls hl hP hD hS
theorem j_zald (C : JC p m c cc nL s args Ts own D cl tys A) {a n : Nat} {cA : ClassId} {g : Nat → Int} {z : Int} (q0 t0 : Nat) (ha : wd[q0]? = some (a, zA cA n g)) (ht : tys[t0]? = some (cA, .boolean)) (i : Nat) (hz : z = (i : Int)) (hi : i < n) (hn : n ≤ 2147483647) (hd : dec cc pc .baload 1 pc') (k : J p l e R s m args below meth c Q nL D cl A pc' lv (.int (zI (g i)) :: st) wd cells slots) : J p l e R s m args below meth c Q nL D cl A pc lv (.int (zI z) :: .ref a :: st) wd cells slots := by
  subst hz
  intro H locs ls hl hP hD hS
  refine va_zald C.1.1 C.1.2.1 C.2.1 hP q0 t0 ha ht (zI_in hi hn) hd.1 ?_
  rw [zI_clamp (by omega)]
  exact hd.2 ▸ k H locs ls hl hP hD hS
theorem j_iast (C : JC p m c cc nL s args Ts own D cl tys A) {a n : Nat} {cA : ClassId} {g : Nat → Int} {z v : Int} (q0 t0 : Nat) (ha : wd[q0]? = some (a, zA cA n g)) (ht : tys[t0]? = some (cA, .int)) (i : Nat) (hz : z = (i : Int)) (hi : i < n) (hn : n ≤ 2147483647) (hd : dec cc pc .iastore 1 pc') (hw : wd.set q0 (a, zA cA n (zup g i v)) = wd') (k : J p l e R s m args below meth c Q nL D cl A pc' lv st wd' cells slots) : J p l e R s m args below meth c Q nL D cl A pc lv (.int (zI v) :: .int (zI z) :: .ref a :: st) wd cells slots := by
  subst hz
  intro H locs ls hl hP hD hS
  refine va_iast C.1.1 C.1.2.1 C.2.1 hP hD hS q0 t0 ha ht (zI_in hi hn) hd.1 (fun H1 locs1 hP1 hD1 hS1 => ?_)
  rw [zI_clamp (by omega), zup_upd, hw] at hP1 hD1
  exact hd.2 ▸ k H1 locs1 ls hl hP1 hD1 hS1
theorem j_bast (C : JC p m c cc nL s args Ts own D cl tys A) {a n : Nat} {cA : ClassId} {g : Nat → Int} {z v : Int} (q0 t0 : Nat) (ha : wd[q0]? = some (a, zA cA n g)) (ht : tys[t0]? = some (cA, .byte)) (i : Nat) (hz : z = (i : Int)) (hi : i < n) (hn : n ≤ 2147483647) (hv : vp_nar .byte (zI v) = zI v) (hd : dec cc pc .bastore 1 pc') (hw : wd.set q0 (a, zA cA n (zup g i v)) = wd') (k : J p l e R s m args below meth c Q nL D cl A pc' lv st wd' cells slots) : J p l e R s m args below meth c Q nL D cl A pc lv (.int (zI v) :: .int (zI z) :: .ref a :: st) wd cells slots := by
  subst hz
  intro H locs ls hl hP hD hS
  refine va_bast C.1.1 C.1.2.1 C.2.1 hP hD hS q0 t0 ha ht (zI_in hi hn) hd.1 (fun H1 locs1 hP1 hD1 hS1 => ?_)
  rw [zI_clamp (by omega), hv, zup_upd, hw] at hP1 hD1
  exact hd.2 ▸ k H1 locs1 ls hl hP1 hD1 hS1
theorem j_zast (C : JC p m c cc nL s args Ts own D cl tys A) {a n : Nat} {cA : ClassId} {g : Nat → Int} {z v : Int} (q0 t0 : Nat) (ha : wd[q0]? = some (a, zA cA n g)) (ht : tys[t0]? = some (cA, .boolean)) (i : Nat) (hz : z = (i : Int)) (hi : i < n) (hn : n ≤ 2147483647) (hv : vp_nar .boolean (zI v) = zI v) (hd : dec cc pc .bastore 1 pc') (hw : wd.set q0 (a, zA cA n (zup g i v)) = wd') (k : J p l e R s m args below meth c Q nL D cl A pc' lv st wd' cells slots) : J p l e R s m args below meth c Q nL D cl A pc lv (.int (zI v) :: .int (zI z) :: .ref a :: st) wd cells slots := by
  subst hz
  intro H locs ls hl hP hD hS
  refine va_zast C.1.1 C.1.2.1 C.2.1 hP hD hS q0 t0 ha ht (zI_in hi hn) hd.1 (fun H1 locs1 hP1 hD1 hS1 => ?_)
  rw [zI_clamp (by omega), hv, zup_upd, hw] at hP1 hD1
  exact hd.2 ▸ k H1 locs1 ls hl hP1 hD1 hS1
theorem j_alen (C : JC p m c cc nL s args Ts own D cl tys A) {a n : Nat} {cA : ClassId} {g : Nat → Int} {ty : FieldType} (q0 t0 : Nat) (ha : wd[q0]? = some (a, zA cA n g)) (ht : tys[t0]? = some (cA, ty)) (hd : dec cc pc .arraylength 1 pc') (k : J p l e R s m args below meth c Q nL D cl A pc' lv (.int (zI (n : Int)) :: st) wd cells slots) : J p l e R s m args below meth c Q nL D cl A pc lv (.ref a :: st) wd cells slots := fun H locs ls hl hP hD hS => va_alen C.1.1 C.1.2.1 C.2.1 hP q0 t0 ha ht (zI_nat n).symm hd.1 (by exact hd.2 ▸ k H locs ls hl hP hD hS)
end JR
end
section
/-! contracts: from the world w0 with arguments av: the answer and the world behind it are as 'post' says -/
def mPre (D : va_G) (cl : List vw_C) (tys : List (ClassId × FieldType)) (av : List Value) (w0 : va_W) (sz : Nat) : Array Value → State → Prop := va_Pc av (fun U => U.heap.size = sz ∧ va_P D cl w0 U.heap ∧ va_K D cl tys U ∧ va_D (fun _ => True) w0)
def mEnd (D : va_G) (cl : List vw_C) (tys : List (ClassId × FieldType)) (w0 : va_W) (sz : Nat) (w1 : va_W) (t : State) : Prop := va_P D cl w1 t.heap ∧ va_K D cl tys t ∧ va_D (va_A w0 sz) w1
def mQI (D : va_G) (cl : List vw_C) (tys : List (ClassId × FieldType)) (w0 : va_W) (sz : Nat) (post : Int → va_W → Prop) : Array Value → State → Outcome → State → Prop := va_Qi (fun r w1 => ∃ z : Int, r = zI z ∧ post z w1) (fun w1 t => mEnd D cl tys w0 sz w1 t) (va_A w0 sz)
def mQV (D : va_G) (cl : List vw_C) (tys : List (ClassId × FieldType)) (w0 : va_W) (sz : Nat) (post : va_W → Prop) : Array Value → State → Outcome → State → Prop := va_Qv (fun w1 => post w1) (fun w1 t => mEnd D cl tys w0 sz w1 t) (va_A w0 sz)
def mI (l : Launch) (y : MethodName) (ws : List Cond) (rm : Room) (D : va_G) (cl : List vw_C) (tys : List (ClassId × FieldType)) (av : List Value) (w0 : va_W) (mc ms : Nat) (post : Int → va_W → Prop) : Prop := ∀ sz : Nat, Met l y ws rm (mPre D cl tys av w0 sz) (mQI D cl tys w0 sz post) mc ms (va_A w0 sz)
def mV (l : Launch) (y : MethodName) (ws : List Cond) (rm : Room) (D : va_G) (cl : List vw_C) (tys : List (ClassId × FieldType)) (av : List Value) (w0 : va_W) (mc ms : Nat) (post : va_W → Prop) : Prop := ∀ sz : Nat, Met l y ws rm (mPre D cl tys av w0 sz) (mQV D cl tys w0 sz post) mc ms (va_A w0 sz)
theorem mPre_blind {D : va_G} {cl : List vw_C} {tys : List (ClassId × FieldType)} {av : List Value} {w0 : va_W} {sz : Nat} : FrameBlind (mPre D cl tys av w0 sz) := fun a U g mk q => by
  obtain ⟨q0, q1, qP, qK, qD⟩ := q
  exact ⟨q0, q1, qP, va_K.moved (u := U) (U := U.calling g mk a) (Vm.Alike.refl U.vm) qK, qD⟩
theorem sub_fm {wd wc : va_W} {is : List Nat} (h : is.map (fun i => wd[i]?) = wc.map some) : is.filterMap (fun i => wd[i]?) = wc := by
  have h1 : is.filterMap (fun i => wd[i]?) = (is.map (fun i => wd[i]?)).filterMap id := by rw [List.filterMap_map]; rfl
  rw [h1, h, List.filterMap_map]
  simp
theorem mI_of {l : Launch} {D : va_G} {cl : List vw_C} {tys : List (ClassId × FieldType)} {y : MethodName} {ws ws' : List Cond} {rm : Room} {av : List Value} {w0 : va_W} {mc ms : Nat} {post : Int → va_W → Prop} {cc : ByteArray} {maxL : Nat} {rt : FieldType} {own : String} (hyo : y.cls = own) (hy : plainName y.cls = true) (hw : ws = Cond.code y cc maxL (some rt) :: ws') (hlen : (lg_sl av).length ≤ maxL)
    (body : ∀ (p : Program) (e : Env) (s : State) (m : MethodId) (args : Array Value) (below : List Frame) (meth : Method) (c : Code), JC p m c cc maxL s args ws own D cl tys (va_A w0 s.heap.size) → meth.sig.returnType = (some rt) → meth.locks = false → meth.name = y.name → J p l e rm s m args below meth c (MQ below (mQI D cl tys w0 s.heap.size post) args s mc ms (va_A w0 s.heap.size)) maxL D cl (va_A w0 s.heap.size) 0 (lv_args 0 av) [] w0 0 0) : mI l y ws rm D cl tys av w0 mc ms post := by
  intro sz
  refine Met.ofW (cc := cc) (maxL := maxL) (ret := (some rt)) hy hw ?_
  intro p e s m args below meth c s₁ B hml hv
  obtain ⟨ha, hsz, hP, hK, hD0⟩ := hv
  subst hsz
  have hts := atoms_spec (ws := ws) B.pre
  have hown : s.vm.findClass own = some m.cls := hyo ▸ findClass_of_methodNamed B.named
  have hb := body p e s m args below meth c ⟨⟨B.exec, B.bytes, hml, hown, hts⟩, hK, fun q h => Or.inr h⟩ B.returns B.notSynchronized (name_of_methodNamed B.named B.method).1
  have hl := lv_entry av (n := maxL) hlen
  subst ha
  rw [lg_entry_eq]
  exact hb s.heap [] _ hl hP hD0.self va_S.rf
theorem mV_of {l : Launch} {D : va_G} {cl : List vw_C} {tys : List (ClassId × FieldType)} {y : MethodName} {ws ws' : List Cond} {rm : Room} {av : List Value} {w0 : va_W} {mc ms : Nat} {post : va_W → Prop} {cc : ByteArray} {maxL : Nat} {own : String} (hyo : y.cls = own) (hy : plainName y.cls = true) (hw : ws = Cond.code y cc maxL none :: ws') (hlen : (lg_sl av).length ≤ maxL)
    (body : ∀ (p : Program) (e : Env) (s : State) (m : MethodId) (args : Array Value) (below : List Frame) (meth : Method) (c : Code), JC p m c cc maxL s args ws own D cl tys (va_A w0 s.heap.size) → meth.sig.returnType = none → meth.locks = false → meth.name = y.name → J p l e rm s m args below meth c (MQ below (mQV D cl tys w0 s.heap.size post) args s mc ms (va_A w0 s.heap.size)) maxL D cl (va_A w0 s.heap.size) 0 (lv_args 0 av) [] w0 0 0) : mV l y ws rm D cl tys av w0 mc ms post := by
  intro sz
  refine Met.ofW (cc := cc) (maxL := maxL) (ret := none) hy hw ?_
  intro p e s m args below meth c s₁ B hml hv
  obtain ⟨ha, hsz, hP, hK, hD0⟩ := hv
  subst hsz
  have hts := atoms_spec (ws := ws) B.pre
  have hown : s.vm.findClass own = some m.cls := hyo ▸ findClass_of_methodNamed B.named
  have hb := body p e s m args below meth c ⟨⟨B.exec, B.bytes, hml, hown, hts⟩, hK, fun q h => Or.inr h⟩ B.returns B.notSynchronized (name_of_methodNamed B.named B.method).1
  have hl := lv_entry av (n := maxL) hlen
  subst ha
  rw [lg_entry_eq]
  exact hb s.heap [] _ hl hP hD0.self va_S.rf
section JR2
variable {p : Program} {l : Launch} {e : Env} {R : Room} {s : State} {m : MethodId} {args : Array Value} {below : List Frame} {meth : Method} {c : Code} {Q : State → Prop} {nL : Nat} {D : va_G} {cl : List vw_C} {tys : List (ClassId × FieldType)} {A : Nat → Prop} {cc : ByteArray} {Ts : List Cond} {own : String} {pc pc' : Nat} {lv lv' : List (Nat × Value)} {st : List Value} {wd wd' : va_W} {cells slots : Nat}
theorem j_iret {w0 : va_W} {post : Int → va_W → Prop} (C : JC p m c cc nL s args Ts own D cl tys (va_A w0 s.heap.size)) {rt : FieldType} {z : Int} (hr : meth.sig.returnType = some rt) (hlocks : meth.locks = false) (hn : narrow rt (.int (zI z)) = .int (zI z)) (hd : dec cc pc .ireturn 1 pc') (hp : post z wd) : J p l e R s m args below meth c (MQ below (mQI D cl tys w0 s.heap.size post) args s cells slots (va_A w0 s.heap.size)) nL D cl (va_A w0 s.heap.size) pc lv ([.int (zI z)]) wd cells slots := fun H locs ls hl hP hD hS => W.zret C.1.1 C.1.2.1 hr hn (fun t ht hW => ⟨⟨zI z, wd, rfl, ⟨z, rfl, hp⟩, by rw [ht]; exact hP, va_K.moved hW.alike C.2.1, hD⟩, hS.F ht⟩) hS.2.2 hd.1 hlocks
theorem j_vret {w0 : va_W} {post : va_W → Prop} (C : JC p m c cc nL s args Ts own D cl tys (va_A w0 s.heap.size)) (hr : meth.sig.returnType = none) (hlocks : meth.locks = false) (hd : dec cc pc .return_ 1 pc') (hp : post wd) : J p l e R s m args below meth c (MQ below (mQV D cl tys w0 s.heap.size post) args s cells slots (va_A w0 s.heap.size)) nL D cl (va_A w0 s.heap.size) pc lv ([]) wd cells slots := fun H locs ls hl hP hD hS => W.vret C.1.1 C.1.2.1 hr (fun t ht hW => ⟨⟨wd, rfl, hp, by rw [ht]; exact hP, va_K.moved hW.alike C.2.1, hD⟩, hS.F ht⟩) hS.2.2 hd.1 hlocks
theorem j_perm (is : List Nat) (hn : va_nd is = true) (h : is.map (fun i => wd[i]?) = wd'.map some) (k : J p l e R s m args below meth c Q nL D cl A pc lv st wd' cells slots) : J p l e R s m args below meth c Q nL D cl A pc lv st wd cells slots := fun H locs ls hl hP hD hS => k H locs ls hl (hP.sub is (sub_fm h)) (hD.sub is hn h) hS
theorem j_eq {st' : List Value} (h1 : lv = lv') (h2 : st = st') (h3 : wd = wd') (k : J p l e R s m args below meth c Q nL D cl A pc lv' st' wd' cells slots) : J p l e R s m args below meth c Q nL D cl A pc lv st wd cells slots := by subst h1; subst h2; subst h3; exact k
theorem j_callVi (C : JC p m c cc nL s args Ts own D cl tys A) {y : MethodName} {ws : List Cond} {rm : Room} {bytes : ByteArray} {maxL mc ms n index : Nat} {ret : Option FieldType} {As rest stk : List Value} {wc : va_W} {post : Int → va_W → Prop} {b ci : Nat} {Cn : String} {T : u_T} {N : Nat} {fs : List Value}  (hM : mI l y ws rm D cl tys (.ref b :: As) wc mc ms post) (cw : CallW R s args own Cn index y bytes maxL ret ws rm mc ms n) (isC isR : List Nat) {wr : va_W} (hC : isC.map (fun i => wd[i]?) = wc.map some) (hnC : va_nd isC = true) (hR : isR.map (fun i => wd[i]?) = wr.map some) (hnR : va_nd isR = true) (hdis : ∀ i ∈ isR, i ∉ isC) (q0 : Nat) (he : wd[q0]? = some (b, .inr (ci, fs))) (hc : cl[ci]? = some (Cn, T, N)) (hlen : As.length = n) (hst : stk = As.reverse ++ .ref b :: rest) (hW : (rest.map fun v => v.category).sum ≤ 8) (hd : dec cc pc (.invokevirtual index) 3 pc') (hf : cells + mc ≤ R.cells ∧ slots + ms ≤ R.slots) (k : ∀ z w1, post z w1 → J p l e R s m args below meth c Q nL D cl A pc' lv (.int (zI z) :: rest) (wr ++ w1) (cells + mc) (slots + ms)) : J p l e R s m args below meth c Q nL D cl A pc lv stk wd cells slots := by
  intro H locs ls hl hP hD hS
  have hPc : va_P D cl wc H := hP.sub isC (sub_fm hC)
  have hDc := hD.sub isC hnC hC
  have hFc := va_free (wc := wc) hD hS C.2.2 isC hC
  refine va_calli (va_runV (As := As) (rest := rest) C.1 (hM H.size) cw ⟨mPre_blind, va_recv C.2.1 hP hc he, fun U hU hW => ⟨rfl, by rw [hU], by rw [hU]; exact hPc, va_K.moved hW.alike C.2.1, hDc.weaken (fun _ _ _ _ => trivial)⟩⟩ rfl hlen hl.1 hst (lv_room hW) hd.1 hf) hS (fun q _ h => hFc q h) hFc (fun r u t H1 locs1 ht hvm hw hB hz1 hk1 hS1 => ?_)
  obtain ⟨z, rfl, hp⟩ := hw
  obtain ⟨hP1, hK1, hD1⟩ := hB
  rw [ht] at hP1
  obtain ⟨hPj, hDj⟩ := va_join hP hD isC isR hC hR hnR hdis hk1 hFc hP1 hD1
  exact hd.2 ▸ k z u hp H1 locs1 ls hl hPj hDj hS1
theorem j_callVv (C : JC p m c cc nL s args Ts own D cl tys A) {y : MethodName} {ws : List Cond} {rm : Room} {bytes : ByteArray} {maxL mc ms n index : Nat} {ret : Option FieldType} {As rest stk : List Value} {wc : va_W} {post : va_W → Prop} {b ci : Nat} {Cn : String} {T : u_T} {N : Nat} {fs : List Value}  (hM : mV l y ws rm D cl tys (.ref b :: As) wc mc ms post) (cw : CallW R s args own Cn index y bytes maxL ret ws rm mc ms n) (isC isR : List Nat) {wr : va_W} (hC : isC.map (fun i => wd[i]?) = wc.map some) (hnC : va_nd isC = true) (hR : isR.map (fun i => wd[i]?) = wr.map some) (hnR : va_nd isR = true) (hdis : ∀ i ∈ isR, i ∉ isC) (q0 : Nat) (he : wd[q0]? = some (b, .inr (ci, fs))) (hc : cl[ci]? = some (Cn, T, N)) (hlen : As.length = n) (hst : stk = As.reverse ++ .ref b :: rest) (hW : (rest.map fun v => v.category).sum ≤ 8) (hd : dec cc pc (.invokevirtual index) 3 pc') (hf : cells + mc ≤ R.cells ∧ slots + ms ≤ R.slots) (k : ∀ w1, post w1 → J p l e R s m args below meth c Q nL D cl A pc' lv rest (wr ++ w1) (cells + mc) (slots + ms)) : J p l e R s m args below meth c Q nL D cl A pc lv stk wd cells slots := by
  intro H locs ls hl hP hD hS
  have hPc : va_P D cl wc H := hP.sub isC (sub_fm hC)
  have hDc := hD.sub isC hnC hC
  have hFc := va_free (wc := wc) hD hS C.2.2 isC hC
  refine va_callv (va_runV (As := As) (rest := rest) C.1 (hM H.size) cw ⟨mPre_blind, va_recv C.2.1 hP hc he, fun U hU hW => ⟨rfl, by rw [hU], by rw [hU]; exact hPc, va_K.moved hW.alike C.2.1, hDc.weaken (fun _ _ _ _ => trivial)⟩⟩ rfl hlen hl.1 hst (lv_room hW) hd.1 hf) hS (fun q _ h => hFc q h) hFc (fun u t H1 locs1 ht hvm hw hB hz1 hk1 hS1 => ?_)
  obtain ⟨hP1, hK1, hD1⟩ := hB
  rw [ht] at hP1
  obtain ⟨hPj, hDj⟩ := va_join hP hD isC isR hC hR hnR hdis hk1 hFc hP1 hD1
  exact hd.2 ▸ k u hw H1 locs1 ls hl hPj hDj hS1
theorem j_callSi (C : JC p m c cc nL s args Ts own D cl tys A) {y : MethodName} {ws : List Cond} {rm : Room} {bytes : ByteArray} {maxL mc ms n index : Nat} {ret : Option FieldType} {As rest stk : List Value} {wc : va_W} {post : Int → va_W → Prop}  (hM : mI l y ws rm D cl tys As wc mc ms post) (cw : CallB R s args own index y bytes maxL ret ws rm mc ms n ∧ (Cond.static y).before args s = true) (isC isR : List Nat) {wr : va_W} (hC : isC.map (fun i => wd[i]?) = wc.map some) (hnC : va_nd isC = true) (hR : isR.map (fun i => wd[i]?) = wr.map some) (hnR : va_nd isR = true) (hdis : ∀ i ∈ isR, i ∉ isC)  (hlen : As.length = n) (hst : stk = As.reverse ++ rest) (hW : (rest.map fun v => v.category).sum ≤ 8) (hd : dec cc pc (.invokestatic index) 3 pc') (hf : cells + mc ≤ R.cells ∧ slots + ms ≤ R.slots) (k : ∀ z w1, post z w1 → J p l e R s m args below meth c Q nL D cl A pc' lv (.int (zI z) :: rest) (wr ++ w1) (cells + mc) (slots + ms)) : J p l e R s m args below meth c Q nL D cl A pc lv stk wd cells slots := by
  intro H locs ls hl hP hD hS
  have hPc : va_P D cl wc H := hP.sub isC (sub_fm hC)
  have hDc := hD.sub isC hnC hC
  have hFc := va_free (wc := wc) hD hS C.2.2 isC hC
  refine va_calli (va_runS (As := As) (rest := rest) C.1 (hM H.size) cw ⟨mPre_blind, fun U hU hW => ⟨rfl, by rw [hU], by rw [hU]; exact hPc, va_K.moved hW.alike C.2.1, hDc.weaken (fun _ _ _ _ => trivial)⟩⟩ rfl hlen hl.1 hst (lv_room hW) hd.1 hf) hS (fun q _ h => hFc q h) hFc (fun r u t H1 locs1 ht hvm hw hB hz1 hk1 hS1 => ?_)
  obtain ⟨z, rfl, hp⟩ := hw
  obtain ⟨hP1, hK1, hD1⟩ := hB
  rw [ht] at hP1
  obtain ⟨hPj, hDj⟩ := va_join hP hD isC isR hC hR hnR hdis hk1 hFc hP1 hD1
  exact hd.2 ▸ k z u hp H1 locs1 ls hl hPj hDj hS1
theorem j_callSv (C : JC p m c cc nL s args Ts own D cl tys A) {y : MethodName} {ws : List Cond} {rm : Room} {bytes : ByteArray} {maxL mc ms n index : Nat} {ret : Option FieldType} {As rest stk : List Value} {wc : va_W} {post : va_W → Prop}  (hM : mV l y ws rm D cl tys As wc mc ms post) (cw : CallB R s args own index y bytes maxL ret ws rm mc ms n ∧ (Cond.static y).before args s = true) (isC isR : List Nat) {wr : va_W} (hC : isC.map (fun i => wd[i]?) = wc.map some) (hnC : va_nd isC = true) (hR : isR.map (fun i => wd[i]?) = wr.map some) (hnR : va_nd isR = true) (hdis : ∀ i ∈ isR, i ∉ isC)  (hlen : As.length = n) (hst : stk = As.reverse ++ rest) (hW : (rest.map fun v => v.category).sum ≤ 8) (hd : dec cc pc (.invokestatic index) 3 pc') (hf : cells + mc ≤ R.cells ∧ slots + ms ≤ R.slots) (k : ∀ w1, post w1 → J p l e R s m args below meth c Q nL D cl A pc' lv rest (wr ++ w1) (cells + mc) (slots + ms)) : J p l e R s m args below meth c Q nL D cl A pc lv stk wd cells slots := by
  intro H locs ls hl hP hD hS
  have hPc : va_P D cl wc H := hP.sub isC (sub_fm hC)
  have hDc := hD.sub isC hnC hC
  have hFc := va_free (wc := wc) hD hS C.2.2 isC hC
  refine va_callv (va_runS (As := As) (rest := rest) C.1 (hM H.size) cw ⟨mPre_blind, fun U hU hW => ⟨rfl, by rw [hU], by rw [hU]; exact hPc, va_K.moved hW.alike C.2.1, hDc.weaken (fun _ _ _ _ => trivial)⟩⟩ rfl hlen hl.1 hst (lv_room hW) hd.1 hf) hS (fun q _ h => hFc q h) hFc (fun u t H1 locs1 ht hvm hw hB hz1 hk1 hS1 => ?_)
  obtain ⟨hP1, hK1, hD1⟩ := hB
  rw [ht] at hP1
  obtain ⟨hPj, hDj⟩ := va_join hP hD isC isR hC hR hnR hdis hk1 hFc hP1 hD1
  exact hd.2 ▸ k u hw H1 locs1 ls hl hPj hDj hS1
theorem j_callIv (C : JC p m c cc nL s args Ts own D cl tys A) {y : MethodName} {ws : List Cond} {rm : Room} {bytes : ByteArray} {maxL mc ms n index : Nat} {As rest stk : List Value} {wc : va_W} {post : va_W → Prop} {b : Nat} (hM : mV l y ws rm D cl tys (.ref b :: As) wc mc ms post) (cw : CallB R s args own index y bytes maxL none ws rm mc ms n ∧ y.name = "<init>" ∧ (Cond.instanceMethod y).before args s = true) (isC isR : List Nat) {wr : va_W} (hC : isC.map (fun i => wd[i]?) = wc.map some) (hnC : va_nd isC = true) (hR : isR.map (fun i => wd[i]?) = wr.map some) (hnR : va_nd isR = true) (hdis : ∀ i ∈ isR, i ∉ isC)  (hlen : As.length = n) (hst : stk = As.reverse ++ .ref b :: rest) (hW : (rest.map fun v => v.category).sum ≤ 8) (hd : dec cc pc (.invokespecial index) 3 pc') (hf : cells + mc ≤ R.cells ∧ slots + ms ≤ R.slots) (k : ∀ w1, post w1 → J p l e R s m args below meth c Q nL D cl A pc' lv rest (wr ++ w1) (cells + mc) (slots + ms)) : J p l e R s m args below meth c Q nL D cl A pc lv stk wd cells slots := by
  intro H locs ls hl hP hD hS
  have hPc : va_P D cl wc H := hP.sub isC (sub_fm hC)
  have hDc := hD.sub isC hnC hC
  have hFc := va_free (wc := wc) hD hS C.2.2 isC hC
  refine va_callv (va_runI (As := As) (rest := rest) C.1 (hM H.size) cw ⟨mPre_blind, fun U hU hW => ⟨rfl, by rw [hU], by rw [hU]; exact hPc, va_K.moved hW.alike C.2.1, hDc.weaken (fun _ _ _ _ => trivial)⟩⟩ rfl hlen hl.1 hst (lv_room hW) hd.1 hf) hS (fun q _ h => hFc q h) hFc (fun u t H1 locs1 ht hvm hw hB hz1 hk1 hS1 => ?_)
  obtain ⟨hP1, hK1, hD1⟩ := hB
  rw [ht] at hP1
  obtain ⟨hPj, hDj⟩ := va_join hP hD isC isR hC hR hnR hdis hk1 hFc hP1 hD1
  exact hd.2 ▸ k u hw H1 locs1 ls hl hPj hDj hS1
theorem j_mmax (C : JC p m c cc nL s args Ts own D cl tys A) {index : Nat} {a b : Int} (hlink : Cond.methodLink own index Lib.Math.max.name ∈ Ts) (hstat : Cond.static Lib.Math.max.name ∈ Ts) (hini : Cond.initialized "java/lang/Math" ∈ Ts) (hcode : Cond.code Lib.Math.max.name Lib.Math.max.code 2 (some .int) ∈ Ts) (hframes : 1 ≤ R.frames) (hlocals : (st.map fun v => v.category).sum + 13 ≤ R.locals) (hcs : cells ≤ R.cells ∧ slots ≤ R.slots) (ha : (-2147483648 ≤ a ∧ a ≤ 2147483647)) (hb : (-2147483648 ≤ b ∧ b ≤ 2147483647)) (hd : dec cc pc (.invokestatic index) 3 pc') (k : J p l e R s m args below meth c Q nL D cl A pc' lv (.int (zI (max a b)) :: st) wd cells slots) : J p l e R s m args below meth c Q nL D cl A pc lv (.int (zI b) :: .int (zI a) :: st) wd cells slots := by
  intro H locs ls hl hP hD hS
  have C5 := C.1.2.2.2.2
  refine va_mmax C.1.1 C.1.2.1 (C.1.2.2.1.trans hl.1.symm) C.1.2.2.2.1 (C5 _ hlink) (C5 _ hstat) (C5 _ hini) (C5 _ hcode) hframes hlocals hcs.1 hcs.2 hd.1 ?_
  have he : (if zI a < zI b then zI b else zI a) = zI (max a b) := by
    by_cases h : a < b
    · rw [if_pos ((zI_lt ha hb).mpr h)]; congr 1; omega
    · rw [if_neg (fun q => h ((zI_lt ha hb).mp q))]; congr 1; omega
  rw [he]
  exact hd.2 ▸ k H locs ls hl hP hD hS
theorem j_mmin (C : JC p m c cc nL s args Ts own D cl tys A) {index : Nat} {a b : Int} (hlink : Cond.methodLink own index Lib.Math.min.name ∈ Ts) (hstat : Cond.static Lib.Math.min.name ∈ Ts) (hini : Cond.initialized "java/lang/Math" ∈ Ts) (hcode : Cond.code Lib.Math.min.name Lib.Math.min.code 2 (some .int) ∈ Ts) (hframes : 1 ≤ R.frames) (hlocals : (st.map fun v => v.category).sum + 13 ≤ R.locals) (hcs : cells ≤ R.cells ∧ slots ≤ R.slots) (ha : (-2147483648 ≤ a ∧ a ≤ 2147483647)) (hb : (-2147483648 ≤ b ∧ b ≤ 2147483647)) (hd : dec cc pc (.invokestatic index) 3 pc') (k : J p l e R s m args below meth c Q nL D cl A pc' lv (.int (zI (min a b)) :: st) wd cells slots) : J p l e R s m args below meth c Q nL D cl A pc lv (.int (zI b) :: .int (zI a) :: st) wd cells slots := by
  intro H locs ls hl hP hD hS
  have C5 := C.1.2.2.2.2
  refine va_mmin C.1.1 C.1.2.1 (C.1.2.2.1.trans hl.1.symm) C.1.2.2.2.1 (C5 _ hlink) (C5 _ hstat) (C5 _ hini) (C5 _ hcode) hframes hlocals hcs.1 hcs.2 hd.1 ?_
  have he : (if zI b < zI a then zI b else zI a) = zI (min a b) := by
    by_cases h : b < a
    · rw [if_pos ((zI_lt hb ha).mpr h)]; congr 1; omega
    · rw [if_neg (fun q => h ((zI_lt hb ha).mp q))]; congr 1; omega
  rw [he]
  exact hd.2 ▸ k H locs ls hl hP hD hS
end JR2
end
section
set_option maxRecDepth 20000 in
theorem ggX0_init_J7_fill_031fb : GoodIn wsX0_init wsJ7_fill_031fb := goodIn_r _ [29] (by decide +kernel) (by decide +kernel)
set_option maxRecDepth 20000 in
theorem gX0_init_J7_fill_031fb : GoodIn wsX0_init (va_wsS RX0 58 yJ7_fill_031fb wsJ7_fill_031fb) := goodIn_app (goodIn_of _ (by decide +kernel)) ggX0_init_J7_fill_031fb
theorem dX0_init_0 : decode cX0_init 0 = .ok (.aload_n 0, 1) := by decide +kernel
theorem eX0_init_0 : dec cX0_init 0 (.aload_n 0) 1 1 := ⟨dX0_init_0, rfl⟩
theorem dX0_init_1 : decode cX0_init 1 = .ok (.invokespecial 3, 3) := by decide +kernel
theorem eX0_init_1 : dec cX0_init 1 (.invokespecial 3) 3 4 := ⟨dX0_init_1, rfl⟩
theorem dX0_init_4 : decode cX0_init 4 = .ok (.aload_n 0, 1) := by decide +kernel
theorem eX0_init_4 : dec cX0_init 4 (.aload_n 0) 1 5 := ⟨dX0_init_4, rfl⟩
theorem dX0_init_5 : decode cX0_init 5 = .ok (.iconst 1, 1) := by decide +kernel
theorem eX0_init_5 : dec cX0_init 5 (.iconst 1) 1 6 := ⟨dX0_init_5, rfl⟩
theorem dX0_init_6 : decode cX0_init 6 = .ok (.bipush 48, 2) := by decide +kernel
theorem eX0_init_6 : dec cX0_init 6 (.bipush 48) 2 8 := ⟨dX0_init_6, rfl⟩
theorem dX0_init_8 : decode cX0_init 8 = .ok (.iload_n 1, 1) := by decide +kernel
theorem eX0_init_8 : dec cX0_init 8 (.iload_n 1) 1 9 := ⟨dX0_init_8, rfl⟩
theorem dX0_init_9 : decode cX0_init 9 = .ok (.invokestatic 9, 3) := by decide +kernel
theorem eX0_init_9 : dec cX0_init 9 (.invokestatic 9) 3 12 := ⟨dX0_init_9, rfl⟩
theorem dX0_init_12 : decode cX0_init 12 = .ok (.invokestatic 15, 3) := by decide +kernel
theorem eX0_init_12 : dec cX0_init 12 (.invokestatic 15) 3 15 := ⟨dX0_init_12, rfl⟩
theorem dX0_init_15 : decode cX0_init 15 = .ok (.putfield 18, 3) := by decide +kernel
theorem eX0_init_15 : dec cX0_init 15 (.putfield 18) 3 18 := ⟨dX0_init_15, rfl⟩
theorem dX0_init_18 : decode cX0_init 18 = .ok (.aload_n 0, 1) := by decide +kernel
theorem eX0_init_18 : dec cX0_init 18 (.aload_n 0) 1 19 := ⟨dX0_init_18, rfl⟩
theorem dX0_init_19 : decode cX0_init 19 = .ok (.iconst 1, 1) := by decide +kernel
theorem eX0_init_19 : dec cX0_init 19 (.iconst 1) 1 20 := ⟨dX0_init_19, rfl⟩
theorem dX0_init_20 : decode cX0_init 20 = .ok (.bipush 48, 2) := by decide +kernel
theorem eX0_init_20 : dec cX0_init 20 (.bipush 48) 2 22 := ⟨dX0_init_20, rfl⟩
theorem dX0_init_22 : decode cX0_init 22 = .ok (.iload_n 2, 1) := by decide +kernel
theorem eX0_init_22 : dec cX0_init 22 (.iload_n 2) 1 23 := ⟨dX0_init_22, rfl⟩
theorem dX0_init_23 : decode cX0_init 23 = .ok (.invokestatic 9, 3) := by decide +kernel
theorem eX0_init_23 : dec cX0_init 23 (.invokestatic 9) 3 26 := ⟨dX0_init_23, rfl⟩
theorem dX0_init_26 : decode cX0_init 26 = .ok (.invokestatic 15, 3) := by decide +kernel
theorem eX0_init_26 : dec cX0_init 26 (.invokestatic 15) 3 29 := ⟨dX0_init_26, rfl⟩
theorem dX0_init_29 : decode cX0_init 29 = .ok (.putfield 22, 3) := by decide +kernel
theorem eX0_init_29 : dec cX0_init 29 (.putfield 22) 3 32 := ⟨dX0_init_29, rfl⟩
theorem dX0_init_32 : decode cX0_init 32 = .ok (.aload_n 0, 1) := by decide +kernel
theorem eX0_init_32 : dec cX0_init 32 (.aload_n 0) 1 33 := ⟨dX0_init_32, rfl⟩
theorem dX0_init_33 : decode cX0_init 33 = .ok (.getfield 18, 3) := by decide +kernel
theorem eX0_init_33 : dec cX0_init 33 (.getfield 18) 3 36 := ⟨dX0_init_33, rfl⟩
theorem dX0_init_36 : decode cX0_init 36 = .ok (.aload_n 0, 1) := by decide +kernel
theorem eX0_init_36 : dec cX0_init 36 (.aload_n 0) 1 37 := ⟨dX0_init_36, rfl⟩
theorem dX0_init_37 : decode cX0_init 37 = .ok (.getfield 22, 3) := by decide +kernel
theorem eX0_init_37 : dec cX0_init 37 (.getfield 22) 3 40 := ⟨dX0_init_37, rfl⟩
theorem dX0_init_40 : decode cX0_init 40 = .ok (.imul, 1) := by decide +kernel
theorem eX0_init_40 : dec cX0_init 40 .imul 1 41 := ⟨dX0_init_40, rfl⟩
theorem dX0_init_41 : decode cX0_init 41 = .ok (.istore_n 3, 1) := by decide +kernel
theorem eX0_init_41 : dec cX0_init 41 (.istore_n 3) 1 42 := ⟨dX0_init_41, rfl⟩
theorem dX0_init_42 : decode cX0_init 42 = .ok (.aload_n 0, 1) := by decide +kernel
theorem eX0_init_42 : dec cX0_init 42 (.aload_n 0) 1 43 := ⟨dX0_init_42, rfl⟩
theorem dX0_init_43 : decode cX0_init 43 = .ok (.iload_n 3, 1) := by decide +kernel
theorem eX0_init_43 : dec cX0_init 43 (.iload_n 3) 1 44 := ⟨dX0_init_43, rfl⟩
theorem dX0_init_44 : decode cX0_init 44 = .ok (.newarray .byte, 2) := by decide +kernel
theorem eX0_init_44 : dec cX0_init 44 (.newarray .byte) 2 46 := ⟨dX0_init_44, rfl⟩
theorem dX0_init_46 : decode cX0_init 46 = .ok (.putfield 25, 3) := by decide +kernel
theorem eX0_init_46 : dec cX0_init 46 (.putfield 25) 3 49 := ⟨dX0_init_46, rfl⟩
theorem dX0_init_49 : decode cX0_init 49 = .ok (.aload_n 0, 1) := by decide +kernel
theorem eX0_init_49 : dec cX0_init 49 (.aload_n 0) 1 50 := ⟨dX0_init_49, rfl⟩
theorem dX0_init_50 : decode cX0_init 50 = .ok (.iload_n 3, 1) := by decide +kernel
theorem eX0_init_50 : dec cX0_init 50 (.iload_n 3) 1 51 := ⟨dX0_init_50, rfl⟩
theorem dX0_init_51 : decode cX0_init 51 = .ok (.newarray .byte, 2) := by decide +kernel
theorem eX0_init_51 : dec cX0_init 51 (.newarray .byte) 2 53 := ⟨dX0_init_51, rfl⟩
theorem dX0_init_53 : decode cX0_init 53 = .ok (.putfield 29, 3) := by decide +kernel
theorem eX0_init_53 : dec cX0_init 53 (.putfield 29) 3 56 := ⟨dX0_init_53, rfl⟩
theorem dX0_init_56 : decode cX0_init 56 = .ok (.aload_n 0, 1) := by decide +kernel
theorem eX0_init_56 : dec cX0_init 56 (.aload_n 0) 1 57 := ⟨dX0_init_56, rfl⟩
theorem dX0_init_57 : decode cX0_init 57 = .ok (.sipush 257, 3) := by decide +kernel
theorem eX0_init_57 : dec cX0_init 57 (.sipush 257) 3 60 := ⟨dX0_init_57, rfl⟩
theorem dX0_init_60 : decode cX0_init 60 = .ok (.newarray .int, 2) := by decide +kernel
theorem eX0_init_60 : dec cX0_init 60 (.newarray .int) 2 62 := ⟨dX0_init_60, rfl⟩
theorem dX0_init_62 : decode cX0_init 62 = .ok (.putfield 32, 3) := by decide +kernel
theorem eX0_init_62 : dec cX0_init 62 (.putfield 32) 3 65 := ⟨dX0_init_62, rfl⟩
theorem dX0_init_65 : decode cX0_init 65 = .ok (.aload_n 0, 1) := by decide +kernel
theorem eX0_init_65 : dec cX0_init 65 (.aload_n 0) 1 66 := ⟨dX0_init_65, rfl⟩
theorem dX0_init_66 : decode cX0_init 66 = .ok (.sipush 257, 3) := by decide +kernel
theorem eX0_init_66 : dec cX0_init 66 (.sipush 257) 3 69 := ⟨dX0_init_66, rfl⟩
theorem dX0_init_69 : decode cX0_init 69 = .ok (.newarray .int, 2) := by decide +kernel
theorem eX0_init_69 : dec cX0_init 69 (.newarray .int) 2 71 := ⟨dX0_init_69, rfl⟩
theorem dX0_init_71 : decode cX0_init 71 = .ok (.putfield 36, 3) := by decide +kernel
theorem eX0_init_71 : dec cX0_init 71 (.putfield 36) 3 74 := ⟨dX0_init_71, rfl⟩
theorem dX0_init_74 : decode cX0_init 74 = .ok (.aload_n 0, 1) := by decide +kernel
theorem eX0_init_74 : dec cX0_init 74 (.aload_n 0) 1 75 := ⟨dX0_init_74, rfl⟩
theorem dX0_init_75 : decode cX0_init 75 = .ok (.iload_n 3, 1) := by decide +kernel
theorem eX0_init_75 : dec cX0_init 75 (.iload_n 3) 1 76 := ⟨dX0_init_75, rfl⟩
theorem dX0_init_76 : decode cX0_init 76 = .ok (.newarray .boolean, 2) := by decide +kernel
theorem eX0_init_76 : dec cX0_init 76 (.newarray .boolean) 2 78 := ⟨dX0_init_76, rfl⟩
theorem dX0_init_78 : decode cX0_init 78 = .ok (.putfield 39, 3) := by decide +kernel
theorem eX0_init_78 : dec cX0_init 78 (.putfield 39) 3 81 := ⟨dX0_init_78, rfl⟩
theorem dX0_init_81 : decode cX0_init 81 = .ok (.aload_n 0, 1) := by decide +kernel
theorem eX0_init_81 : dec cX0_init 81 (.aload_n 0) 1 82 := ⟨dX0_init_81, rfl⟩
theorem dX0_init_82 : decode cX0_init 82 = .ok (.aload_n 0, 1) := by decide +kernel
theorem eX0_init_82 : dec cX0_init 82 (.aload_n 0) 1 83 := ⟨dX0_init_82, rfl⟩
theorem dX0_init_83 : decode cX0_init 83 = .ok (.getfield 22, 3) := by decide +kernel
theorem eX0_init_83 : dec cX0_init 83 (.getfield 22) 3 86 := ⟨dX0_init_83, rfl⟩
theorem dX0_init_86 : decode cX0_init 86 = .ok (.newarray .int, 2) := by decide +kernel
theorem eX0_init_86 : dec cX0_init 86 (.newarray .int) 2 88 := ⟨dX0_init_86, rfl⟩
theorem dX0_init_88 : decode cX0_init 88 = .ok (.putfield 43, 3) := by decide +kernel
theorem eX0_init_88 : dec cX0_init 88 (.putfield 43) 3 91 := ⟨dX0_init_88, rfl⟩
theorem dX0_init_91 : decode cX0_init 91 = .ok (.aload_n 0, 1) := by decide +kernel
theorem eX0_init_91 : dec cX0_init 91 (.aload_n 0) 1 92 := ⟨dX0_init_91, rfl⟩
theorem dX0_init_92 : decode cX0_init 92 = .ok (.iload_n 3, 1) := by decide +kernel
theorem eX0_init_92 : dec cX0_init 92 (.iload_n 3) 1 93 := ⟨dX0_init_92, rfl⟩
theorem dX0_init_93 : decode cX0_init 93 = .ok (.newarray .int, 2) := by decide +kernel
theorem eX0_init_93 : dec cX0_init 93 (.newarray .int) 2 95 := ⟨dX0_init_93, rfl⟩
theorem dX0_init_95 : decode cX0_init 95 = .ok (.putfield 46, 3) := by decide +kernel
theorem eX0_init_95 : dec cX0_init 95 (.putfield 46) 3 98 := ⟨dX0_init_95, rfl⟩
theorem dX0_init_98 : decode cX0_init 98 = .ok (.aload_n 0, 1) := by decide +kernel
theorem eX0_init_98 : dec cX0_init 98 (.aload_n 0) 1 99 := ⟨dX0_init_98, rfl⟩
theorem dX0_init_99 : decode cX0_init 99 = .ok (.iload_n 3, 1) := by decide +kernel
theorem eX0_init_99 : dec cX0_init 99 (.iload_n 3) 1 100 := ⟨dX0_init_99, rfl⟩
theorem dX0_init_100 : decode cX0_init 100 = .ok (.iconst 3, 1) := by decide +kernel
theorem eX0_init_100 : dec cX0_init 100 (.iconst 3) 1 101 := ⟨dX0_init_100, rfl⟩
theorem dX0_init_101 : decode cX0_init 101 = .ok (.idiv, 1) := by decide +kernel
theorem eX0_init_101 : dec cX0_init 101 .idiv 1 102 := ⟨dX0_init_101, rfl⟩
theorem dX0_init_102 : decode cX0_init 102 = .ok (.bipush 7, 2) := by decide +kernel
theorem eX0_init_102 : dec cX0_init 102 (.bipush 7) 2 104 := ⟨dX0_init_102, rfl⟩
theorem dX0_init_104 : decode cX0_init 104 = .ok (.imul, 1) := by decide +kernel
theorem eX0_init_104 : dec cX0_init 104 .imul 1 105 := ⟨dX0_init_104, rfl⟩
theorem dX0_init_105 : decode cX0_init 105 = .ok (.newarray .int, 2) := by decide +kernel
theorem eX0_init_105 : dec cX0_init 105 (.newarray .int) 2 107 := ⟨dX0_init_105, rfl⟩
theorem dX0_init_107 : decode cX0_init 107 = .ok (.putfield 49, 3) := by decide +kernel
theorem eX0_init_107 : dec cX0_init 107 (.putfield 49) 3 110 := ⟨dX0_init_107, rfl⟩
theorem dX0_init_110 : decode cX0_init 110 = .ok (.aload_n 0, 1) := by decide +kernel
theorem eX0_init_110 : dec cX0_init 110 (.aload_n 0) 1 111 := ⟨dX0_init_110, rfl⟩
theorem dX0_init_111 : decode cX0_init 111 = .ok (.iconst 2, 1) := by decide +kernel
theorem eX0_init_111 : dec cX0_init 111 (.iconst 2) 1 112 := ⟨dX0_init_111, rfl⟩
theorem dX0_init_112 : decode cX0_init 112 = .ok (.iload_n 3, 1) := by decide +kernel
theorem eX0_init_112 : dec cX0_init 112 (.iload_n 3) 1 113 := ⟨dX0_init_112, rfl⟩
theorem dX0_init_113 : decode cX0_init 113 = .ok (.imul, 1) := by decide +kernel
theorem eX0_init_113 : dec cX0_init 113 .imul 1 114 := ⟨dX0_init_113, rfl⟩
theorem dX0_init_114 : decode cX0_init 114 = .ok (.newarray .byte, 2) := by decide +kernel
theorem eX0_init_114 : dec cX0_init 114 (.newarray .byte) 2 116 := ⟨dX0_init_114, rfl⟩
theorem dX0_init_116 : decode cX0_init 116 = .ok (.putfield 52, 3) := by decide +kernel
theorem eX0_init_116 : dec cX0_init 116 (.putfield 52) 3 119 := ⟨dX0_init_116, rfl⟩
theorem dX0_init_119 : decode cX0_init 119 = .ok (.aload_n 0, 1) := by decide +kernel
theorem eX0_init_119 : dec cX0_init 119 (.aload_n 0) 1 120 := ⟨dX0_init_119, rfl⟩
theorem dX0_init_120 : decode cX0_init 120 = .ok (.sipush 5000, 3) := by decide +kernel
theorem eX0_init_120 : dec cX0_init 120 (.sipush 5000) 3 123 := ⟨dX0_init_120, rfl⟩
theorem dX0_init_123 : decode cX0_init 123 = .ok (.newarray .byte, 2) := by decide +kernel
theorem eX0_init_123 : dec cX0_init 123 (.newarray .byte) 2 125 := ⟨dX0_init_123, rfl⟩
theorem dX0_init_125 : decode cX0_init 125 = .ok (.putfield 55, 3) := by decide +kernel
theorem eX0_init_125 : dec cX0_init 125 (.putfield 55) 3 128 := ⟨dX0_init_125, rfl⟩
theorem dX0_init_128 : decode cX0_init 128 = .ok (.aload_n 0, 1) := by decide +kernel
theorem eX0_init_128 : dec cX0_init 128 (.aload_n 0) 1 129 := ⟨dX0_init_128, rfl⟩
theorem dX0_init_129 : decode cX0_init 129 = .ok (.getfield 25, 3) := by decide +kernel
theorem eX0_init_129 : dec cX0_init 129 (.getfield 25) 3 132 := ⟨dX0_init_129, rfl⟩
theorem dX0_init_132 : decode cX0_init 132 = .ok (.iconst (-1), 1) := by decide +kernel
theorem eX0_init_132 : dec cX0_init 132 (.iconst (-1)) 1 133 := ⟨dX0_init_132, rfl⟩
theorem dX0_init_133 : decode cX0_init 133 = .ok (.invokestatic 58, 3) := by decide +kernel
theorem eX0_init_133 : dec cX0_init 133 (.invokestatic 58) 3 136 := ⟨dX0_init_133, rfl⟩
theorem dX0_init_136 : decode cX0_init 136 = .ok (.return_, 1) := by decide +kernel
theorem eX0_init_136 : dec cX0_init 136 .return_ 1 137 := ⟨dX0_init_136, rfl⟩
set_option maxRecDepth 20000 in
theorem ggX0_put_X0_isOnSheet : GoodIn wsX0_put wsX0_isOnSheet := goodIn_r _ [10, 5, 11, 18, 19, 20, 21, 22, 23, 24, 25, 26, 27, 28, 29, 30, 31, 32, 33] (by decide +kernel) (by decide +kernel)
set_option maxRecDepth 20000 in
theorem gX0_put_X0_isOnSheet : GoodIn wsX0_put (wsV RX0 64 RX0 yX0_isOnSheet wsX0_isOnSheet) := goodIn_app (goodIn_of _ (by decide +kernel)) ggX0_put_X0_isOnSheet
theorem dX0_put_0 : decode cX0_put 0 = .ok (.aload_n 0, 1) := by decide +kernel
theorem eX0_put_0 : dec cX0_put 0 (.aload_n 0) 1 1 := ⟨dX0_put_0, rfl⟩
theorem dX0_put_1 : decode cX0_put 1 = .ok (.iload_n 1, 1) := by decide +kernel
theorem eX0_put_1 : dec cX0_put 1 (.iload_n 1) 1 2 := ⟨dX0_put_1, rfl⟩
theorem dX0_put_2 : decode cX0_put 2 = .ok (.iload_n 2, 1) := by decide +kernel
theorem eX0_put_2 : dec cX0_put 2 (.iload_n 2) 1 3 := ⟨dX0_put_2, rfl⟩
theorem dX0_put_3 : decode cX0_put 3 = .ok (.invokevirtual 64, 3) := by decide +kernel
theorem eX0_put_3 : dec cX0_put 3 (.invokevirtual 64) 3 6 := ⟨dX0_put_3, rfl⟩
theorem dX0_put_6 : decode cX0_put 6 = .ok (.ifCond .ne 13, 3) := by decide +kernel
theorem eX0_put_6 : dec cX0_put 6 (.ifCond .ne 13) 3 9 := ⟨dX0_put_6, rfl⟩
theorem dX0_put_9 : decode cX0_put 9 = .ok (.new 68, 3) := by decide +kernel
theorem eX0_put_9 : dec cX0_put 9 (.new 68) 3 12 := ⟨dX0_put_9, rfl⟩
theorem dX0_put_12 : decode cX0_put 12 = .ok (.dup, 1) := by decide +kernel
theorem eX0_put_12 : dec cX0_put 12 .dup 1 13 := ⟨dX0_put_12, rfl⟩
theorem dX0_put_13 : decode cX0_put 13 = .ok (.ldc 70, 2) := by decide +kernel
theorem eX0_put_13 : dec cX0_put 13 (.ldc 70) 2 15 := ⟨dX0_put_13, rfl⟩
theorem dX0_put_15 : decode cX0_put 15 = .ok (.invokespecial 72, 3) := by decide +kernel
theorem eX0_put_15 : dec cX0_put 15 (.invokespecial 72) 3 18 := ⟨dX0_put_15, rfl⟩
theorem dX0_put_18 : decode cX0_put 18 = .ok (.athrow, 1) := by decide +kernel
theorem eX0_put_18 : dec cX0_put 18 .athrow 1 19 := ⟨dX0_put_18, rfl⟩
theorem dX0_put_19 : decode cX0_put 19 = .ok (.aload_n 0, 1) := by decide +kernel
theorem eX0_put_19 : dec cX0_put 19 (.aload_n 0) 1 20 := ⟨dX0_put_19, rfl⟩
theorem dX0_put_20 : decode cX0_put 20 = .ok (.getfield 25, 3) := by decide +kernel
theorem eX0_put_20 : dec cX0_put 20 (.getfield 25) 3 23 := ⟨dX0_put_20, rfl⟩
theorem dX0_put_23 : decode cX0_put 23 = .ok (.iload_n 2, 1) := by decide +kernel
theorem eX0_put_23 : dec cX0_put 23 (.iload_n 2) 1 24 := ⟨dX0_put_23, rfl⟩
theorem dX0_put_24 : decode cX0_put 24 = .ok (.aload_n 0, 1) := by decide +kernel
theorem eX0_put_24 : dec cX0_put 24 (.aload_n 0) 1 25 := ⟨dX0_put_24, rfl⟩
theorem dX0_put_25 : decode cX0_put 25 = .ok (.getfield 18, 3) := by decide +kernel
theorem eX0_put_25 : dec cX0_put 25 (.getfield 18) 3 28 := ⟨dX0_put_25, rfl⟩
theorem dX0_put_28 : decode cX0_put 28 = .ok (.imul, 1) := by decide +kernel
theorem eX0_put_28 : dec cX0_put 28 .imul 1 29 := ⟨dX0_put_28, rfl⟩
theorem dX0_put_29 : decode cX0_put 29 = .ok (.iload_n 1, 1) := by decide +kernel
theorem eX0_put_29 : dec cX0_put 29 (.iload_n 1) 1 30 := ⟨dX0_put_29, rfl⟩
theorem dX0_put_30 : decode cX0_put 30 = .ok (.iadd, 1) := by decide +kernel
theorem eX0_put_30 : dec cX0_put 30 .iadd 1 31 := ⟨dX0_put_30, rfl⟩
theorem dX0_put_31 : decode cX0_put 31 = .ok (.iload_n 3, 1) := by decide +kernel
theorem eX0_put_31 : dec cX0_put 31 (.iload_n 3) 1 32 := ⟨dX0_put_31, rfl⟩
theorem dX0_put_32 : decode cX0_put 32 = .ok (.bastore, 1) := by decide +kernel
theorem eX0_put_32 : dec cX0_put 32 .bastore 1 33 := ⟨dX0_put_32, rfl⟩
theorem dX0_put_33 : decode cX0_put 33 = .ok (.return_, 1) := by decide +kernel
theorem eX0_put_33 : dec cX0_put 33 .return_ 1 34 := ⟨dX0_put_33, rfl⟩
set_option maxRecDepth 20000 in
theorem ggX0_threshold_X0_tallyGreys : GoodIn wsX0_threshold wsX0_tallyGreys := goodIn_r _ [5, 6, 7, 8, 9, 10, 11, 12, 21, 22, 23, 24, 25, 26, 27, 28, 29, 30, 31, 32, 33, 34, 35, 36] (by decide +kernel) (by decide +kernel)
set_option maxRecDepth 20000 in
theorem gX0_threshold_X0_tallyGreys : GoodIn wsX0_threshold (wsV RX0 75 RX0 yX0_tallyGreys wsX0_tallyGreys) := goodIn_app (goodIn_of _ (by decide +kernel)) ggX0_threshold_X0_tallyGreys
set_option maxRecDepth 20000 in
theorem ggX0_threshold_X0_spreadAt : GoodIn wsX0_threshold wsX0_spreadAt := goodIn_r _ [16, 17, 18, 19, 4, 20, 6, 8, 21, 22, 23, 24, 25, 26, 27, 28, 29, 30, 31, 32, 33, 34, 35, 36] (by decide +kernel) (by decide +kernel)
set_option maxRecDepth 20000 in
theorem gX0_threshold_X0_spreadAt : GoodIn wsX0_threshold (wsV RX0 78 RX0 yX0_spreadAt wsX0_spreadAt) := goodIn_app (goodIn_of _ (by decide +kernel)) ggX0_threshold_X0_spreadAt
theorem dX0_threshold_0 : decode cX0_threshold 0 = .ok (.aload_n 0, 1) := by decide +kernel
theorem eX0_threshold_0 : dec cX0_threshold 0 (.aload_n 0) 1 1 := ⟨dX0_threshold_0, rfl⟩
theorem dX0_threshold_1 : decode cX0_threshold 1 = .ok (.invokevirtual 75, 3) := by decide +kernel
theorem eX0_threshold_1 : dec cX0_threshold 1 (.invokevirtual 75) 3 4 := ⟨dX0_threshold_1, rfl⟩
theorem dX0_threshold_4 : decode cX0_threshold 4 = .ok (.iconst 0, 1) := by decide +kernel
theorem eX0_threshold_4 : dec cX0_threshold 4 (.iconst 0) 1 5 := ⟨dX0_threshold_4, rfl⟩
theorem dX0_threshold_5 : decode cX0_threshold 5 = .ok (.istore_n 1, 1) := by decide +kernel
theorem eX0_threshold_5 : dec cX0_threshold 5 (.istore_n 1) 1 6 := ⟨dX0_threshold_5, rfl⟩
theorem dX0_threshold_6 : decode cX0_threshold 6 = .ok (.aload_n 0, 1) := by decide +kernel
theorem eX0_threshold_6 : dec cX0_threshold 6 (.aload_n 0) 1 7 := ⟨dX0_threshold_6, rfl⟩
theorem dX0_threshold_7 : decode cX0_threshold 7 = .ok (.iconst 0, 1) := by decide +kernel
theorem eX0_threshold_7 : dec cX0_threshold 7 (.iconst 0) 1 8 := ⟨dX0_threshold_7, rfl⟩
theorem dX0_threshold_8 : decode cX0_threshold 8 = .ok (.invokevirtual 78, 3) := by decide +kernel
theorem eX0_threshold_8 : dec cX0_threshold 8 (.invokevirtual 78) 3 11 := ⟨dX0_threshold_8, rfl⟩
theorem dX0_threshold_11 : decode cX0_threshold 11 = .ok (.istore_n 2, 1) := by decide +kernel
theorem eX0_threshold_11 : dec cX0_threshold 11 (.istore_n 2) 1 12 := ⟨dX0_threshold_11, rfl⟩
theorem dX0_threshold_12 : decode cX0_threshold 12 = .ok (.iconst 1, 1) := by decide +kernel
theorem eX0_threshold_12 : dec cX0_threshold 12 (.iconst 1) 1 13 := ⟨dX0_threshold_12, rfl⟩
theorem dX0_threshold_13 : decode cX0_threshold 13 = .ok (.istore_n 3, 1) := by decide +kernel
theorem eX0_threshold_13 : dec cX0_threshold 13 (.istore_n 3) 1 14 := ⟨dX0_threshold_13, rfl⟩
theorem dX0_threshold_14 : decode cX0_threshold 14 = .ok (.iload_n 3, 1) := by decide +kernel
theorem eX0_threshold_14 : dec cX0_threshold 14 (.iload_n 3) 1 15 := ⟨dX0_threshold_14, rfl⟩
theorem dX0_threshold_15 : decode cX0_threshold 15 = .ok (.sipush 255, 3) := by decide +kernel
theorem eX0_threshold_15 : dec cX0_threshold 15 (.sipush 255) 3 18 := ⟨dX0_threshold_15, rfl⟩
theorem dX0_threshold_18 : decode cX0_threshold 18 = .ok (.if_icmp .ge 27, 3) := by decide +kernel
theorem eX0_threshold_18 : dec cX0_threshold 18 (.if_icmp .ge 27) 3 21 := ⟨dX0_threshold_18, rfl⟩
theorem dX0_threshold_21 : decode cX0_threshold 21 = .ok (.aload_n 0, 1) := by decide +kernel
theorem eX0_threshold_21 : dec cX0_threshold 21 (.aload_n 0) 1 22 := ⟨dX0_threshold_21, rfl⟩
theorem dX0_threshold_22 : decode cX0_threshold 22 = .ok (.iload_n 3, 1) := by decide +kernel
theorem eX0_threshold_22 : dec cX0_threshold 22 (.iload_n 3) 1 23 := ⟨dX0_threshold_22, rfl⟩
theorem dX0_threshold_23 : decode cX0_threshold 23 = .ok (.invokevirtual 78, 3) := by decide +kernel
theorem eX0_threshold_23 : dec cX0_threshold 23 (.invokevirtual 78) 3 26 := ⟨dX0_threshold_23, rfl⟩
theorem dX0_threshold_26 : decode cX0_threshold 26 = .ok (.istore 4, 2) := by decide +kernel
theorem eX0_threshold_26 : dec cX0_threshold 26 (.istore 4) 2 28 := ⟨dX0_threshold_26, rfl⟩
theorem dX0_threshold_28 : decode cX0_threshold 28 = .ok (.iload 4, 2) := by decide +kernel
theorem eX0_threshold_28 : dec cX0_threshold 28 (.iload 4) 2 30 := ⟨dX0_threshold_28, rfl⟩
theorem dX0_threshold_30 : decode cX0_threshold 30 = .ok (.iload_n 2, 1) := by decide +kernel
theorem eX0_threshold_30 : dec cX0_threshold 30 (.iload_n 2) 1 31 := ⟨dX0_threshold_30, rfl⟩
theorem dX0_threshold_31 : decode cX0_threshold 31 = .ok (.if_icmp .ge 8, 3) := by decide +kernel
theorem eX0_threshold_31 : dec cX0_threshold 31 (.if_icmp .ge 8) 3 34 := ⟨dX0_threshold_31, rfl⟩
theorem dX0_threshold_34 : decode cX0_threshold 34 = .ok (.iload_n 3, 1) := by decide +kernel
theorem eX0_threshold_34 : dec cX0_threshold 34 (.iload_n 3) 1 35 := ⟨dX0_threshold_34, rfl⟩
theorem dX0_threshold_35 : decode cX0_threshold 35 = .ok (.istore_n 1, 1) := by decide +kernel
theorem eX0_threshold_35 : dec cX0_threshold 35 (.istore_n 1) 1 36 := ⟨dX0_threshold_35, rfl⟩
theorem dX0_threshold_36 : decode cX0_threshold 36 = .ok (.iload 4, 2) := by decide +kernel
theorem eX0_threshold_36 : dec cX0_threshold 36 (.iload 4) 2 38 := ⟨dX0_threshold_36, rfl⟩
theorem dX0_threshold_38 : decode cX0_threshold 38 = .ok (.istore_n 2, 1) := by decide +kernel
theorem eX0_threshold_38 : dec cX0_threshold 38 (.istore_n 2) 1 39 := ⟨dX0_threshold_38, rfl⟩
theorem dX0_threshold_39 : decode cX0_threshold 39 = .ok (.iinc 3 1, 3) := by decide +kernel
theorem eX0_threshold_39 : dec cX0_threshold 39 (.iinc 3 1) 3 42 := ⟨dX0_threshold_39, rfl⟩
theorem dX0_threshold_42 : decode cX0_threshold 42 = .ok (.goto (-28), 3) := by decide +kernel
theorem eX0_threshold_42 : dec cX0_threshold 42 (.goto (-28)) 3 45 := ⟨dX0_threshold_42, rfl⟩
theorem dX0_threshold_45 : decode cX0_threshold 45 = .ok (.iload_n 1, 1) := by decide +kernel
theorem eX0_threshold_45 : dec cX0_threshold 45 (.iload_n 1) 1 46 := ⟨dX0_threshold_45, rfl⟩
theorem dX0_threshold_46 : decode cX0_threshold 46 = .ok (.ireturn, 1) := by decide +kernel
theorem eX0_threshold_46 : dec cX0_threshold 46 .ireturn 1 47 := ⟨dX0_threshold_46, rfl⟩
set_option maxRecDepth 20000 in
theorem ggX0_parts_X0_markDark : GoodIn wsX0_parts wsX0_markDark := goodIn_r _ [8, 9, 2, 10, 11, 12, 7, 13, 14, 15, 16, 17, 18, 19, 20, 21, 22, 23, 24, 25, 26, 27, 28, 29, 30, 31, 32, 33, 34, 35, 63, 64, 65, 66, 67, 68, 69, 70, 71, 72, 73, 74, 75, 76, 77, 78] (by decide +kernel) (by decide +kernel)
set_option maxRecDepth 20000 in
theorem gX0_parts_X0_markDark : GoodIn wsX0_parts (wsV RX0 82 RX0 yX0_markDark wsX0_markDark) := goodIn_app (goodIn_of _ (by decide +kernel)) ggX0_parts_X0_markDark
set_option maxRecDepth 20000 in
theorem ggX0_parts_X0_reachPart : GoodIn wsX0_parts wsX0_reachPart := goodIn_r _ [39, 3, 40, 41, 42, 43, 44, 7, 45, 2, 46, 47, 48, 49, 50, 51, 52, 53, 54, 55, 56, 57, 63, 64, 65, 66, 67, 68, 69, 70, 71, 72, 73, 74, 75, 76, 77, 78] (by decide +kernel) (by decide +kernel)
set_option maxRecDepth 20000 in
theorem gX0_parts_X0_reachPart : GoodIn wsX0_parts (wsV RX0 88 RX0 yX0_reachPart wsX0_reachPart) := goodIn_app (goodIn_of _ (by decide +kernel)) ggX0_parts_X0_reachPart
set_option maxRecDepth 20000 in
theorem ggX0_parts_X0_keepPart : GoodIn wsX0_parts wsX0_keepPart := goodIn_r _ [61, 1, 62, 41, 54, 3, 40, 55, 56, 52, 57, 50, 51, 53, 63, 64, 65, 66, 67, 68, 69, 70, 71, 72, 73, 74, 75, 76, 77, 78] (by decide +kernel) (by decide +kernel)
set_option maxRecDepth 20000 in
theorem gX0_parts_X0_keepPart : GoodIn wsX0_parts (wsV RX0 95 RX0 yX0_keepPart wsX0_keepPart) := goodIn_app (goodIn_of _ (by decide +kernel)) ggX0_parts_X0_keepPart
theorem dX0_parts_0 : decode cX0_parts 0 = .ok (.aload_n 0, 1) := by decide +kernel
theorem eX0_parts_0 : dec cX0_parts 0 (.aload_n 0) 1 1 := ⟨dX0_parts_0, rfl⟩
theorem dX0_parts_1 : decode cX0_parts 1 = .ok (.invokevirtual 82, 3) := by decide +kernel
theorem eX0_parts_1 : dec cX0_parts 1 (.invokevirtual 82) 3 4 := ⟨dX0_parts_1, rfl⟩
theorem dX0_parts_4 : decode cX0_parts 4 = .ok (.aload_n 0, 1) := by decide +kernel
theorem eX0_parts_4 : dec cX0_parts 4 (.aload_n 0) 1 5 := ⟨dX0_parts_4, rfl⟩
theorem dX0_parts_5 : decode cX0_parts 5 = .ok (.iconst 0, 1) := by decide +kernel
theorem eX0_parts_5 : dec cX0_parts 5 (.iconst 0) 1 6 := ⟨dX0_parts_5, rfl⟩
theorem dX0_parts_6 : decode cX0_parts 6 = .ok (.putfield 85, 3) := by decide +kernel
theorem eX0_parts_6 : dec cX0_parts 6 (.putfield 85) 3 9 := ⟨dX0_parts_6, rfl⟩
theorem dX0_parts_9 : decode cX0_parts 9 = .ok (.iconst 0, 1) := by decide +kernel
theorem eX0_parts_9 : dec cX0_parts 9 (.iconst 0) 1 10 := ⟨dX0_parts_9, rfl⟩
theorem dX0_parts_10 : decode cX0_parts 10 = .ok (.istore_n 1, 1) := by decide +kernel
theorem eX0_parts_10 : dec cX0_parts 10 (.istore_n 1) 1 11 := ⟨dX0_parts_10, rfl⟩
theorem dX0_parts_11 : decode cX0_parts 11 = .ok (.iload_n 1, 1) := by decide +kernel
theorem eX0_parts_11 : dec cX0_parts 11 (.iload_n 1) 1 12 := ⟨dX0_parts_11, rfl⟩
theorem dX0_parts_12 : decode cX0_parts 12 = .ok (.aload_n 0, 1) := by decide +kernel
theorem eX0_parts_12 : dec cX0_parts 12 (.aload_n 0) 1 13 := ⟨dX0_parts_12, rfl⟩
theorem dX0_parts_13 : decode cX0_parts 13 = .ok (.getfield 39, 3) := by decide +kernel
theorem eX0_parts_13 : dec cX0_parts 13 (.getfield 39) 3 16 := ⟨dX0_parts_13, rfl⟩
theorem dX0_parts_16 : decode cX0_parts 16 = .ok (.arraylength, 1) := by decide +kernel
theorem eX0_parts_16 : dec cX0_parts 16 .arraylength 1 17 := ⟨dX0_parts_16, rfl⟩
theorem dX0_parts_17 : decode cX0_parts 17 = .ok (.if_icmp .ge 35, 3) := by decide +kernel
theorem eX0_parts_17 : dec cX0_parts 17 (.if_icmp .ge 35) 3 20 := ⟨dX0_parts_17, rfl⟩
theorem dX0_parts_20 : decode cX0_parts 20 = .ok (.aload_n 0, 1) := by decide +kernel
theorem eX0_parts_20 : dec cX0_parts 20 (.aload_n 0) 1 21 := ⟨dX0_parts_20, rfl⟩
theorem dX0_parts_21 : decode cX0_parts 21 = .ok (.getfield 39, 3) := by decide +kernel
theorem eX0_parts_21 : dec cX0_parts 21 (.getfield 39) 3 24 := ⟨dX0_parts_21, rfl⟩
theorem dX0_parts_24 : decode cX0_parts 24 = .ok (.iload_n 1, 1) := by decide +kernel
theorem eX0_parts_24 : dec cX0_parts 24 (.iload_n 1) 1 25 := ⟨dX0_parts_24, rfl⟩
theorem dX0_parts_25 : decode cX0_parts 25 = .ok (.baload, 1) := by decide +kernel
theorem eX0_parts_25 : dec cX0_parts 25 .baload 1 26 := ⟨dX0_parts_25, rfl⟩
theorem dX0_parts_26 : decode cX0_parts 26 = .ok (.ifCond .eq 20, 3) := by decide +kernel
theorem eX0_parts_26 : dec cX0_parts 26 (.ifCond .eq 20) 3 29 := ⟨dX0_parts_26, rfl⟩
theorem dX0_parts_29 : decode cX0_parts 29 = .ok (.aload_n 0, 1) := by decide +kernel
theorem eX0_parts_29 : dec cX0_parts 29 (.aload_n 0) 1 30 := ⟨dX0_parts_29, rfl⟩
theorem dX0_parts_30 : decode cX0_parts 30 = .ok (.iload_n 1, 1) := by decide +kernel
theorem eX0_parts_30 : dec cX0_parts 30 (.iload_n 1) 1 31 := ⟨dX0_parts_30, rfl⟩
theorem dX0_parts_31 : decode cX0_parts 31 = .ok (.invokevirtual 88, 3) := by decide +kernel
theorem eX0_parts_31 : dec cX0_parts 31 (.invokevirtual 88) 3 34 := ⟨dX0_parts_31, rfl⟩
theorem dX0_parts_34 : decode cX0_parts 34 = .ok (.aload_n 0, 1) := by decide +kernel
theorem eX0_parts_34 : dec cX0_parts 34 (.aload_n 0) 1 35 := ⟨dX0_parts_34, rfl⟩
theorem dX0_parts_35 : decode cX0_parts 35 = .ok (.getfield 92, 3) := by decide +kernel
theorem eX0_parts_35 : dec cX0_parts 35 (.getfield 92) 3 38 := ⟨dX0_parts_35, rfl⟩
theorem dX0_parts_38 : decode cX0_parts 38 = .ok (.iconst 3, 1) := by decide +kernel
theorem eX0_parts_38 : dec cX0_parts 38 (.iconst 3) 1 39 := ⟨dX0_parts_38, rfl⟩
theorem dX0_parts_39 : decode cX0_parts 39 = .ok (.if_icmp .lt 7, 3) := by decide +kernel
theorem eX0_parts_39 : dec cX0_parts 39 (.if_icmp .lt 7) 3 42 := ⟨dX0_parts_39, rfl⟩
theorem dX0_parts_42 : decode cX0_parts 42 = .ok (.aload_n 0, 1) := by decide +kernel
theorem eX0_parts_42 : dec cX0_parts 42 (.aload_n 0) 1 43 := ⟨dX0_parts_42, rfl⟩
theorem dX0_parts_43 : decode cX0_parts 43 = .ok (.invokevirtual 95, 3) := by decide +kernel
theorem eX0_parts_43 : dec cX0_parts 43 (.invokevirtual 95) 3 46 := ⟨dX0_parts_43, rfl⟩
theorem dX0_parts_46 : decode cX0_parts 46 = .ok (.iinc 1 1, 3) := by decide +kernel
theorem eX0_parts_46 : dec cX0_parts 46 (.iinc 1 1) 3 49 := ⟨dX0_parts_46, rfl⟩
theorem dX0_parts_49 : decode cX0_parts 49 = .ok (.goto (-38), 3) := by decide +kernel
theorem eX0_parts_49 : dec cX0_parts 49 (.goto (-38)) 3 52 := ⟨dX0_parts_49, rfl⟩
theorem dX0_parts_52 : decode cX0_parts 52 = .ok (.aload_n 0, 1) := by decide +kernel
theorem eX0_parts_52 : dec cX0_parts 52 (.aload_n 0) 1 53 := ⟨dX0_parts_52, rfl⟩
theorem dX0_parts_53 : decode cX0_parts 53 = .ok (.getfield 85, 3) := by decide +kernel
theorem eX0_parts_53 : dec cX0_parts 53 (.getfield 85) 3 56 := ⟨dX0_parts_53, rfl⟩
theorem dX0_parts_56 : decode cX0_parts 56 = .ok (.ireturn, 1) := by decide +kernel
theorem eX0_parts_56 : dec cX0_parts 56 .ireturn 1 57 := ⟨dX0_parts_56, rfl⟩
theorem dX0_part_0 : decode cX0_part 0 = .ok (.iload_n 1, 1) := by decide +kernel
theorem eX0_part_0 : dec cX0_part 0 (.iload_n 1) 1 1 := ⟨dX0_part_0, rfl⟩
theorem dX0_part_1 : decode cX0_part 1 = .ok (.ifCond .lt 21, 3) := by decide +kernel
theorem eX0_part_1 : dec cX0_part 1 (.ifCond .lt 21) 3 4 := ⟨dX0_part_1, rfl⟩
theorem dX0_part_4 : decode cX0_part 4 = .ok (.iload_n 1, 1) := by decide +kernel
theorem eX0_part_4 : dec cX0_part 4 (.iload_n 1) 1 5 := ⟨dX0_part_4, rfl⟩
theorem dX0_part_5 : decode cX0_part 5 = .ok (.aload_n 0, 1) := by decide +kernel
theorem eX0_part_5 : dec cX0_part 5 (.aload_n 0) 1 6 := ⟨dX0_part_5, rfl⟩
theorem dX0_part_6 : decode cX0_part 6 = .ok (.getfield 85, 3) := by decide +kernel
theorem eX0_part_6 : dec cX0_part 6 (.getfield 85) 3 9 := ⟨dX0_part_6, rfl⟩
theorem dX0_part_9 : decode cX0_part 9 = .ok (.if_icmp .ge 13, 3) := by decide +kernel
theorem eX0_part_9 : dec cX0_part 9 (.if_icmp .ge 13) 3 12 := ⟨dX0_part_9, rfl⟩
theorem dX0_part_12 : decode cX0_part 12 = .ok (.iload_n 2, 1) := by decide +kernel
theorem eX0_part_12 : dec cX0_part 12 (.iload_n 2) 1 13 := ⟨dX0_part_12, rfl⟩
theorem dX0_part_13 : decode cX0_part 13 = .ok (.ifCond .lt 9, 3) := by decide +kernel
theorem eX0_part_13 : dec cX0_part 13 (.ifCond .lt 9) 3 16 := ⟨dX0_part_13, rfl⟩
theorem dX0_part_16 : decode cX0_part 16 = .ok (.iload_n 2, 1) := by decide +kernel
theorem eX0_part_16 : dec cX0_part 16 (.iload_n 2) 1 17 := ⟨dX0_part_16, rfl⟩
theorem dX0_part_17 : decode cX0_part 17 = .ok (.bipush 7, 2) := by decide +kernel
theorem eX0_part_17 : dec cX0_part 17 (.bipush 7) 2 19 := ⟨dX0_part_17, rfl⟩
theorem dX0_part_19 : decode cX0_part 19 = .ok (.if_icmp .lt 5, 3) := by decide +kernel
theorem eX0_part_19 : dec cX0_part 19 (.if_icmp .lt 5) 3 22 := ⟨dX0_part_19, rfl⟩
theorem dX0_part_22 : decode cX0_part 22 = .ok (.iconst (-1), 1) := by decide +kernel
theorem eX0_part_22 : dec cX0_part 22 (.iconst (-1)) 1 23 := ⟨dX0_part_22, rfl⟩
theorem dX0_part_23 : decode cX0_part 23 = .ok (.ireturn, 1) := by decide +kernel
theorem eX0_part_23 : dec cX0_part 23 .ireturn 1 24 := ⟨dX0_part_23, rfl⟩
theorem dX0_part_24 : decode cX0_part 24 = .ok (.aload_n 0, 1) := by decide +kernel
theorem eX0_part_24 : dec cX0_part 24 (.aload_n 0) 1 25 := ⟨dX0_part_24, rfl⟩
theorem dX0_part_25 : decode cX0_part 25 = .ok (.getfield 49, 3) := by decide +kernel
theorem eX0_part_25 : dec cX0_part 25 (.getfield 49) 3 28 := ⟨dX0_part_25, rfl⟩
theorem dX0_part_28 : decode cX0_part 28 = .ok (.iload_n 1, 1) := by decide +kernel
theorem eX0_part_28 : dec cX0_part 28 (.iload_n 1) 1 29 := ⟨dX0_part_28, rfl⟩
theorem dX0_part_29 : decode cX0_part 29 = .ok (.bipush 7, 2) := by decide +kernel
theorem eX0_part_29 : dec cX0_part 29 (.bipush 7) 2 31 := ⟨dX0_part_29, rfl⟩
theorem dX0_part_31 : decode cX0_part 31 = .ok (.imul, 1) := by decide +kernel
theorem eX0_part_31 : dec cX0_part 31 .imul 1 32 := ⟨dX0_part_31, rfl⟩
theorem dX0_part_32 : decode cX0_part 32 = .ok (.iload_n 2, 1) := by decide +kernel
theorem eX0_part_32 : dec cX0_part 32 (.iload_n 2) 1 33 := ⟨dX0_part_32, rfl⟩
theorem dX0_part_33 : decode cX0_part 33 = .ok (.iadd, 1) := by decide +kernel
theorem eX0_part_33 : dec cX0_part 33 .iadd 1 34 := ⟨dX0_part_33, rfl⟩
theorem dX0_part_34 : decode cX0_part 34 = .ok (.iaload, 1) := by decide +kernel
theorem eX0_part_34 : dec cX0_part 34 .iaload 1 35 := ⟨dX0_part_34, rfl⟩
theorem dX0_part_35 : decode cX0_part 35 = .ok (.ireturn, 1) := by decide +kernel
theorem eX0_part_35 : dec cX0_part 35 .ireturn 1 36 := ⟨dX0_part_35, rfl⟩
set_option maxRecDepth 20000 in
theorem ggX0_skew_X0_markDark : GoodIn wsX0_skew wsX0_markDark := goodIn_r _ [5, 6, 7, 8, 9, 10, 4, 11, 12, 13, 14, 15, 16, 17, 18, 19, 20, 21, 22, 23, 24, 25, 26, 27, 28, 29, 30, 31, 32, 33, 52, 53, 54, 55, 56, 57, 58, 59, 60, 61, 62, 63, 64, 65, 66, 67] (by decide +kernel) (by decide +kernel)
set_option maxRecDepth 20000 in
theorem gX0_skew_X0_markDark : GoodIn wsX0_skew (wsV RX0 82 RX0 yX0_markDark wsX0_markDark) := goodIn_app (goodIn_of _ (by decide +kernel)) ggX0_skew_X0_markDark
set_option maxRecDepth 20000 in
theorem ggX0_skew_X0_sumOfSquares : GoodIn wsX0_skew wsX0_sumOfSquares := goodIn_r _ [37, 38, 39, 40, 7, 18, 19, 20, 21, 41, 42, 43, 4, 44, 45, 46, 47, 48, 49, 50, 51, 52, 53, 54, 55, 56, 57, 58, 59, 60, 61, 62, 63, 64, 65, 66, 67] (by decide +kernel) (by decide +kernel)
set_option maxRecDepth 20000 in
theorem gX0_skew_X0_sumOfSquares : GoodIn wsX0_skew (wsV RX0 98 RX0 yX0_sumOfSquares wsX0_sumOfSquares) := goodIn_app (goodIn_of _ (by decide +kernel)) ggX0_skew_X0_sumOfSquares
theorem dX0_skew_0 : decode cX0_skew 0 = .ok (.aload_n 0, 1) := by decide +kernel
theorem eX0_skew_0 : dec cX0_skew 0 (.aload_n 0) 1 1 := ⟨dX0_skew_0, rfl⟩
theorem dX0_skew_1 : decode cX0_skew 1 = .ok (.invokevirtual 82, 3) := by decide +kernel
theorem eX0_skew_1 : dec cX0_skew 1 (.invokevirtual 82) 3 4 := ⟨dX0_skew_1, rfl⟩
theorem dX0_skew_4 : decode cX0_skew 4 = .ok (.iconst 0, 1) := by decide +kernel
theorem eX0_skew_4 : dec cX0_skew 4 (.iconst 0) 1 5 := ⟨dX0_skew_4, rfl⟩
theorem dX0_skew_5 : decode cX0_skew 5 = .ok (.istore_n 1, 1) := by decide +kernel
theorem eX0_skew_5 : dec cX0_skew 5 (.istore_n 1) 1 6 := ⟨dX0_skew_5, rfl⟩
theorem dX0_skew_6 : decode cX0_skew 6 = .ok (.aload_n 0, 1) := by decide +kernel
theorem eX0_skew_6 : dec cX0_skew 6 (.aload_n 0) 1 7 := ⟨dX0_skew_6, rfl⟩
theorem dX0_skew_7 : decode cX0_skew 7 = .ok (.iconst 0, 1) := by decide +kernel
theorem eX0_skew_7 : dec cX0_skew 7 (.iconst 0) 1 8 := ⟨dX0_skew_7, rfl⟩
theorem dX0_skew_8 : decode cX0_skew 8 = .ok (.invokevirtual 98, 3) := by decide +kernel
theorem eX0_skew_8 : dec cX0_skew 8 (.invokevirtual 98) 3 11 := ⟨dX0_skew_8, rfl⟩
theorem dX0_skew_11 : decode cX0_skew 11 = .ok (.istore_n 2, 1) := by decide +kernel
theorem eX0_skew_11 : dec cX0_skew 11 (.istore_n 2) 1 12 := ⟨dX0_skew_11, rfl⟩
theorem dX0_skew_12 : decode cX0_skew 12 = .ok (.iconst 1, 1) := by decide +kernel
theorem eX0_skew_12 : dec cX0_skew 12 (.iconst 1) 1 13 := ⟨dX0_skew_12, rfl⟩
theorem dX0_skew_13 : decode cX0_skew 13 = .ok (.istore_n 3, 1) := by decide +kernel
theorem eX0_skew_13 : dec cX0_skew 13 (.istore_n 3) 1 14 := ⟨dX0_skew_13, rfl⟩
theorem dX0_skew_14 : decode cX0_skew 14 = .ok (.iload_n 3, 1) := by decide +kernel
theorem eX0_skew_14 : dec cX0_skew 14 (.iload_n 3) 1 15 := ⟨dX0_skew_14, rfl⟩
theorem dX0_skew_15 : decode cX0_skew 15 = .ok (.bipush 8, 2) := by decide +kernel
theorem eX0_skew_15 : dec cX0_skew 15 (.bipush 8) 2 17 := ⟨dX0_skew_15, rfl⟩
theorem dX0_skew_17 : decode cX0_skew 17 = .ok (.if_icmp .gt 47, 3) := by decide +kernel
theorem eX0_skew_17 : dec cX0_skew 17 (.if_icmp .gt 47) 3 20 := ⟨dX0_skew_17, rfl⟩
theorem dX0_skew_20 : decode cX0_skew 20 = .ok (.aload_n 0, 1) := by decide +kernel
theorem eX0_skew_20 : dec cX0_skew 20 (.aload_n 0) 1 21 := ⟨dX0_skew_20, rfl⟩
theorem dX0_skew_21 : decode cX0_skew 21 = .ok (.iload_n 3, 1) := by decide +kernel
theorem eX0_skew_21 : dec cX0_skew 21 (.iload_n 3) 1 22 := ⟨dX0_skew_21, rfl⟩
theorem dX0_skew_22 : decode cX0_skew 22 = .ok (.ineg, 1) := by decide +kernel
theorem eX0_skew_22 : dec cX0_skew 22 .ineg 1 23 := ⟨dX0_skew_22, rfl⟩
theorem dX0_skew_23 : decode cX0_skew 23 = .ok (.invokevirtual 98, 3) := by decide +kernel
theorem eX0_skew_23 : dec cX0_skew 23 (.invokevirtual 98) 3 26 := ⟨dX0_skew_23, rfl⟩
theorem dX0_skew_26 : decode cX0_skew 26 = .ok (.istore 4, 2) := by decide +kernel
theorem eX0_skew_26 : dec cX0_skew 26 (.istore 4) 2 28 := ⟨dX0_skew_26, rfl⟩
theorem dX0_skew_28 : decode cX0_skew 28 = .ok (.iload 4, 2) := by decide +kernel
theorem eX0_skew_28 : dec cX0_skew 28 (.iload 4) 2 30 := ⟨dX0_skew_28, rfl⟩
theorem dX0_skew_30 : decode cX0_skew 30 = .ok (.iload_n 2, 1) := by decide +kernel
theorem eX0_skew_30 : dec cX0_skew 30 (.iload_n 2) 1 31 := ⟨dX0_skew_30, rfl⟩
theorem dX0_skew_31 : decode cX0_skew 31 = .ok (.if_icmp .le 9, 3) := by decide +kernel
theorem eX0_skew_31 : dec cX0_skew 31 (.if_icmp .le 9) 3 34 := ⟨dX0_skew_31, rfl⟩
theorem dX0_skew_34 : decode cX0_skew 34 = .ok (.iload_n 3, 1) := by decide +kernel
theorem eX0_skew_34 : dec cX0_skew 34 (.iload_n 3) 1 35 := ⟨dX0_skew_34, rfl⟩
theorem dX0_skew_35 : decode cX0_skew 35 = .ok (.ineg, 1) := by decide +kernel
theorem eX0_skew_35 : dec cX0_skew 35 .ineg 1 36 := ⟨dX0_skew_35, rfl⟩
theorem dX0_skew_36 : decode cX0_skew 36 = .ok (.istore_n 1, 1) := by decide +kernel
theorem eX0_skew_36 : dec cX0_skew 36 (.istore_n 1) 1 37 := ⟨dX0_skew_36, rfl⟩
theorem dX0_skew_37 : decode cX0_skew 37 = .ok (.iload 4, 2) := by decide +kernel
theorem eX0_skew_37 : dec cX0_skew 37 (.iload 4) 2 39 := ⟨dX0_skew_37, rfl⟩
theorem dX0_skew_39 : decode cX0_skew 39 = .ok (.istore_n 2, 1) := by decide +kernel
theorem eX0_skew_39 : dec cX0_skew 39 (.istore_n 2) 1 40 := ⟨dX0_skew_39, rfl⟩
theorem dX0_skew_40 : decode cX0_skew 40 = .ok (.aload_n 0, 1) := by decide +kernel
theorem eX0_skew_40 : dec cX0_skew 40 (.aload_n 0) 1 41 := ⟨dX0_skew_40, rfl⟩
theorem dX0_skew_41 : decode cX0_skew 41 = .ok (.iload_n 3, 1) := by decide +kernel
theorem eX0_skew_41 : dec cX0_skew 41 (.iload_n 3) 1 42 := ⟨dX0_skew_41, rfl⟩
theorem dX0_skew_42 : decode cX0_skew 42 = .ok (.invokevirtual 98, 3) := by decide +kernel
theorem eX0_skew_42 : dec cX0_skew 42 (.invokevirtual 98) 3 45 := ⟨dX0_skew_42, rfl⟩
theorem dX0_skew_45 : decode cX0_skew 45 = .ok (.istore 5, 2) := by decide +kernel
theorem eX0_skew_45 : dec cX0_skew 45 (.istore 5) 2 47 := ⟨dX0_skew_45, rfl⟩
theorem dX0_skew_47 : decode cX0_skew 47 = .ok (.iload 5, 2) := by decide +kernel
theorem eX0_skew_47 : dec cX0_skew 47 (.iload 5) 2 49 := ⟨dX0_skew_47, rfl⟩
theorem dX0_skew_49 : decode cX0_skew 49 = .ok (.iload_n 2, 1) := by decide +kernel
theorem eX0_skew_49 : dec cX0_skew 49 (.iload_n 2) 1 50 := ⟨dX0_skew_49, rfl⟩
theorem dX0_skew_50 : decode cX0_skew 50 = .ok (.if_icmp .le 8, 3) := by decide +kernel
theorem eX0_skew_50 : dec cX0_skew 50 (.if_icmp .le 8) 3 53 := ⟨dX0_skew_50, rfl⟩
theorem dX0_skew_53 : decode cX0_skew 53 = .ok (.iload_n 3, 1) := by decide +kernel
theorem eX0_skew_53 : dec cX0_skew 53 (.iload_n 3) 1 54 := ⟨dX0_skew_53, rfl⟩
theorem dX0_skew_54 : decode cX0_skew 54 = .ok (.istore_n 1, 1) := by decide +kernel
theorem eX0_skew_54 : dec cX0_skew 54 (.istore_n 1) 1 55 := ⟨dX0_skew_54, rfl⟩
theorem dX0_skew_55 : decode cX0_skew 55 = .ok (.iload 5, 2) := by decide +kernel
theorem eX0_skew_55 : dec cX0_skew 55 (.iload 5) 2 57 := ⟨dX0_skew_55, rfl⟩
theorem dX0_skew_57 : decode cX0_skew 57 = .ok (.istore_n 2, 1) := by decide +kernel
theorem eX0_skew_57 : dec cX0_skew 57 (.istore_n 2) 1 58 := ⟨dX0_skew_57, rfl⟩
theorem dX0_skew_58 : decode cX0_skew 58 = .ok (.iinc 3 1, 3) := by decide +kernel
theorem eX0_skew_58 : dec cX0_skew 58 (.iinc 3 1) 3 61 := ⟨dX0_skew_58, rfl⟩
theorem dX0_skew_61 : decode cX0_skew 61 = .ok (.goto (-47), 3) := by decide +kernel
theorem eX0_skew_61 : dec cX0_skew 61 (.goto (-47)) 3 64 := ⟨dX0_skew_61, rfl⟩
theorem dX0_skew_64 : decode cX0_skew 64 = .ok (.iload_n 1, 1) := by decide +kernel
theorem eX0_skew_64 : dec cX0_skew 64 (.iload_n 1) 1 65 := ⟨dX0_skew_64, rfl⟩
theorem dX0_skew_65 : decode cX0_skew 65 = .ok (.ireturn, 1) := by decide +kernel
theorem eX0_skew_65 : dec cX0_skew 65 .ireturn 1 66 := ⟨dX0_skew_65, rfl⟩
set_option maxRecDepth 20000 in
theorem ggX0_turn_X0_shearAt : GoodIn wsX0_turn wsX0_shearAt := goodIn_r _ [9, 2, 10, 11, 12, 13, 14, 15, 16, 21, 22, 23, 24, 25, 26, 27, 28, 29, 30, 31, 32, 33, 34, 35, 36] (by decide +kernel) (by decide +kernel)
set_option maxRecDepth 20000 in
theorem gX0_turn_X0_shearAt : GoodIn wsX0_turn (wsV RX0 101 RX0 yX0_shearAt wsX0_shearAt) := goodIn_app (goodIn_of _ (by decide +kernel)) ggX0_turn_X0_shearAt
set_option maxRecDepth 20000 in
theorem ggX0_turn_X0_takeSpare : GoodIn wsX0_turn wsX0_takeSpare := goodIn_r _ [20, 4, 3, 21, 22, 23, 24, 25, 26, 27, 28, 29, 30, 31, 32, 33, 34, 35, 36] (by decide +kernel) (by decide +kernel)
set_option maxRecDepth 20000 in
theorem gX0_turn_X0_takeSpare : GoodIn wsX0_turn (wsV RX0 104 RX0 yX0_takeSpare wsX0_takeSpare) := goodIn_app (goodIn_of _ (by decide +kernel)) ggX0_turn_X0_takeSpare
theorem dX0_turn_0 : decode cX0_turn 0 = .ok (.iload_n 1, 1) := by decide +kernel
theorem eX0_turn_0 : dec cX0_turn 0 (.iload_n 1) 1 1 := ⟨dX0_turn_0, rfl⟩
theorem dX0_turn_1 : decode cX0_turn 1 = .ok (.bipush (-100), 2) := by decide +kernel
theorem eX0_turn_1 : dec cX0_turn 1 (.bipush (-100)) 2 3 := ⟨dX0_turn_1, rfl⟩
theorem dX0_turn_3 : decode cX0_turn 3 = .ok (.if_icmp .lt 9, 3) := by decide +kernel
theorem eX0_turn_3 : dec cX0_turn 3 (.if_icmp .lt 9) 3 6 := ⟨dX0_turn_3, rfl⟩
theorem dX0_turn_6 : decode cX0_turn 6 = .ok (.iload_n 1, 1) := by decide +kernel
theorem eX0_turn_6 : dec cX0_turn 6 (.iload_n 1) 1 7 := ⟨dX0_turn_6, rfl⟩
theorem dX0_turn_7 : decode cX0_turn 7 = .ok (.bipush 100, 2) := by decide +kernel
theorem eX0_turn_7 : dec cX0_turn 7 (.bipush 100) 2 9 := ⟨dX0_turn_7, rfl⟩
theorem dX0_turn_9 : decode cX0_turn 9 = .ok (.if_icmp .le 5, 3) := by decide +kernel
theorem eX0_turn_9 : dec cX0_turn 9 (.if_icmp .le 5) 3 12 := ⟨dX0_turn_9, rfl⟩
theorem dX0_turn_12 : decode cX0_turn 12 = .ok (.iconst (-1), 1) := by decide +kernel
theorem eX0_turn_12 : dec cX0_turn 12 (.iconst (-1)) 1 13 := ⟨dX0_turn_12, rfl⟩
theorem dX0_turn_13 : decode cX0_turn 13 = .ok (.ireturn, 1) := by decide +kernel
theorem eX0_turn_13 : dec cX0_turn 13 .ireturn 1 14 := ⟨dX0_turn_13, rfl⟩
theorem dX0_turn_14 : decode cX0_turn 14 = .ok (.iconst 0, 1) := by decide +kernel
theorem eX0_turn_14 : dec cX0_turn 14 (.iconst 0) 1 15 := ⟨dX0_turn_14, rfl⟩
theorem dX0_turn_15 : decode cX0_turn 15 = .ok (.istore_n 2, 1) := by decide +kernel
theorem eX0_turn_15 : dec cX0_turn 15 (.istore_n 2) 1 16 := ⟨dX0_turn_15, rfl⟩
theorem dX0_turn_16 : decode cX0_turn 16 = .ok (.iload_n 2, 1) := by decide +kernel
theorem eX0_turn_16 : dec cX0_turn 16 (.iload_n 2) 1 17 := ⟨dX0_turn_16, rfl⟩
theorem dX0_turn_17 : decode cX0_turn 17 = .ok (.aload_n 0, 1) := by decide +kernel
theorem eX0_turn_17 : dec cX0_turn 17 (.aload_n 0) 1 18 := ⟨dX0_turn_17, rfl⟩
theorem dX0_turn_18 : decode cX0_turn 18 = .ok (.getfield 18, 3) := by decide +kernel
theorem eX0_turn_18 : dec cX0_turn 18 (.getfield 18) 3 21 := ⟨dX0_turn_18, rfl⟩
theorem dX0_turn_21 : decode cX0_turn 21 = .ok (.if_icmp .ge 69, 3) := by decide +kernel
theorem eX0_turn_21 : dec cX0_turn 21 (.if_icmp .ge 69) 3 24 := ⟨dX0_turn_21, rfl⟩
theorem dX0_turn_24 : decode cX0_turn 24 = .ok (.aload_n 0, 1) := by decide +kernel
theorem eX0_turn_24 : dec cX0_turn 24 (.aload_n 0) 1 25 := ⟨dX0_turn_24, rfl⟩
theorem dX0_turn_25 : decode cX0_turn 25 = .ok (.iload_n 2, 1) := by decide +kernel
theorem eX0_turn_25 : dec cX0_turn 25 (.iload_n 2) 1 26 := ⟨dX0_turn_25, rfl⟩
theorem dX0_turn_26 : decode cX0_turn 26 = .ok (.iload_n 1, 1) := by decide +kernel
theorem eX0_turn_26 : dec cX0_turn 26 (.iload_n 1) 1 27 := ⟨dX0_turn_26, rfl⟩
theorem dX0_turn_27 : decode cX0_turn 27 = .ok (.invokevirtual 101, 3) := by decide +kernel
theorem eX0_turn_27 : dec cX0_turn 27 (.invokevirtual 101) 3 30 := ⟨dX0_turn_27, rfl⟩
theorem dX0_turn_30 : decode cX0_turn 30 = .ok (.istore_n 3, 1) := by decide +kernel
theorem eX0_turn_30 : dec cX0_turn 30 (.istore_n 3) 1 31 := ⟨dX0_turn_30, rfl⟩
theorem dX0_turn_31 : decode cX0_turn 31 = .ok (.iconst 0, 1) := by decide +kernel
theorem eX0_turn_31 : dec cX0_turn 31 (.iconst 0) 1 32 := ⟨dX0_turn_31, rfl⟩
theorem dX0_turn_32 : decode cX0_turn 32 = .ok (.istore 4, 2) := by decide +kernel
theorem eX0_turn_32 : dec cX0_turn 32 (.istore 4) 2 34 := ⟨dX0_turn_32, rfl⟩
theorem dX0_turn_34 : decode cX0_turn 34 = .ok (.iload 4, 2) := by decide +kernel
theorem eX0_turn_34 : dec cX0_turn 34 (.iload 4) 2 36 := ⟨dX0_turn_34, rfl⟩
theorem dX0_turn_36 : decode cX0_turn 36 = .ok (.aload_n 0, 1) := by decide +kernel
theorem eX0_turn_36 : dec cX0_turn 36 (.aload_n 0) 1 37 := ⟨dX0_turn_36, rfl⟩
theorem dX0_turn_37 : decode cX0_turn 37 = .ok (.getfield 22, 3) := by decide +kernel
theorem eX0_turn_37 : dec cX0_turn 37 (.getfield 22) 3 40 := ⟨dX0_turn_37, rfl⟩
theorem dX0_turn_40 : decode cX0_turn 40 = .ok (.if_icmp .ge 44, 3) := by decide +kernel
theorem eX0_turn_40 : dec cX0_turn 40 (.if_icmp .ge 44) 3 43 := ⟨dX0_turn_40, rfl⟩
theorem dX0_turn_43 : decode cX0_turn 43 = .ok (.aload_n 0, 1) := by decide +kernel
theorem eX0_turn_43 : dec cX0_turn 43 (.aload_n 0) 1 44 := ⟨dX0_turn_43, rfl⟩
theorem dX0_turn_44 : decode cX0_turn 44 = .ok (.getfield 29, 3) := by decide +kernel
theorem eX0_turn_44 : dec cX0_turn 44 (.getfield 29) 3 47 := ⟨dX0_turn_44, rfl⟩
theorem dX0_turn_47 : decode cX0_turn 47 = .ok (.iload 4, 2) := by decide +kernel
theorem eX0_turn_47 : dec cX0_turn 47 (.iload 4) 2 49 := ⟨dX0_turn_47, rfl⟩
theorem dX0_turn_49 : decode cX0_turn 49 = .ok (.iload_n 3, 1) := by decide +kernel
theorem eX0_turn_49 : dec cX0_turn 49 (.iload_n 3) 1 50 := ⟨dX0_turn_49, rfl⟩
theorem dX0_turn_50 : decode cX0_turn 50 = .ok (.iadd, 1) := by decide +kernel
theorem eX0_turn_50 : dec cX0_turn 50 .iadd 1 51 := ⟨dX0_turn_50, rfl⟩
theorem dX0_turn_51 : decode cX0_turn 51 = .ok (.aload_n 0, 1) := by decide +kernel
theorem eX0_turn_51 : dec cX0_turn 51 (.aload_n 0) 1 52 := ⟨dX0_turn_51, rfl⟩
theorem dX0_turn_52 : decode cX0_turn 52 = .ok (.getfield 22, 3) := by decide +kernel
theorem eX0_turn_52 : dec cX0_turn 52 (.getfield 22) 3 55 := ⟨dX0_turn_52, rfl⟩
theorem dX0_turn_55 : decode cX0_turn 55 = .ok (.irem, 1) := by decide +kernel
theorem eX0_turn_55 : dec cX0_turn 55 .irem 1 56 := ⟨dX0_turn_55, rfl⟩
theorem dX0_turn_56 : decode cX0_turn 56 = .ok (.aload_n 0, 1) := by decide +kernel
theorem eX0_turn_56 : dec cX0_turn 56 (.aload_n 0) 1 57 := ⟨dX0_turn_56, rfl⟩
theorem dX0_turn_57 : decode cX0_turn 57 = .ok (.getfield 18, 3) := by decide +kernel
theorem eX0_turn_57 : dec cX0_turn 57 (.getfield 18) 3 60 := ⟨dX0_turn_57, rfl⟩
theorem dX0_turn_60 : decode cX0_turn 60 = .ok (.imul, 1) := by decide +kernel
theorem eX0_turn_60 : dec cX0_turn 60 .imul 1 61 := ⟨dX0_turn_60, rfl⟩
theorem dX0_turn_61 : decode cX0_turn 61 = .ok (.iload_n 2, 1) := by decide +kernel
theorem eX0_turn_61 : dec cX0_turn 61 (.iload_n 2) 1 62 := ⟨dX0_turn_61, rfl⟩
theorem dX0_turn_62 : decode cX0_turn 62 = .ok (.iadd, 1) := by decide +kernel
theorem eX0_turn_62 : dec cX0_turn 62 .iadd 1 63 := ⟨dX0_turn_62, rfl⟩
theorem dX0_turn_63 : decode cX0_turn 63 = .ok (.aload_n 0, 1) := by decide +kernel
theorem eX0_turn_63 : dec cX0_turn 63 (.aload_n 0) 1 64 := ⟨dX0_turn_63, rfl⟩
theorem dX0_turn_64 : decode cX0_turn 64 = .ok (.getfield 25, 3) := by decide +kernel
theorem eX0_turn_64 : dec cX0_turn 64 (.getfield 25) 3 67 := ⟨dX0_turn_64, rfl⟩
theorem dX0_turn_67 : decode cX0_turn 67 = .ok (.iload 4, 2) := by decide +kernel
theorem eX0_turn_67 : dec cX0_turn 67 (.iload 4) 2 69 := ⟨dX0_turn_67, rfl⟩
theorem dX0_turn_69 : decode cX0_turn 69 = .ok (.aload_n 0, 1) := by decide +kernel
theorem eX0_turn_69 : dec cX0_turn 69 (.aload_n 0) 1 70 := ⟨dX0_turn_69, rfl⟩
theorem dX0_turn_70 : decode cX0_turn 70 = .ok (.getfield 18, 3) := by decide +kernel
theorem eX0_turn_70 : dec cX0_turn 70 (.getfield 18) 3 73 := ⟨dX0_turn_70, rfl⟩
theorem dX0_turn_73 : decode cX0_turn 73 = .ok (.imul, 1) := by decide +kernel
theorem eX0_turn_73 : dec cX0_turn 73 .imul 1 74 := ⟨dX0_turn_73, rfl⟩
theorem dX0_turn_74 : decode cX0_turn 74 = .ok (.iload_n 2, 1) := by decide +kernel
theorem eX0_turn_74 : dec cX0_turn 74 (.iload_n 2) 1 75 := ⟨dX0_turn_74, rfl⟩
theorem dX0_turn_75 : decode cX0_turn 75 = .ok (.iadd, 1) := by decide +kernel
theorem eX0_turn_75 : dec cX0_turn 75 .iadd 1 76 := ⟨dX0_turn_75, rfl⟩
theorem dX0_turn_76 : decode cX0_turn 76 = .ok (.baload, 1) := by decide +kernel
theorem eX0_turn_76 : dec cX0_turn 76 .baload 1 77 := ⟨dX0_turn_76, rfl⟩
theorem dX0_turn_77 : decode cX0_turn 77 = .ok (.bastore, 1) := by decide +kernel
theorem eX0_turn_77 : dec cX0_turn 77 .bastore 1 78 := ⟨dX0_turn_77, rfl⟩
theorem dX0_turn_78 : decode cX0_turn 78 = .ok (.iinc 4 1, 3) := by decide +kernel
theorem eX0_turn_78 : dec cX0_turn 78 (.iinc 4 1) 3 81 := ⟨dX0_turn_78, rfl⟩
theorem dX0_turn_81 : decode cX0_turn 81 = .ok (.goto (-47), 3) := by decide +kernel
theorem eX0_turn_81 : dec cX0_turn 81 (.goto (-47)) 3 84 := ⟨dX0_turn_81, rfl⟩
theorem dX0_turn_84 : decode cX0_turn 84 = .ok (.iinc 2 1, 3) := by decide +kernel
theorem eX0_turn_84 : dec cX0_turn 84 (.iinc 2 1) 3 87 := ⟨dX0_turn_84, rfl⟩
theorem dX0_turn_87 : decode cX0_turn 87 = .ok (.goto (-71), 3) := by decide +kernel
theorem eX0_turn_87 : dec cX0_turn 87 (.goto (-71)) 3 90 := ⟨dX0_turn_87, rfl⟩
theorem dX0_turn_90 : decode cX0_turn 90 = .ok (.aload_n 0, 1) := by decide +kernel
theorem eX0_turn_90 : dec cX0_turn 90 (.aload_n 0) 1 91 := ⟨dX0_turn_90, rfl⟩
theorem dX0_turn_91 : decode cX0_turn 91 = .ok (.invokevirtual 104, 3) := by decide +kernel
theorem eX0_turn_91 : dec cX0_turn 91 (.invokevirtual 104) 3 94 := ⟨dX0_turn_91, rfl⟩
theorem dX0_turn_94 : decode cX0_turn 94 = .ok (.ireturn, 1) := by decide +kernel
theorem eX0_turn_94 : dec cX0_turn 94 .ireturn 1 95 := ⟨dX0_turn_94, rfl⟩
set_option maxRecDepth 20000 in
theorem ggX0_pack_X0_packStretch : GoodIn wsX0_pack wsX0_packStretch := goodIn_r _ [7, 1, 8, 9, 10, 11, 12, 13, 14, 15, 16, 17, 18, 19, 20, 21, 22, 23, 24] (by decide +kernel) (by decide +kernel)
set_option maxRecDepth 20000 in
theorem gX0_pack_X0_packStretch : GoodIn wsX0_pack (wsV RX0 111 RX0 yX0_packStretch wsX0_packStretch) := goodIn_app (goodIn_of _ (by decide +kernel)) ggX0_pack_X0_packStretch
theorem dX0_pack_0 : decode cX0_pack 0 = .ok (.aload_n 0, 1) := by decide +kernel
theorem eX0_pack_0 : dec cX0_pack 0 (.aload_n 0) 1 1 := ⟨dX0_pack_0, rfl⟩
theorem dX0_pack_1 : decode cX0_pack 1 = .ok (.iconst 0, 1) := by decide +kernel
theorem eX0_pack_1 : dec cX0_pack 1 (.iconst 0) 1 2 := ⟨dX0_pack_1, rfl⟩
theorem dX0_pack_2 : decode cX0_pack 2 = .ok (.putfield 108, 3) := by decide +kernel
theorem eX0_pack_2 : dec cX0_pack 2 (.putfield 108) 3 5 := ⟨dX0_pack_2, rfl⟩
theorem dX0_pack_5 : decode cX0_pack 5 = .ok (.iconst 0, 1) := by decide +kernel
theorem eX0_pack_5 : dec cX0_pack 5 (.iconst 0) 1 6 := ⟨dX0_pack_5, rfl⟩
theorem dX0_pack_6 : decode cX0_pack 6 = .ok (.istore_n 1, 1) := by decide +kernel
theorem eX0_pack_6 : dec cX0_pack 6 (.istore_n 1) 1 7 := ⟨dX0_pack_6, rfl⟩
theorem dX0_pack_7 : decode cX0_pack 7 = .ok (.iconst 1, 1) := by decide +kernel
theorem eX0_pack_7 : dec cX0_pack 7 (.iconst 1) 1 8 := ⟨dX0_pack_7, rfl⟩
theorem dX0_pack_8 : decode cX0_pack 8 = .ok (.istore_n 2, 1) := by decide +kernel
theorem eX0_pack_8 : dec cX0_pack 8 (.istore_n 2) 1 9 := ⟨dX0_pack_8, rfl⟩
theorem dX0_pack_9 : decode cX0_pack 9 = .ok (.iload_n 2, 1) := by decide +kernel
theorem eX0_pack_9 : dec cX0_pack 9 (.iload_n 2) 1 10 := ⟨dX0_pack_9, rfl⟩
theorem dX0_pack_10 : decode cX0_pack 10 = .ok (.aload_n 0, 1) := by decide +kernel
theorem eX0_pack_10 : dec cX0_pack 10 (.aload_n 0) 1 11 := ⟨dX0_pack_10, rfl⟩
theorem dX0_pack_11 : decode cX0_pack 11 = .ok (.getfield 25, 3) := by decide +kernel
theorem eX0_pack_11 : dec cX0_pack 11 (.getfield 25) 3 14 := ⟨dX0_pack_11, rfl⟩
theorem dX0_pack_14 : decode cX0_pack 14 = .ok (.arraylength, 1) := by decide +kernel
theorem eX0_pack_14 : dec cX0_pack 14 .arraylength 1 15 := ⟨dX0_pack_14, rfl⟩
theorem dX0_pack_15 : decode cX0_pack 15 = .ok (.if_icmp .gt 57, 3) := by decide +kernel
theorem eX0_pack_15 : dec cX0_pack 15 (.if_icmp .gt 57) 3 18 := ⟨dX0_pack_15, rfl⟩
theorem dX0_pack_18 : decode cX0_pack 18 = .ok (.iload_n 2, 1) := by decide +kernel
theorem eX0_pack_18 : dec cX0_pack 18 (.iload_n 2) 1 19 := ⟨dX0_pack_18, rfl⟩
theorem dX0_pack_19 : decode cX0_pack 19 = .ok (.aload_n 0, 1) := by decide +kernel
theorem eX0_pack_19 : dec cX0_pack 19 (.aload_n 0) 1 20 := ⟨dX0_pack_19, rfl⟩
theorem dX0_pack_20 : decode cX0_pack 20 = .ok (.getfield 25, 3) := by decide +kernel
theorem eX0_pack_20 : dec cX0_pack 20 (.getfield 25) 3 23 := ⟨dX0_pack_20, rfl⟩
theorem dX0_pack_23 : decode cX0_pack 23 = .ok (.arraylength, 1) := by decide +kernel
theorem eX0_pack_23 : dec cX0_pack 23 .arraylength 1 24 := ⟨dX0_pack_23, rfl⟩
theorem dX0_pack_24 : decode cX0_pack 24 = .ok (.if_icmp .eq 27, 3) := by decide +kernel
theorem eX0_pack_24 : dec cX0_pack 24 (.if_icmp .eq 27) 3 27 := ⟨dX0_pack_24, rfl⟩
theorem dX0_pack_27 : decode cX0_pack 27 = .ok (.iload_n 2, 1) := by decide +kernel
theorem eX0_pack_27 : dec cX0_pack 27 (.iload_n 2) 1 28 := ⟨dX0_pack_27, rfl⟩
theorem dX0_pack_28 : decode cX0_pack 28 = .ok (.iload_n 1, 1) := by decide +kernel
theorem eX0_pack_28 : dec cX0_pack 28 (.iload_n 1) 1 29 := ⟨dX0_pack_28, rfl⟩
theorem dX0_pack_29 : decode cX0_pack 29 = .ok (.isub, 1) := by decide +kernel
theorem eX0_pack_29 : dec cX0_pack 29 .isub 1 30 := ⟨dX0_pack_29, rfl⟩
theorem dX0_pack_30 : decode cX0_pack 30 = .ok (.sipush 255, 3) := by decide +kernel
theorem eX0_pack_30 : dec cX0_pack 30 (.sipush 255) 3 33 := ⟨dX0_pack_30, rfl⟩
theorem dX0_pack_33 : decode cX0_pack 33 = .ok (.if_icmp .eq 18, 3) := by decide +kernel
theorem eX0_pack_33 : dec cX0_pack 33 (.if_icmp .eq 18) 3 36 := ⟨dX0_pack_33, rfl⟩
theorem dX0_pack_36 : decode cX0_pack 36 = .ok (.aload_n 0, 1) := by decide +kernel
theorem eX0_pack_36 : dec cX0_pack 36 (.aload_n 0) 1 37 := ⟨dX0_pack_36, rfl⟩
theorem dX0_pack_37 : decode cX0_pack 37 = .ok (.getfield 25, 3) := by decide +kernel
theorem eX0_pack_37 : dec cX0_pack 37 (.getfield 25) 3 40 := ⟨dX0_pack_37, rfl⟩
theorem dX0_pack_40 : decode cX0_pack 40 = .ok (.iload_n 2, 1) := by decide +kernel
theorem eX0_pack_40 : dec cX0_pack 40 (.iload_n 2) 1 41 := ⟨dX0_pack_40, rfl⟩
theorem dX0_pack_41 : decode cX0_pack 41 = .ok (.baload, 1) := by decide +kernel
theorem eX0_pack_41 : dec cX0_pack 41 .baload 1 42 := ⟨dX0_pack_41, rfl⟩
theorem dX0_pack_42 : decode cX0_pack 42 = .ok (.aload_n 0, 1) := by decide +kernel
theorem eX0_pack_42 : dec cX0_pack 42 (.aload_n 0) 1 43 := ⟨dX0_pack_42, rfl⟩
theorem dX0_pack_43 : decode cX0_pack 43 = .ok (.getfield 25, 3) := by decide +kernel
theorem eX0_pack_43 : dec cX0_pack 43 (.getfield 25) 3 46 := ⟨dX0_pack_43, rfl⟩
theorem dX0_pack_46 : decode cX0_pack 46 = .ok (.iload_n 1, 1) := by decide +kernel
theorem eX0_pack_46 : dec cX0_pack 46 (.iload_n 1) 1 47 := ⟨dX0_pack_46, rfl⟩
theorem dX0_pack_47 : decode cX0_pack 47 = .ok (.baload, 1) := by decide +kernel
theorem eX0_pack_47 : dec cX0_pack 47 .baload 1 48 := ⟨dX0_pack_47, rfl⟩
theorem dX0_pack_48 : decode cX0_pack 48 = .ok (.if_icmp .eq 18, 3) := by decide +kernel
theorem eX0_pack_48 : dec cX0_pack 48 (.if_icmp .eq 18) 3 51 := ⟨dX0_pack_48, rfl⟩
theorem dX0_pack_51 : decode cX0_pack 51 = .ok (.aload_n 0, 1) := by decide +kernel
theorem eX0_pack_51 : dec cX0_pack 51 (.aload_n 0) 1 52 := ⟨dX0_pack_51, rfl⟩
theorem dX0_pack_52 : decode cX0_pack 52 = .ok (.iload_n 2, 1) := by decide +kernel
theorem eX0_pack_52 : dec cX0_pack 52 (.iload_n 2) 1 53 := ⟨dX0_pack_52, rfl⟩
theorem dX0_pack_53 : decode cX0_pack 53 = .ok (.iload_n 1, 1) := by decide +kernel
theorem eX0_pack_53 : dec cX0_pack 53 (.iload_n 1) 1 54 := ⟨dX0_pack_53, rfl⟩
theorem dX0_pack_54 : decode cX0_pack 54 = .ok (.isub, 1) := by decide +kernel
theorem eX0_pack_54 : dec cX0_pack 54 .isub 1 55 := ⟨dX0_pack_54, rfl⟩
theorem dX0_pack_55 : decode cX0_pack 55 = .ok (.aload_n 0, 1) := by decide +kernel
theorem eX0_pack_55 : dec cX0_pack 55 (.aload_n 0) 1 56 := ⟨dX0_pack_55, rfl⟩
theorem dX0_pack_56 : decode cX0_pack 56 = .ok (.getfield 25, 3) := by decide +kernel
theorem eX0_pack_56 : dec cX0_pack 56 (.getfield 25) 3 59 := ⟨dX0_pack_56, rfl⟩
theorem dX0_pack_59 : decode cX0_pack 59 = .ok (.iload_n 1, 1) := by decide +kernel
theorem eX0_pack_59 : dec cX0_pack 59 (.iload_n 1) 1 60 := ⟨dX0_pack_59, rfl⟩
theorem dX0_pack_60 : decode cX0_pack 60 = .ok (.baload, 1) := by decide +kernel
theorem eX0_pack_60 : dec cX0_pack 60 .baload 1 61 := ⟨dX0_pack_60, rfl⟩
theorem dX0_pack_61 : decode cX0_pack 61 = .ok (.invokevirtual 111, 3) := by decide +kernel
theorem eX0_pack_61 : dec cX0_pack 61 (.invokevirtual 111) 3 64 := ⟨dX0_pack_61, rfl⟩
theorem dX0_pack_64 : decode cX0_pack 64 = .ok (.iload_n 2, 1) := by decide +kernel
theorem eX0_pack_64 : dec cX0_pack 64 (.iload_n 2) 1 65 := ⟨dX0_pack_64, rfl⟩
theorem dX0_pack_65 : decode cX0_pack 65 = .ok (.istore_n 1, 1) := by decide +kernel
theorem eX0_pack_65 : dec cX0_pack 65 (.istore_n 1) 1 66 := ⟨dX0_pack_65, rfl⟩
theorem dX0_pack_66 : decode cX0_pack 66 = .ok (.iinc 2 1, 3) := by decide +kernel
theorem eX0_pack_66 : dec cX0_pack 66 (.iinc 2 1) 3 69 := ⟨dX0_pack_66, rfl⟩
theorem dX0_pack_69 : decode cX0_pack 69 = .ok (.goto (-60), 3) := by decide +kernel
theorem eX0_pack_69 : dec cX0_pack 69 (.goto (-60)) 3 72 := ⟨dX0_pack_69, rfl⟩
theorem dX0_pack_72 : decode cX0_pack 72 = .ok (.aload_n 0, 1) := by decide +kernel
theorem eX0_pack_72 : dec cX0_pack 72 (.aload_n 0) 1 73 := ⟨dX0_pack_72, rfl⟩
theorem dX0_pack_73 : decode cX0_pack 73 = .ok (.getfield 108, 3) := by decide +kernel
theorem eX0_pack_73 : dec cX0_pack 73 (.getfield 108) 3 76 := ⟨dX0_pack_73, rfl⟩
theorem dX0_pack_76 : decode cX0_pack 76 = .ok (.ireturn, 1) := by decide +kernel
theorem eX0_pack_76 : dec cX0_pack 76 .ireturn 1 77 := ⟨dX0_pack_76, rfl⟩
theorem dX0_octet_0 : decode cX0_octet 0 = .ok (.iload_n 1, 1) := by decide +kernel
theorem eX0_octet_0 : dec cX0_octet 0 (.iload_n 1) 1 1 := ⟨dX0_octet_0, rfl⟩
theorem dX0_octet_1 : decode cX0_octet 1 = .ok (.ifCond .lt 11, 3) := by decide +kernel
theorem eX0_octet_1 : dec cX0_octet 1 (.ifCond .lt 11) 3 4 := ⟨dX0_octet_1, rfl⟩
theorem dX0_octet_4 : decode cX0_octet 4 = .ok (.iload_n 1, 1) := by decide +kernel
theorem eX0_octet_4 : dec cX0_octet 4 (.iload_n 1) 1 5 := ⟨dX0_octet_4, rfl⟩
theorem dX0_octet_5 : decode cX0_octet 5 = .ok (.aload_n 0, 1) := by decide +kernel
theorem eX0_octet_5 : dec cX0_octet 5 (.aload_n 0) 1 6 := ⟨dX0_octet_5, rfl⟩
theorem dX0_octet_6 : decode cX0_octet 6 = .ok (.getfield 108, 3) := by decide +kernel
theorem eX0_octet_6 : dec cX0_octet 6 (.getfield 108) 3 9 := ⟨dX0_octet_6, rfl⟩
theorem dX0_octet_9 : decode cX0_octet 9 = .ok (.if_icmp .lt 13, 3) := by decide +kernel
theorem eX0_octet_9 : dec cX0_octet 9 (.if_icmp .lt 13) 3 12 := ⟨dX0_octet_9, rfl⟩
theorem dX0_octet_12 : decode cX0_octet 12 = .ok (.new 68, 3) := by decide +kernel
theorem eX0_octet_12 : dec cX0_octet 12 (.new 68) 3 15 := ⟨dX0_octet_12, rfl⟩
theorem dX0_octet_15 : decode cX0_octet 15 = .ok (.dup, 1) := by decide +kernel
theorem eX0_octet_15 : dec cX0_octet 15 .dup 1 16 := ⟨dX0_octet_15, rfl⟩
theorem dX0_octet_16 : decode cX0_octet 16 = .ok (.ldc 115, 2) := by decide +kernel
theorem eX0_octet_16 : dec cX0_octet 16 (.ldc 115) 2 18 := ⟨dX0_octet_16, rfl⟩
theorem dX0_octet_18 : decode cX0_octet 18 = .ok (.invokespecial 72, 3) := by decide +kernel
theorem eX0_octet_18 : dec cX0_octet 18 (.invokespecial 72) 3 21 := ⟨dX0_octet_18, rfl⟩
theorem dX0_octet_21 : decode cX0_octet 21 = .ok (.athrow, 1) := by decide +kernel
theorem eX0_octet_21 : dec cX0_octet 21 .athrow 1 22 := ⟨dX0_octet_21, rfl⟩
theorem dX0_octet_22 : decode cX0_octet 22 = .ok (.aload_n 0, 1) := by decide +kernel
theorem eX0_octet_22 : dec cX0_octet 22 (.aload_n 0) 1 23 := ⟨dX0_octet_22, rfl⟩
theorem dX0_octet_23 : decode cX0_octet 23 = .ok (.getfield 52, 3) := by decide +kernel
theorem eX0_octet_23 : dec cX0_octet 23 (.getfield 52) 3 26 := ⟨dX0_octet_23, rfl⟩
theorem dX0_octet_26 : decode cX0_octet 26 = .ok (.iload_n 1, 1) := by decide +kernel
theorem eX0_octet_26 : dec cX0_octet 26 (.iload_n 1) 1 27 := ⟨dX0_octet_26, rfl⟩
theorem dX0_octet_27 : decode cX0_octet 27 = .ok (.baload, 1) := by decide +kernel
theorem eX0_octet_27 : dec cX0_octet 27 .baload 1 28 := ⟨dX0_octet_27, rfl⟩
theorem dX0_octet_28 : decode cX0_octet 28 = .ok (.ireturn, 1) := by decide +kernel
theorem eX0_octet_28 : dec cX0_octet 28 .ireturn 1 29 := ⟨dX0_octet_28, rfl⟩
theorem dX0_add_0 : decode cX0_add 0 = .ok (.aload_n 0, 1) := by decide +kernel
theorem eX0_add_0 : dec cX0_add 0 (.aload_n 0) 1 1 := ⟨dX0_add_0, rfl⟩
theorem dX0_add_1 : decode cX0_add 1 = .ok (.getfield 117, 3) := by decide +kernel
theorem eX0_add_1 : dec cX0_add 1 (.getfield 117) 3 4 := ⟨dX0_add_1, rfl⟩
theorem dX0_add_4 : decode cX0_add 4 = .ok (.sipush 5000, 3) := by decide +kernel
theorem eX0_add_4 : dec cX0_add 4 (.sipush 5000) 3 7 := ⟨dX0_add_4, rfl⟩
theorem dX0_add_7 : decode cX0_add 7 = .ok (.if_icmp .ge 23, 3) := by decide +kernel
theorem eX0_add_7 : dec cX0_add 7 (.if_icmp .ge 23) 3 10 := ⟨dX0_add_7, rfl⟩
theorem dX0_add_10 : decode cX0_add 10 = .ok (.aload_n 0, 1) := by decide +kernel
theorem eX0_add_10 : dec cX0_add 10 (.aload_n 0) 1 11 := ⟨dX0_add_10, rfl⟩
theorem dX0_add_11 : decode cX0_add 11 = .ok (.getfield 55, 3) := by decide +kernel
theorem eX0_add_11 : dec cX0_add 11 (.getfield 55) 3 14 := ⟨dX0_add_11, rfl⟩
theorem dX0_add_14 : decode cX0_add 14 = .ok (.aload_n 0, 1) := by decide +kernel
theorem eX0_add_14 : dec cX0_add 14 (.aload_n 0) 1 15 := ⟨dX0_add_14, rfl⟩
theorem dX0_add_15 : decode cX0_add 15 = .ok (.getfield 117, 3) := by decide +kernel
theorem eX0_add_15 : dec cX0_add 15 (.getfield 117) 3 18 := ⟨dX0_add_15, rfl⟩
theorem dX0_add_18 : decode cX0_add 18 = .ok (.iload_n 1, 1) := by decide +kernel
theorem eX0_add_18 : dec cX0_add 18 (.iload_n 1) 1 19 := ⟨dX0_add_18, rfl⟩
theorem dX0_add_19 : decode cX0_add 19 = .ok (.bastore, 1) := by decide +kernel
theorem eX0_add_19 : dec cX0_add 19 .bastore 1 20 := ⟨dX0_add_19, rfl⟩
theorem dX0_add_20 : decode cX0_add 20 = .ok (.aload_n 0, 1) := by decide +kernel
theorem eX0_add_20 : dec cX0_add 20 (.aload_n 0) 1 21 := ⟨dX0_add_20, rfl⟩
theorem dX0_add_21 : decode cX0_add 21 = .ok (.dup, 1) := by decide +kernel
theorem eX0_add_21 : dec cX0_add 21 .dup 1 22 := ⟨dX0_add_21, rfl⟩
theorem dX0_add_22 : decode cX0_add 22 = .ok (.getfield 117, 3) := by decide +kernel
theorem eX0_add_22 : dec cX0_add 22 (.getfield 117) 3 25 := ⟨dX0_add_22, rfl⟩
theorem dX0_add_25 : decode cX0_add 25 = .ok (.iconst 1, 1) := by decide +kernel
theorem eX0_add_25 : dec cX0_add 25 (.iconst 1) 1 26 := ⟨dX0_add_25, rfl⟩
theorem dX0_add_26 : decode cX0_add 26 = .ok (.iadd, 1) := by decide +kernel
theorem eX0_add_26 : dec cX0_add 26 .iadd 1 27 := ⟨dX0_add_26, rfl⟩
theorem dX0_add_27 : decode cX0_add 27 = .ok (.putfield 117, 3) := by decide +kernel
theorem eX0_add_27 : dec cX0_add 27 (.putfield 117) 3 30 := ⟨dX0_add_27, rfl⟩
theorem dX0_add_30 : decode cX0_add 30 = .ok (.return_, 1) := by decide +kernel
theorem eX0_add_30 : dec cX0_add 30 .return_ 1 31 := ⟨dX0_add_30, rfl⟩
set_option maxRecDepth 20000 in
theorem ggX0_unpack_X0_readCollected : GoodIn wsX0_unpack wsX0_readCollected := goodIn_r _ [6, 1, 7, 8, 14, 15, 16, 17, 18, 19, 20, 21, 22, 23, 24, 25, 26, 27, 28, 29] (by decide +kernel) (by decide +kernel)
set_option maxRecDepth 20000 in
theorem gX0_unpack_X0_readCollected : GoodIn wsX0_unpack (wsV RX0 120 RX0 yX0_readCollected wsX0_readCollected) := goodIn_app (goodIn_of _ (by decide +kernel)) ggX0_unpack_X0_readCollected
set_option maxRecDepth 20000 in
theorem ggX0_unpack_X0_takeSpare : GoodIn wsX0_unpack wsX0_takeSpare := goodIn_r _ [12, 13, 8, 14, 15, 16, 17, 18, 19, 20, 21, 22, 23, 24, 25, 26, 27, 28, 29] (by decide +kernel) (by decide +kernel)
set_option maxRecDepth 20000 in
theorem gX0_unpack_X0_takeSpare : GoodIn wsX0_unpack (wsV RX0 104 RX0 yX0_takeSpare wsX0_takeSpare) := goodIn_app (goodIn_of _ (by decide +kernel)) ggX0_unpack_X0_takeSpare
theorem dX0_unpack_0 : decode cX0_unpack 0 = .ok (.aload_n 0, 1) := by decide +kernel
theorem eX0_unpack_0 : dec cX0_unpack 0 (.aload_n 0) 1 1 := ⟨dX0_unpack_0, rfl⟩
theorem dX0_unpack_1 : decode cX0_unpack 1 = .ok (.invokevirtual 120, 3) := by decide +kernel
theorem eX0_unpack_1 : dec cX0_unpack 1 (.invokevirtual 120) 3 4 := ⟨dX0_unpack_1, rfl⟩
theorem dX0_unpack_4 : decode cX0_unpack 4 = .ok (.istore_n 1, 1) := by decide +kernel
theorem eX0_unpack_4 : dec cX0_unpack 4 (.istore_n 1) 1 5 := ⟨dX0_unpack_4, rfl⟩
theorem dX0_unpack_5 : decode cX0_unpack 5 = .ok (.aload_n 0, 1) := by decide +kernel
theorem eX0_unpack_5 : dec cX0_unpack 5 (.aload_n 0) 1 6 := ⟨dX0_unpack_5, rfl⟩
theorem dX0_unpack_6 : decode cX0_unpack 6 = .ok (.iconst 0, 1) := by decide +kernel
theorem eX0_unpack_6 : dec cX0_unpack 6 (.iconst 0) 1 7 := ⟨dX0_unpack_6, rfl⟩
theorem dX0_unpack_7 : decode cX0_unpack 7 = .ok (.putfield 117, 3) := by decide +kernel
theorem eX0_unpack_7 : dec cX0_unpack 7 (.putfield 117) 3 10 := ⟨dX0_unpack_7, rfl⟩
theorem dX0_unpack_10 : decode cX0_unpack 10 = .ok (.iload_n 1, 1) := by decide +kernel
theorem eX0_unpack_10 : dec cX0_unpack 10 (.iload_n 1) 1 11 := ⟨dX0_unpack_10, rfl⟩
theorem dX0_unpack_11 : decode cX0_unpack 11 = .ok (.iconst (-1), 1) := by decide +kernel
theorem eX0_unpack_11 : dec cX0_unpack 11 (.iconst (-1)) 1 12 := ⟨dX0_unpack_11, rfl⟩
theorem dX0_unpack_12 : decode cX0_unpack 12 = .ok (.if_icmp .eq 7, 3) := by decide +kernel
theorem eX0_unpack_12 : dec cX0_unpack 12 (.if_icmp .eq 7) 3 15 := ⟨dX0_unpack_12, rfl⟩
theorem dX0_unpack_15 : decode cX0_unpack 15 = .ok (.iconst (-1), 1) := by decide +kernel
theorem eX0_unpack_15 : dec cX0_unpack 15 (.iconst (-1)) 1 16 := ⟨dX0_unpack_15, rfl⟩
theorem dX0_unpack_16 : decode cX0_unpack 16 = .ok (.iload_n 1, 1) := by decide +kernel
theorem eX0_unpack_16 : dec cX0_unpack 16 (.iload_n 1) 1 17 := ⟨dX0_unpack_16, rfl⟩
theorem dX0_unpack_17 : decode cX0_unpack 17 = .ok (.isub, 1) := by decide +kernel
theorem eX0_unpack_17 : dec cX0_unpack 17 .isub 1 18 := ⟨dX0_unpack_17, rfl⟩
theorem dX0_unpack_18 : decode cX0_unpack 18 = .ok (.ireturn, 1) := by decide +kernel
theorem eX0_unpack_18 : dec cX0_unpack 18 .ireturn 1 19 := ⟨dX0_unpack_18, rfl⟩
theorem dX0_unpack_19 : decode cX0_unpack 19 = .ok (.aload_n 0, 1) := by decide +kernel
theorem eX0_unpack_19 : dec cX0_unpack 19 (.aload_n 0) 1 20 := ⟨dX0_unpack_19, rfl⟩
theorem dX0_unpack_20 : decode cX0_unpack 20 = .ok (.invokevirtual 104, 3) := by decide +kernel
theorem eX0_unpack_20 : dec cX0_unpack 20 (.invokevirtual 104) 3 23 := ⟨dX0_unpack_20, rfl⟩
theorem dX0_unpack_23 : decode cX0_unpack 23 = .ok (.pop, 1) := by decide +kernel
theorem eX0_unpack_23 : dec cX0_unpack 23 .pop 1 24 := ⟨dX0_unpack_23, rfl⟩
theorem dX0_unpack_24 : decode cX0_unpack 24 = .ok (.iconst 1, 1) := by decide +kernel
theorem eX0_unpack_24 : dec cX0_unpack 24 (.iconst 1) 1 25 := ⟨dX0_unpack_24, rfl⟩
theorem dX0_unpack_25 : decode cX0_unpack 25 = .ok (.ireturn, 1) := by decide +kernel
theorem eX0_unpack_25 : dec cX0_unpack 25 .ireturn 1 26 := ⟨dX0_unpack_25, rfl⟩
set_option maxRecDepth 20000 in
theorem ggX0_side_X0_mirrorRows : GoodIn wsX0_side wsX0_mirrorRows := goodIn_r _ [5, 6, 7, 8, 9, 34, 35, 36, 37, 38, 39, 40, 41, 42, 43, 44, 45, 46, 47, 48, 49] (by decide +kernel) (by decide +kernel)
set_option maxRecDepth 20000 in
theorem gX0_side_X0_mirrorRows : GoodIn wsX0_side (wsV RX0 123 RX0 yX0_mirrorRows wsX0_mirrorRows) := goodIn_app (goodIn_of _ (by decide +kernel)) ggX0_side_X0_mirrorRows
set_option maxRecDepth 20000 in
theorem ggX0_side_X0_reverseRows : GoodIn wsX0_side wsX0_reverseRows := goodIn_r _ [13, 6, 7, 8, 9, 34, 35, 36, 37, 38, 39, 40, 41, 42, 43, 44, 45, 46, 47, 48, 49] (by decide +kernel) (by decide +kernel)
set_option maxRecDepth 20000 in
theorem gX0_side_X0_reverseRows : GoodIn wsX0_side (wsV RX0 126 RX0 yX0_reverseRows wsX0_reverseRows) := goodIn_app (goodIn_of _ (by decide +kernel)) ggX0_side_X0_reverseRows
set_option maxRecDepth 20000 in
theorem ggX0_side_X0_invertGreys : GoodIn wsX0_side wsX0_invertGreys := goodIn_r _ [17, 9, 8, 34, 35, 36, 37, 38, 39, 40, 41, 42, 43, 44, 45, 46, 47, 48, 49] (by decide +kernel) (by decide +kernel)
set_option maxRecDepth 20000 in
theorem gX0_side_X0_invertGreys : GoodIn wsX0_side (wsV RX0 129 RX0 yX0_invertGreys wsX0_invertGreys) := goodIn_app (goodIn_of _ (by decide +kernel)) ggX0_side_X0_invertGreys
set_option maxRecDepth 20000 in
theorem ggX0_side_X0_halve : GoodIn wsX0_side wsX0_halve := goodIn_r _ [21, 8, 6, 7, 22, 23, 24, 25, 26, 27, 28, 4, 29, 9, 34, 35, 36, 37, 38, 39, 40, 41, 42, 43, 44, 45, 46, 47, 48, 49] (by decide +kernel) (by decide +kernel)
set_option maxRecDepth 20000 in
theorem gX0_side_X0_halve : GoodIn wsX0_side (wsV RX0 132 RX0 yX0_halve wsX0_halve) := goodIn_app (goodIn_of _ (by decide +kernel)) ggX0_side_X0_halve
set_option maxRecDepth 20000 in
theorem ggX0_side_X0_takeSpare : GoodIn wsX0_side wsX0_takeSpare := goodIn_r _ [33, 9, 8, 34, 35, 36, 37, 38, 39, 40, 41, 42, 43, 44, 45, 46, 47, 48, 49] (by decide +kernel) (by decide +kernel)
set_option maxRecDepth 20000 in
theorem gX0_side_X0_takeSpare : GoodIn wsX0_side (wsV RX0 104 RX0 yX0_takeSpare wsX0_takeSpare) := goodIn_app (goodIn_of _ (by decide +kernel)) ggX0_side_X0_takeSpare
theorem dX0_side_0 : decode cX0_side 0 = .ok (.iload_n 1, 1) := by decide +kernel
theorem eX0_side_0 : dec cX0_side 0 (.iload_n 1) 1 1 := ⟨dX0_side_0, rfl⟩
theorem dX0_side_1 : decode cX0_side 1 = .ok (.tableswitch 59 0 3 #[31, 38, 45, 52], 31) := by decide +kernel
theorem eX0_side_1 : dec cX0_side 1 (.tableswitch 59 0 3 #[31, 38, 45, 52]) 31 32 := ⟨dX0_side_1, rfl⟩
theorem dX0_side_32 : decode cX0_side 32 = .ok (.aload_n 0, 1) := by decide +kernel
theorem eX0_side_32 : dec cX0_side 32 (.aload_n 0) 1 33 := ⟨dX0_side_32, rfl⟩
theorem dX0_side_33 : decode cX0_side 33 = .ok (.invokevirtual 123, 3) := by decide +kernel
theorem eX0_side_33 : dec cX0_side 33 (.invokevirtual 123) 3 36 := ⟨dX0_side_33, rfl⟩
theorem dX0_side_36 : decode cX0_side 36 = .ok (.goto 26, 3) := by decide +kernel
theorem eX0_side_36 : dec cX0_side 36 (.goto 26) 3 39 := ⟨dX0_side_36, rfl⟩
theorem dX0_side_39 : decode cX0_side 39 = .ok (.aload_n 0, 1) := by decide +kernel
theorem eX0_side_39 : dec cX0_side 39 (.aload_n 0) 1 40 := ⟨dX0_side_39, rfl⟩
theorem dX0_side_40 : decode cX0_side 40 = .ok (.invokevirtual 126, 3) := by decide +kernel
theorem eX0_side_40 : dec cX0_side 40 (.invokevirtual 126) 3 43 := ⟨dX0_side_40, rfl⟩
theorem dX0_side_43 : decode cX0_side 43 = .ok (.goto 19, 3) := by decide +kernel
theorem eX0_side_43 : dec cX0_side 43 (.goto 19) 3 46 := ⟨dX0_side_43, rfl⟩
theorem dX0_side_46 : decode cX0_side 46 = .ok (.aload_n 0, 1) := by decide +kernel
theorem eX0_side_46 : dec cX0_side 46 (.aload_n 0) 1 47 := ⟨dX0_side_46, rfl⟩
theorem dX0_side_47 : decode cX0_side 47 = .ok (.invokevirtual 129, 3) := by decide +kernel
theorem eX0_side_47 : dec cX0_side 47 (.invokevirtual 129) 3 50 := ⟨dX0_side_47, rfl⟩
theorem dX0_side_50 : decode cX0_side 50 = .ok (.goto 12, 3) := by decide +kernel
theorem eX0_side_50 : dec cX0_side 50 (.goto 12) 3 53 := ⟨dX0_side_50, rfl⟩
theorem dX0_side_53 : decode cX0_side 53 = .ok (.aload_n 0, 1) := by decide +kernel
theorem eX0_side_53 : dec cX0_side 53 (.aload_n 0) 1 54 := ⟨dX0_side_53, rfl⟩
theorem dX0_side_54 : decode cX0_side 54 = .ok (.invokevirtual 132, 3) := by decide +kernel
theorem eX0_side_54 : dec cX0_side 54 (.invokevirtual 132) 3 57 := ⟨dX0_side_54, rfl⟩
theorem dX0_side_57 : decode cX0_side 57 = .ok (.goto 5, 3) := by decide +kernel
theorem eX0_side_57 : dec cX0_side 57 (.goto 5) 3 60 := ⟨dX0_side_57, rfl⟩
theorem dX0_side_60 : decode cX0_side 60 = .ok (.iconst (-1), 1) := by decide +kernel
theorem eX0_side_60 : dec cX0_side 60 (.iconst (-1)) 1 61 := ⟨dX0_side_60, rfl⟩
theorem dX0_side_61 : decode cX0_side 61 = .ok (.ireturn, 1) := by decide +kernel
theorem eX0_side_61 : dec cX0_side 61 .ireturn 1 62 := ⟨dX0_side_61, rfl⟩
theorem dX0_side_62 : decode cX0_side 62 = .ok (.aload_n 0, 1) := by decide +kernel
theorem eX0_side_62 : dec cX0_side 62 (.aload_n 0) 1 63 := ⟨dX0_side_62, rfl⟩
theorem dX0_side_63 : decode cX0_side 63 = .ok (.invokevirtual 104, 3) := by decide +kernel
theorem eX0_side_63 : dec cX0_side 63 (.invokevirtual 104) 3 66 := ⟨dX0_side_63, rfl⟩
theorem dX0_side_66 : decode cX0_side 66 = .ok (.ireturn, 1) := by decide +kernel
theorem eX0_side_66 : dec cX0_side 66 .ireturn 1 67 := ⟨dX0_side_66, rfl⟩
set_option maxRecDepth 20000 in
theorem ggX0_inverted_X0_threshold : GoodIn wsX0_inverted wsX0_threshold := goodIn_r _ [5, 6, 7, 8, 4, 9, 10, 11, 12, 13, 14, 15, 16, 17, 18, 19, 20, 21, 22, 23, 24, 29, 30, 31, 32, 33, 34, 35, 36, 37, 38, 39, 40, 41, 42, 43, 44] (by decide +kernel) (by decide +kernel)
set_option maxRecDepth 20000 in
theorem gX0_inverted_X0_threshold : GoodIn wsX0_inverted (wsV RX0 135 RX0 yX0_threshold wsX0_threshold) := goodIn_app (goodIn_of _ (by decide +kernel)) ggX0_inverted_X0_threshold
set_option maxRecDepth 20000 in
theorem ggX0_inverted_X0_hasMostlyLow : GoodIn wsX0_inverted wsX0_hasMostlyLow := goodIn_r _ [28, 10, 11, 29, 30, 31, 32, 33, 34, 35, 36, 37, 38, 39, 40, 41, 42, 43, 44] (by decide +kernel) (by decide +kernel)
set_option maxRecDepth 20000 in
theorem gX0_inverted_X0_hasMostlyLow : GoodIn wsX0_inverted (wsV RX0 138 RX0 yX0_hasMostlyLow wsX0_hasMostlyLow) := goodIn_app (goodIn_of _ (by decide +kernel)) ggX0_inverted_X0_hasMostlyLow
theorem dX0_inverted_0 : decode cX0_inverted 0 = .ok (.aload_n 0, 1) := by decide +kernel
theorem eX0_inverted_0 : dec cX0_inverted 0 (.aload_n 0) 1 1 := ⟨dX0_inverted_0, rfl⟩
theorem dX0_inverted_1 : decode cX0_inverted 1 = .ok (.aload_n 0, 1) := by decide +kernel
theorem eX0_inverted_1 : dec cX0_inverted 1 (.aload_n 0) 1 2 := ⟨dX0_inverted_1, rfl⟩
theorem dX0_inverted_2 : decode cX0_inverted 2 = .ok (.invokevirtual 135, 3) := by decide +kernel
theorem eX0_inverted_2 : dec cX0_inverted 2 (.invokevirtual 135) 3 5 := ⟨dX0_inverted_2, rfl⟩
theorem dX0_inverted_5 : decode cX0_inverted 5 = .ok (.invokevirtual 138, 3) := by decide +kernel
theorem eX0_inverted_5 : dec cX0_inverted 5 (.invokevirtual 138) 3 8 := ⟨dX0_inverted_5, rfl⟩
theorem dX0_inverted_8 : decode cX0_inverted 8 = .ok (.ireturn, 1) := by decide +kernel
theorem eX0_inverted_8 : dec cX0_inverted 8 .ireturn 1 9 := ⟨dX0_inverted_8, rfl⟩
set_option maxRecDepth 20000 in
theorem ggX0_grey_X0_isOnSheet : GoodIn wsX0_grey wsX0_isOnSheet := goodIn_r _ [10, 5, 11, 18, 19, 20, 21, 22, 23, 24, 25, 26, 27, 28, 29, 30, 31, 32, 33] (by decide +kernel) (by decide +kernel)
set_option maxRecDepth 20000 in
theorem gX0_grey_X0_isOnSheet : GoodIn wsX0_grey (wsV RX0 64 RX0 yX0_isOnSheet wsX0_isOnSheet) := goodIn_app (goodIn_of _ (by decide +kernel)) ggX0_grey_X0_isOnSheet
theorem dX0_grey_0 : decode cX0_grey 0 = .ok (.aload_n 0, 1) := by decide +kernel
theorem eX0_grey_0 : dec cX0_grey 0 (.aload_n 0) 1 1 := ⟨dX0_grey_0, rfl⟩
theorem dX0_grey_1 : decode cX0_grey 1 = .ok (.iload_n 1, 1) := by decide +kernel
theorem eX0_grey_1 : dec cX0_grey 1 (.iload_n 1) 1 2 := ⟨dX0_grey_1, rfl⟩
theorem dX0_grey_2 : decode cX0_grey 2 = .ok (.iload_n 2, 1) := by decide +kernel
theorem eX0_grey_2 : dec cX0_grey 2 (.iload_n 2) 1 3 := ⟨dX0_grey_2, rfl⟩
theorem dX0_grey_3 : decode cX0_grey 3 = .ok (.invokevirtual 64, 3) := by decide +kernel
theorem eX0_grey_3 : dec cX0_grey 3 (.invokevirtual 64) 3 6 := ⟨dX0_grey_3, rfl⟩
theorem dX0_grey_6 : decode cX0_grey 6 = .ok (.ifCond .ne 13, 3) := by decide +kernel
theorem eX0_grey_6 : dec cX0_grey 6 (.ifCond .ne 13) 3 9 := ⟨dX0_grey_6, rfl⟩
theorem dX0_grey_9 : decode cX0_grey 9 = .ok (.new 68, 3) := by decide +kernel
theorem eX0_grey_9 : dec cX0_grey 9 (.new 68) 3 12 := ⟨dX0_grey_9, rfl⟩
theorem dX0_grey_12 : decode cX0_grey 12 = .ok (.dup, 1) := by decide +kernel
theorem eX0_grey_12 : dec cX0_grey 12 .dup 1 13 := ⟨dX0_grey_12, rfl⟩
theorem dX0_grey_13 : decode cX0_grey 13 = .ok (.ldc 70, 2) := by decide +kernel
theorem eX0_grey_13 : dec cX0_grey 13 (.ldc 70) 2 15 := ⟨dX0_grey_13, rfl⟩
theorem dX0_grey_15 : decode cX0_grey 15 = .ok (.invokespecial 72, 3) := by decide +kernel
theorem eX0_grey_15 : dec cX0_grey 15 (.invokespecial 72) 3 18 := ⟨dX0_grey_15, rfl⟩
theorem dX0_grey_18 : decode cX0_grey 18 = .ok (.athrow, 1) := by decide +kernel
theorem eX0_grey_18 : dec cX0_grey 18 .athrow 1 19 := ⟨dX0_grey_18, rfl⟩
theorem dX0_grey_19 : decode cX0_grey 19 = .ok (.aload_n 0, 1) := by decide +kernel
theorem eX0_grey_19 : dec cX0_grey 19 (.aload_n 0) 1 20 := ⟨dX0_grey_19, rfl⟩
theorem dX0_grey_20 : decode cX0_grey 20 = .ok (.getfield 25, 3) := by decide +kernel
theorem eX0_grey_20 : dec cX0_grey 20 (.getfield 25) 3 23 := ⟨dX0_grey_20, rfl⟩
theorem dX0_grey_23 : decode cX0_grey 23 = .ok (.iload_n 2, 1) := by decide +kernel
theorem eX0_grey_23 : dec cX0_grey 23 (.iload_n 2) 1 24 := ⟨dX0_grey_23, rfl⟩
theorem dX0_grey_24 : decode cX0_grey 24 = .ok (.aload_n 0, 1) := by decide +kernel
theorem eX0_grey_24 : dec cX0_grey 24 (.aload_n 0) 1 25 := ⟨dX0_grey_24, rfl⟩
theorem dX0_grey_25 : decode cX0_grey 25 = .ok (.getfield 18, 3) := by decide +kernel
theorem eX0_grey_25 : dec cX0_grey 25 (.getfield 18) 3 28 := ⟨dX0_grey_25, rfl⟩
theorem dX0_grey_28 : decode cX0_grey 28 = .ok (.imul, 1) := by decide +kernel
theorem eX0_grey_28 : dec cX0_grey 28 .imul 1 29 := ⟨dX0_grey_28, rfl⟩
theorem dX0_grey_29 : decode cX0_grey 29 = .ok (.iload_n 1, 1) := by decide +kernel
theorem eX0_grey_29 : dec cX0_grey 29 (.iload_n 1) 1 30 := ⟨dX0_grey_29, rfl⟩
theorem dX0_grey_30 : decode cX0_grey 30 = .ok (.iadd, 1) := by decide +kernel
theorem eX0_grey_30 : dec cX0_grey 30 .iadd 1 31 := ⟨dX0_grey_30, rfl⟩
theorem dX0_grey_31 : decode cX0_grey 31 = .ok (.baload, 1) := by decide +kernel
theorem eX0_grey_31 : dec cX0_grey 31 .baload 1 32 := ⟨dX0_grey_31, rfl⟩
theorem dX0_grey_32 : decode cX0_grey 32 = .ok (.sipush 255, 3) := by decide +kernel
theorem eX0_grey_32 : dec cX0_grey 32 (.sipush 255) 3 35 := ⟨dX0_grey_32, rfl⟩
theorem dX0_grey_35 : decode cX0_grey 35 = .ok (.iand, 1) := by decide +kernel
theorem eX0_grey_35 : dec cX0_grey 35 .iand 1 36 := ⟨dX0_grey_35, rfl⟩
theorem dX0_grey_36 : decode cX0_grey 36 = .ok (.ireturn, 1) := by decide +kernel
theorem eX0_grey_36 : dec cX0_grey 36 .ireturn 1 37 := ⟨dX0_grey_36, rfl⟩
theorem dX0_isOnSheet_0 : decode cX0_isOnSheet 0 = .ok (.iload_n 1, 1) := by decide +kernel
theorem eX0_isOnSheet_0 : dec cX0_isOnSheet 0 (.iload_n 1) 1 1 := ⟨dX0_isOnSheet_0, rfl⟩
theorem dX0_isOnSheet_1 : decode cX0_isOnSheet 1 = .ok (.ifCond .lt 27, 3) := by decide +kernel
theorem eX0_isOnSheet_1 : dec cX0_isOnSheet 1 (.ifCond .lt 27) 3 4 := ⟨dX0_isOnSheet_1, rfl⟩
theorem dX0_isOnSheet_4 : decode cX0_isOnSheet 4 = .ok (.iload_n 1, 1) := by decide +kernel
theorem eX0_isOnSheet_4 : dec cX0_isOnSheet 4 (.iload_n 1) 1 5 := ⟨dX0_isOnSheet_4, rfl⟩
theorem dX0_isOnSheet_5 : decode cX0_isOnSheet 5 = .ok (.aload_n 0, 1) := by decide +kernel
theorem eX0_isOnSheet_5 : dec cX0_isOnSheet 5 (.aload_n 0) 1 6 := ⟨dX0_isOnSheet_5, rfl⟩
theorem dX0_isOnSheet_6 : decode cX0_isOnSheet 6 = .ok (.getfield 18, 3) := by decide +kernel
theorem eX0_isOnSheet_6 : dec cX0_isOnSheet 6 (.getfield 18) 3 9 := ⟨dX0_isOnSheet_6, rfl⟩
theorem dX0_isOnSheet_9 : decode cX0_isOnSheet 9 = .ok (.if_icmp .ge 19, 3) := by decide +kernel
theorem eX0_isOnSheet_9 : dec cX0_isOnSheet 9 (.if_icmp .ge 19) 3 12 := ⟨dX0_isOnSheet_9, rfl⟩
theorem dX0_isOnSheet_12 : decode cX0_isOnSheet 12 = .ok (.iload_n 2, 1) := by decide +kernel
theorem eX0_isOnSheet_12 : dec cX0_isOnSheet 12 (.iload_n 2) 1 13 := ⟨dX0_isOnSheet_12, rfl⟩
theorem dX0_isOnSheet_13 : decode cX0_isOnSheet 13 = .ok (.ifCond .lt 15, 3) := by decide +kernel
theorem eX0_isOnSheet_13 : dec cX0_isOnSheet 13 (.ifCond .lt 15) 3 16 := ⟨dX0_isOnSheet_13, rfl⟩
theorem dX0_isOnSheet_16 : decode cX0_isOnSheet 16 = .ok (.iload_n 2, 1) := by decide +kernel
theorem eX0_isOnSheet_16 : dec cX0_isOnSheet 16 (.iload_n 2) 1 17 := ⟨dX0_isOnSheet_16, rfl⟩
theorem dX0_isOnSheet_17 : decode cX0_isOnSheet 17 = .ok (.aload_n 0, 1) := by decide +kernel
theorem eX0_isOnSheet_17 : dec cX0_isOnSheet 17 (.aload_n 0) 1 18 := ⟨dX0_isOnSheet_17, rfl⟩
theorem dX0_isOnSheet_18 : decode cX0_isOnSheet 18 = .ok (.getfield 22, 3) := by decide +kernel
theorem eX0_isOnSheet_18 : dec cX0_isOnSheet 18 (.getfield 22) 3 21 := ⟨dX0_isOnSheet_18, rfl⟩
theorem dX0_isOnSheet_21 : decode cX0_isOnSheet 21 = .ok (.if_icmp .ge 7, 3) := by decide +kernel
theorem eX0_isOnSheet_21 : dec cX0_isOnSheet 21 (.if_icmp .ge 7) 3 24 := ⟨dX0_isOnSheet_21, rfl⟩
theorem dX0_isOnSheet_24 : decode cX0_isOnSheet 24 = .ok (.iconst 1, 1) := by decide +kernel
theorem eX0_isOnSheet_24 : dec cX0_isOnSheet 24 (.iconst 1) 1 25 := ⟨dX0_isOnSheet_24, rfl⟩
theorem dX0_isOnSheet_25 : decode cX0_isOnSheet 25 = .ok (.goto 4, 3) := by decide +kernel
theorem eX0_isOnSheet_25 : dec cX0_isOnSheet 25 (.goto 4) 3 28 := ⟨dX0_isOnSheet_25, rfl⟩
theorem dX0_isOnSheet_28 : decode cX0_isOnSheet 28 = .ok (.iconst 0, 1) := by decide +kernel
theorem eX0_isOnSheet_28 : dec cX0_isOnSheet 28 (.iconst 0) 1 29 := ⟨dX0_isOnSheet_28, rfl⟩
theorem dX0_isOnSheet_29 : decode cX0_isOnSheet 29 = .ok (.ireturn, 1) := by decide +kernel
theorem eX0_isOnSheet_29 : dec cX0_isOnSheet 29 .ireturn 1 30 := ⟨dX0_isOnSheet_29, rfl⟩
theorem dX0_takeSpare_0 : decode cX0_takeSpare 0 = .ok (.iconst 0, 1) := by decide +kernel
theorem eX0_takeSpare_0 : dec cX0_takeSpare 0 (.iconst 0) 1 1 := ⟨dX0_takeSpare_0, rfl⟩
theorem dX0_takeSpare_1 : decode cX0_takeSpare 1 = .ok (.istore_n 1, 1) := by decide +kernel
theorem eX0_takeSpare_1 : dec cX0_takeSpare 1 (.istore_n 1) 1 2 := ⟨dX0_takeSpare_1, rfl⟩
theorem dX0_takeSpare_2 : decode cX0_takeSpare 2 = .ok (.iconst 0, 1) := by decide +kernel
theorem eX0_takeSpare_2 : dec cX0_takeSpare 2 (.iconst 0) 1 3 := ⟨dX0_takeSpare_2, rfl⟩
theorem dX0_takeSpare_3 : decode cX0_takeSpare 3 = .ok (.istore_n 2, 1) := by decide +kernel
theorem eX0_takeSpare_3 : dec cX0_takeSpare 3 (.istore_n 2) 1 4 := ⟨dX0_takeSpare_3, rfl⟩
theorem dX0_takeSpare_4 : decode cX0_takeSpare 4 = .ok (.iload_n 2, 1) := by decide +kernel
theorem eX0_takeSpare_4 : dec cX0_takeSpare 4 (.iload_n 2) 1 5 := ⟨dX0_takeSpare_4, rfl⟩
theorem dX0_takeSpare_5 : decode cX0_takeSpare 5 = .ok (.aload_n 0, 1) := by decide +kernel
theorem eX0_takeSpare_5 : dec cX0_takeSpare 5 (.aload_n 0) 1 6 := ⟨dX0_takeSpare_5, rfl⟩
theorem dX0_takeSpare_6 : decode cX0_takeSpare 6 = .ok (.getfield 25, 3) := by decide +kernel
theorem eX0_takeSpare_6 : dec cX0_takeSpare 6 (.getfield 25) 3 9 := ⟨dX0_takeSpare_6, rfl⟩
theorem dX0_takeSpare_9 : decode cX0_takeSpare 9 = .ok (.arraylength, 1) := by decide +kernel
theorem eX0_takeSpare_9 : dec cX0_takeSpare 9 .arraylength 1 10 := ⟨dX0_takeSpare_9, rfl⟩
theorem dX0_takeSpare_10 : decode cX0_takeSpare 10 = .ok (.if_icmp .ge 27, 3) := by decide +kernel
theorem eX0_takeSpare_10 : dec cX0_takeSpare 10 (.if_icmp .ge 27) 3 13 := ⟨dX0_takeSpare_10, rfl⟩
theorem dX0_takeSpare_13 : decode cX0_takeSpare 13 = .ok (.aload_n 0, 1) := by decide +kernel
theorem eX0_takeSpare_13 : dec cX0_takeSpare 13 (.aload_n 0) 1 14 := ⟨dX0_takeSpare_13, rfl⟩
theorem dX0_takeSpare_14 : decode cX0_takeSpare 14 = .ok (.getfield 25, 3) := by decide +kernel
theorem eX0_takeSpare_14 : dec cX0_takeSpare 14 (.getfield 25) 3 17 := ⟨dX0_takeSpare_14, rfl⟩
theorem dX0_takeSpare_17 : decode cX0_takeSpare 17 = .ok (.iload_n 2, 1) := by decide +kernel
theorem eX0_takeSpare_17 : dec cX0_takeSpare 17 (.iload_n 2) 1 18 := ⟨dX0_takeSpare_17, rfl⟩
theorem dX0_takeSpare_18 : decode cX0_takeSpare 18 = .ok (.baload, 1) := by decide +kernel
theorem eX0_takeSpare_18 : dec cX0_takeSpare 18 .baload 1 19 := ⟨dX0_takeSpare_18, rfl⟩
theorem dX0_takeSpare_19 : decode cX0_takeSpare 19 = .ok (.aload_n 0, 1) := by decide +kernel
theorem eX0_takeSpare_19 : dec cX0_takeSpare 19 (.aload_n 0) 1 20 := ⟨dX0_takeSpare_19, rfl⟩
theorem dX0_takeSpare_20 : decode cX0_takeSpare 20 = .ok (.getfield 29, 3) := by decide +kernel
theorem eX0_takeSpare_20 : dec cX0_takeSpare 20 (.getfield 29) 3 23 := ⟨dX0_takeSpare_20, rfl⟩
theorem dX0_takeSpare_23 : decode cX0_takeSpare 23 = .ok (.iload_n 2, 1) := by decide +kernel
theorem eX0_takeSpare_23 : dec cX0_takeSpare 23 (.iload_n 2) 1 24 := ⟨dX0_takeSpare_23, rfl⟩
theorem dX0_takeSpare_24 : decode cX0_takeSpare 24 = .ok (.baload, 1) := by decide +kernel
theorem eX0_takeSpare_24 : dec cX0_takeSpare 24 .baload 1 25 := ⟨dX0_takeSpare_24, rfl⟩
theorem dX0_takeSpare_25 : decode cX0_takeSpare 25 = .ok (.if_icmp .eq 6, 3) := by decide +kernel
theorem eX0_takeSpare_25 : dec cX0_takeSpare 25 (.if_icmp .eq 6) 3 28 := ⟨dX0_takeSpare_25, rfl⟩
theorem dX0_takeSpare_28 : decode cX0_takeSpare 28 = .ok (.iinc 1 1, 3) := by decide +kernel
theorem eX0_takeSpare_28 : dec cX0_takeSpare 28 (.iinc 1 1) 3 31 := ⟨dX0_takeSpare_28, rfl⟩
theorem dX0_takeSpare_31 : decode cX0_takeSpare 31 = .ok (.iinc 2 1, 3) := by decide +kernel
theorem eX0_takeSpare_31 : dec cX0_takeSpare 31 (.iinc 2 1) 3 34 := ⟨dX0_takeSpare_31, rfl⟩
theorem dX0_takeSpare_34 : decode cX0_takeSpare 34 = .ok (.goto (-30), 3) := by decide +kernel
theorem eX0_takeSpare_34 : dec cX0_takeSpare 34 (.goto (-30)) 3 37 := ⟨dX0_takeSpare_34, rfl⟩
theorem dX0_takeSpare_37 : decode cX0_takeSpare 37 = .ok (.aload_n 0, 1) := by decide +kernel
theorem eX0_takeSpare_37 : dec cX0_takeSpare 37 (.aload_n 0) 1 38 := ⟨dX0_takeSpare_37, rfl⟩
theorem dX0_takeSpare_38 : decode cX0_takeSpare 38 = .ok (.getfield 25, 3) := by decide +kernel
theorem eX0_takeSpare_38 : dec cX0_takeSpare 38 (.getfield 25) 3 41 := ⟨dX0_takeSpare_38, rfl⟩
theorem dX0_takeSpare_41 : decode cX0_takeSpare 41 = .ok (.astore_n 2, 1) := by decide +kernel
theorem eX0_takeSpare_41 : dec cX0_takeSpare 41 (.astore_n 2) 1 42 := ⟨dX0_takeSpare_41, rfl⟩
theorem dX0_takeSpare_42 : decode cX0_takeSpare 42 = .ok (.aload_n 0, 1) := by decide +kernel
theorem eX0_takeSpare_42 : dec cX0_takeSpare 42 (.aload_n 0) 1 43 := ⟨dX0_takeSpare_42, rfl⟩
theorem dX0_takeSpare_43 : decode cX0_takeSpare 43 = .ok (.aload_n 0, 1) := by decide +kernel
theorem eX0_takeSpare_43 : dec cX0_takeSpare 43 (.aload_n 0) 1 44 := ⟨dX0_takeSpare_43, rfl⟩
theorem dX0_takeSpare_44 : decode cX0_takeSpare 44 = .ok (.getfield 29, 3) := by decide +kernel
theorem eX0_takeSpare_44 : dec cX0_takeSpare 44 (.getfield 29) 3 47 := ⟨dX0_takeSpare_44, rfl⟩
theorem dX0_takeSpare_47 : decode cX0_takeSpare 47 = .ok (.putfield 25, 3) := by decide +kernel
theorem eX0_takeSpare_47 : dec cX0_takeSpare 47 (.putfield 25) 3 50 := ⟨dX0_takeSpare_47, rfl⟩
theorem dX0_takeSpare_50 : decode cX0_takeSpare 50 = .ok (.aload_n 0, 1) := by decide +kernel
theorem eX0_takeSpare_50 : dec cX0_takeSpare 50 (.aload_n 0) 1 51 := ⟨dX0_takeSpare_50, rfl⟩
theorem dX0_takeSpare_51 : decode cX0_takeSpare 51 = .ok (.aload_n 2, 1) := by decide +kernel
theorem eX0_takeSpare_51 : dec cX0_takeSpare 51 (.aload_n 2) 1 52 := ⟨dX0_takeSpare_51, rfl⟩
theorem dX0_takeSpare_52 : decode cX0_takeSpare 52 = .ok (.putfield 29, 3) := by decide +kernel
theorem eX0_takeSpare_52 : dec cX0_takeSpare 52 (.putfield 29) 3 55 := ⟨dX0_takeSpare_52, rfl⟩
theorem dX0_takeSpare_55 : decode cX0_takeSpare 55 = .ok (.iload_n 1, 1) := by decide +kernel
theorem eX0_takeSpare_55 : dec cX0_takeSpare 55 (.iload_n 1) 1 56 := ⟨dX0_takeSpare_55, rfl⟩
theorem dX0_takeSpare_56 : decode cX0_takeSpare 56 = .ok (.ireturn, 1) := by decide +kernel
theorem eX0_takeSpare_56 : dec cX0_takeSpare 56 .ireturn 1 57 := ⟨dX0_takeSpare_56, rfl⟩
set_option maxRecDepth 20000 in
theorem ggX0_tallyGreys_J7_fill_53178 : GoodIn wsX0_tallyGreys wsJ7_fill_53178 := goodIn_r _ [7] (by decide +kernel) (by decide +kernel)
set_option maxRecDepth 20000 in
theorem gX0_tallyGreys_J7_fill_53178 : GoodIn wsX0_tallyGreys (va_wsS RX0 142 yJ7_fill_53178 wsJ7_fill_53178) := goodIn_app (goodIn_of _ (by decide +kernel)) ggX0_tallyGreys_J7_fill_53178
theorem dX0_tallyGreys_0 : decode cX0_tallyGreys 0 = .ok (.aload_n 0, 1) := by decide +kernel
theorem eX0_tallyGreys_0 : dec cX0_tallyGreys 0 (.aload_n 0) 1 1 := ⟨dX0_tallyGreys_0, rfl⟩
theorem dX0_tallyGreys_1 : decode cX0_tallyGreys 1 = .ok (.getfield 32, 3) := by decide +kernel
theorem eX0_tallyGreys_1 : dec cX0_tallyGreys 1 (.getfield 32) 3 4 := ⟨dX0_tallyGreys_1, rfl⟩
theorem dX0_tallyGreys_4 : decode cX0_tallyGreys 4 = .ok (.iconst 0, 1) := by decide +kernel
theorem eX0_tallyGreys_4 : dec cX0_tallyGreys 4 (.iconst 0) 1 5 := ⟨dX0_tallyGreys_4, rfl⟩
theorem dX0_tallyGreys_5 : decode cX0_tallyGreys 5 = .ok (.invokestatic 142, 3) := by decide +kernel
theorem eX0_tallyGreys_5 : dec cX0_tallyGreys 5 (.invokestatic 142) 3 8 := ⟨dX0_tallyGreys_5, rfl⟩
theorem dX0_tallyGreys_8 : decode cX0_tallyGreys 8 = .ok (.iconst 0, 1) := by decide +kernel
theorem eX0_tallyGreys_8 : dec cX0_tallyGreys 8 (.iconst 0) 1 9 := ⟨dX0_tallyGreys_8, rfl⟩
theorem dX0_tallyGreys_9 : decode cX0_tallyGreys 9 = .ok (.istore_n 1, 1) := by decide +kernel
theorem eX0_tallyGreys_9 : dec cX0_tallyGreys 9 (.istore_n 1) 1 10 := ⟨dX0_tallyGreys_9, rfl⟩
theorem dX0_tallyGreys_10 : decode cX0_tallyGreys 10 = .ok (.iload_n 1, 1) := by decide +kernel
theorem eX0_tallyGreys_10 : dec cX0_tallyGreys 10 (.iload_n 1) 1 11 := ⟨dX0_tallyGreys_10, rfl⟩
theorem dX0_tallyGreys_11 : decode cX0_tallyGreys 11 = .ok (.aload_n 0, 1) := by decide +kernel
theorem eX0_tallyGreys_11 : dec cX0_tallyGreys 11 (.aload_n 0) 1 12 := ⟨dX0_tallyGreys_11, rfl⟩
theorem dX0_tallyGreys_12 : decode cX0_tallyGreys 12 = .ok (.getfield 25, 3) := by decide +kernel
theorem eX0_tallyGreys_12 : dec cX0_tallyGreys 12 (.getfield 25) 3 15 := ⟨dX0_tallyGreys_12, rfl⟩
theorem dX0_tallyGreys_15 : decode cX0_tallyGreys 15 = .ok (.arraylength, 1) := by decide +kernel
theorem eX0_tallyGreys_15 : dec cX0_tallyGreys 15 .arraylength 1 16 := ⟨dX0_tallyGreys_15, rfl⟩
theorem dX0_tallyGreys_16 : decode cX0_tallyGreys 16 = .ok (.if_icmp .ge 30, 3) := by decide +kernel
theorem eX0_tallyGreys_16 : dec cX0_tallyGreys 16 (.if_icmp .ge 30) 3 19 := ⟨dX0_tallyGreys_16, rfl⟩
theorem dX0_tallyGreys_19 : decode cX0_tallyGreys 19 = .ok (.aload_n 0, 1) := by decide +kernel
theorem eX0_tallyGreys_19 : dec cX0_tallyGreys 19 (.aload_n 0) 1 20 := ⟨dX0_tallyGreys_19, rfl⟩
theorem dX0_tallyGreys_20 : decode cX0_tallyGreys 20 = .ok (.getfield 32, 3) := by decide +kernel
theorem eX0_tallyGreys_20 : dec cX0_tallyGreys 20 (.getfield 32) 3 23 := ⟨dX0_tallyGreys_20, rfl⟩
theorem dX0_tallyGreys_23 : decode cX0_tallyGreys 23 = .ok (.aload_n 0, 1) := by decide +kernel
theorem eX0_tallyGreys_23 : dec cX0_tallyGreys 23 (.aload_n 0) 1 24 := ⟨dX0_tallyGreys_23, rfl⟩
theorem dX0_tallyGreys_24 : decode cX0_tallyGreys 24 = .ok (.getfield 25, 3) := by decide +kernel
theorem eX0_tallyGreys_24 : dec cX0_tallyGreys 24 (.getfield 25) 3 27 := ⟨dX0_tallyGreys_24, rfl⟩
theorem dX0_tallyGreys_27 : decode cX0_tallyGreys 27 = .ok (.iload_n 1, 1) := by decide +kernel
theorem eX0_tallyGreys_27 : dec cX0_tallyGreys 27 (.iload_n 1) 1 28 := ⟨dX0_tallyGreys_27, rfl⟩
theorem dX0_tallyGreys_28 : decode cX0_tallyGreys 28 = .ok (.baload, 1) := by decide +kernel
theorem eX0_tallyGreys_28 : dec cX0_tallyGreys 28 .baload 1 29 := ⟨dX0_tallyGreys_28, rfl⟩
theorem dX0_tallyGreys_29 : decode cX0_tallyGreys 29 = .ok (.sipush 255, 3) := by decide +kernel
theorem eX0_tallyGreys_29 : dec cX0_tallyGreys 29 (.sipush 255) 3 32 := ⟨dX0_tallyGreys_29, rfl⟩
theorem dX0_tallyGreys_32 : decode cX0_tallyGreys 32 = .ok (.iand, 1) := by decide +kernel
theorem eX0_tallyGreys_32 : dec cX0_tallyGreys 32 .iand 1 33 := ⟨dX0_tallyGreys_32, rfl⟩
theorem dX0_tallyGreys_33 : decode cX0_tallyGreys 33 = .ok (.iconst 1, 1) := by decide +kernel
theorem eX0_tallyGreys_33 : dec cX0_tallyGreys 33 (.iconst 1) 1 34 := ⟨dX0_tallyGreys_33, rfl⟩
theorem dX0_tallyGreys_34 : decode cX0_tallyGreys 34 = .ok (.iadd, 1) := by decide +kernel
theorem eX0_tallyGreys_34 : dec cX0_tallyGreys 34 .iadd 1 35 := ⟨dX0_tallyGreys_34, rfl⟩
theorem dX0_tallyGreys_35 : decode cX0_tallyGreys 35 = .ok (.dup2, 1) := by decide +kernel
theorem eX0_tallyGreys_35 : dec cX0_tallyGreys 35 .dup2 1 36 := ⟨dX0_tallyGreys_35, rfl⟩
theorem dX0_tallyGreys_36 : decode cX0_tallyGreys 36 = .ok (.iaload, 1) := by decide +kernel
theorem eX0_tallyGreys_36 : dec cX0_tallyGreys 36 .iaload 1 37 := ⟨dX0_tallyGreys_36, rfl⟩
theorem dX0_tallyGreys_37 : decode cX0_tallyGreys 37 = .ok (.iconst 1, 1) := by decide +kernel
theorem eX0_tallyGreys_37 : dec cX0_tallyGreys 37 (.iconst 1) 1 38 := ⟨dX0_tallyGreys_37, rfl⟩
theorem dX0_tallyGreys_38 : decode cX0_tallyGreys 38 = .ok (.iadd, 1) := by decide +kernel
theorem eX0_tallyGreys_38 : dec cX0_tallyGreys 38 .iadd 1 39 := ⟨dX0_tallyGreys_38, rfl⟩
theorem dX0_tallyGreys_39 : decode cX0_tallyGreys 39 = .ok (.iastore, 1) := by decide +kernel
theorem eX0_tallyGreys_39 : dec cX0_tallyGreys 39 .iastore 1 40 := ⟨dX0_tallyGreys_39, rfl⟩
theorem dX0_tallyGreys_40 : decode cX0_tallyGreys 40 = .ok (.iinc 1 1, 3) := by decide +kernel
theorem eX0_tallyGreys_40 : dec cX0_tallyGreys 40 (.iinc 1 1) 3 43 := ⟨dX0_tallyGreys_40, rfl⟩
theorem dX0_tallyGreys_43 : decode cX0_tallyGreys 43 = .ok (.goto (-33), 3) := by decide +kernel
theorem eX0_tallyGreys_43 : dec cX0_tallyGreys 43 (.goto (-33)) 3 46 := ⟨dX0_tallyGreys_43, rfl⟩
theorem dX0_tallyGreys_46 : decode cX0_tallyGreys 46 = .ok (.aload_n 0, 1) := by decide +kernel
theorem eX0_tallyGreys_46 : dec cX0_tallyGreys 46 (.aload_n 0) 1 47 := ⟨dX0_tallyGreys_46, rfl⟩
theorem dX0_tallyGreys_47 : decode cX0_tallyGreys 47 = .ok (.getfield 36, 3) := by decide +kernel
theorem eX0_tallyGreys_47 : dec cX0_tallyGreys 47 (.getfield 36) 3 50 := ⟨dX0_tallyGreys_47, rfl⟩
theorem dX0_tallyGreys_50 : decode cX0_tallyGreys 50 = .ok (.iconst 0, 1) := by decide +kernel
theorem eX0_tallyGreys_50 : dec cX0_tallyGreys 50 (.iconst 0) 1 51 := ⟨dX0_tallyGreys_50, rfl⟩
theorem dX0_tallyGreys_51 : decode cX0_tallyGreys 51 = .ok (.iconst 0, 1) := by decide +kernel
theorem eX0_tallyGreys_51 : dec cX0_tallyGreys 51 (.iconst 0) 1 52 := ⟨dX0_tallyGreys_51, rfl⟩
theorem dX0_tallyGreys_52 : decode cX0_tallyGreys 52 = .ok (.iastore, 1) := by decide +kernel
theorem eX0_tallyGreys_52 : dec cX0_tallyGreys 52 .iastore 1 53 := ⟨dX0_tallyGreys_52, rfl⟩
theorem dX0_tallyGreys_53 : decode cX0_tallyGreys 53 = .ok (.iconst 1, 1) := by decide +kernel
theorem eX0_tallyGreys_53 : dec cX0_tallyGreys 53 (.iconst 1) 1 54 := ⟨dX0_tallyGreys_53, rfl⟩
theorem dX0_tallyGreys_54 : decode cX0_tallyGreys 54 = .ok (.istore_n 1, 1) := by decide +kernel
theorem eX0_tallyGreys_54 : dec cX0_tallyGreys 54 (.istore_n 1) 1 55 := ⟨dX0_tallyGreys_54, rfl⟩
theorem dX0_tallyGreys_55 : decode cX0_tallyGreys 55 = .ok (.iload_n 1, 1) := by decide +kernel
theorem eX0_tallyGreys_55 : dec cX0_tallyGreys 55 (.iload_n 1) 1 56 := ⟨dX0_tallyGreys_55, rfl⟩
theorem dX0_tallyGreys_56 : decode cX0_tallyGreys 56 = .ok (.sipush 256, 3) := by decide +kernel
theorem eX0_tallyGreys_56 : dec cX0_tallyGreys 56 (.sipush 256) 3 59 := ⟨dX0_tallyGreys_56, rfl⟩
theorem dX0_tallyGreys_59 : decode cX0_tallyGreys 59 = .ok (.if_icmp .gt 51, 3) := by decide +kernel
theorem eX0_tallyGreys_59 : dec cX0_tallyGreys 59 (.if_icmp .gt 51) 3 62 := ⟨dX0_tallyGreys_59, rfl⟩
theorem dX0_tallyGreys_62 : decode cX0_tallyGreys 62 = .ok (.aload_n 0, 1) := by decide +kernel
theorem eX0_tallyGreys_62 : dec cX0_tallyGreys 62 (.aload_n 0) 1 63 := ⟨dX0_tallyGreys_62, rfl⟩
theorem dX0_tallyGreys_63 : decode cX0_tallyGreys 63 = .ok (.getfield 36, 3) := by decide +kernel
theorem eX0_tallyGreys_63 : dec cX0_tallyGreys 63 (.getfield 36) 3 66 := ⟨dX0_tallyGreys_63, rfl⟩
theorem dX0_tallyGreys_66 : decode cX0_tallyGreys 66 = .ok (.iload_n 1, 1) := by decide +kernel
theorem eX0_tallyGreys_66 : dec cX0_tallyGreys 66 (.iload_n 1) 1 67 := ⟨dX0_tallyGreys_66, rfl⟩
theorem dX0_tallyGreys_67 : decode cX0_tallyGreys 67 = .ok (.aload_n 0, 1) := by decide +kernel
theorem eX0_tallyGreys_67 : dec cX0_tallyGreys 67 (.aload_n 0) 1 68 := ⟨dX0_tallyGreys_67, rfl⟩
theorem dX0_tallyGreys_68 : decode cX0_tallyGreys 68 = .ok (.getfield 36, 3) := by decide +kernel
theorem eX0_tallyGreys_68 : dec cX0_tallyGreys 68 (.getfield 36) 3 71 := ⟨dX0_tallyGreys_68, rfl⟩
theorem dX0_tallyGreys_71 : decode cX0_tallyGreys 71 = .ok (.iload_n 1, 1) := by decide +kernel
theorem eX0_tallyGreys_71 : dec cX0_tallyGreys 71 (.iload_n 1) 1 72 := ⟨dX0_tallyGreys_71, rfl⟩
theorem dX0_tallyGreys_72 : decode cX0_tallyGreys 72 = .ok (.iconst 1, 1) := by decide +kernel
theorem eX0_tallyGreys_72 : dec cX0_tallyGreys 72 (.iconst 1) 1 73 := ⟨dX0_tallyGreys_72, rfl⟩
theorem dX0_tallyGreys_73 : decode cX0_tallyGreys 73 = .ok (.isub, 1) := by decide +kernel
theorem eX0_tallyGreys_73 : dec cX0_tallyGreys 73 .isub 1 74 := ⟨dX0_tallyGreys_73, rfl⟩
theorem dX0_tallyGreys_74 : decode cX0_tallyGreys 74 = .ok (.iaload, 1) := by decide +kernel
theorem eX0_tallyGreys_74 : dec cX0_tallyGreys 74 .iaload 1 75 := ⟨dX0_tallyGreys_74, rfl⟩
theorem dX0_tallyGreys_75 : decode cX0_tallyGreys 75 = .ok (.aload_n 0, 1) := by decide +kernel
theorem eX0_tallyGreys_75 : dec cX0_tallyGreys 75 (.aload_n 0) 1 76 := ⟨dX0_tallyGreys_75, rfl⟩
theorem dX0_tallyGreys_76 : decode cX0_tallyGreys 76 = .ok (.getfield 32, 3) := by decide +kernel
theorem eX0_tallyGreys_76 : dec cX0_tallyGreys 76 (.getfield 32) 3 79 := ⟨dX0_tallyGreys_76, rfl⟩
theorem dX0_tallyGreys_79 : decode cX0_tallyGreys 79 = .ok (.iload_n 1, 1) := by decide +kernel
theorem eX0_tallyGreys_79 : dec cX0_tallyGreys 79 (.iload_n 1) 1 80 := ⟨dX0_tallyGreys_79, rfl⟩
theorem dX0_tallyGreys_80 : decode cX0_tallyGreys 80 = .ok (.iaload, 1) := by decide +kernel
theorem eX0_tallyGreys_80 : dec cX0_tallyGreys 80 .iaload 1 81 := ⟨dX0_tallyGreys_80, rfl⟩
theorem dX0_tallyGreys_81 : decode cX0_tallyGreys 81 = .ok (.iload_n 1, 1) := by decide +kernel
theorem eX0_tallyGreys_81 : dec cX0_tallyGreys 81 (.iload_n 1) 1 82 := ⟨dX0_tallyGreys_81, rfl⟩
theorem dX0_tallyGreys_82 : decode cX0_tallyGreys 82 = .ok (.iconst 1, 1) := by decide +kernel
theorem eX0_tallyGreys_82 : dec cX0_tallyGreys 82 (.iconst 1) 1 83 := ⟨dX0_tallyGreys_82, rfl⟩
theorem dX0_tallyGreys_83 : decode cX0_tallyGreys 83 = .ok (.isub, 1) := by decide +kernel
theorem eX0_tallyGreys_83 : dec cX0_tallyGreys 83 .isub 1 84 := ⟨dX0_tallyGreys_83, rfl⟩
theorem dX0_tallyGreys_84 : decode cX0_tallyGreys 84 = .ok (.imul, 1) := by decide +kernel
theorem eX0_tallyGreys_84 : dec cX0_tallyGreys 84 .imul 1 85 := ⟨dX0_tallyGreys_84, rfl⟩
theorem dX0_tallyGreys_85 : decode cX0_tallyGreys 85 = .ok (.iadd, 1) := by decide +kernel
theorem eX0_tallyGreys_85 : dec cX0_tallyGreys 85 .iadd 1 86 := ⟨dX0_tallyGreys_85, rfl⟩
theorem dX0_tallyGreys_86 : decode cX0_tallyGreys 86 = .ok (.iastore, 1) := by decide +kernel
theorem eX0_tallyGreys_86 : dec cX0_tallyGreys 86 .iastore 1 87 := ⟨dX0_tallyGreys_86, rfl⟩
theorem dX0_tallyGreys_87 : decode cX0_tallyGreys 87 = .ok (.aload_n 0, 1) := by decide +kernel
theorem eX0_tallyGreys_87 : dec cX0_tallyGreys 87 (.aload_n 0) 1 88 := ⟨dX0_tallyGreys_87, rfl⟩
theorem dX0_tallyGreys_88 : decode cX0_tallyGreys 88 = .ok (.getfield 32, 3) := by decide +kernel
theorem eX0_tallyGreys_88 : dec cX0_tallyGreys 88 (.getfield 32) 3 91 := ⟨dX0_tallyGreys_88, rfl⟩
theorem dX0_tallyGreys_91 : decode cX0_tallyGreys 91 = .ok (.iload_n 1, 1) := by decide +kernel
theorem eX0_tallyGreys_91 : dec cX0_tallyGreys 91 (.iload_n 1) 1 92 := ⟨dX0_tallyGreys_91, rfl⟩
theorem dX0_tallyGreys_92 : decode cX0_tallyGreys 92 = .ok (.dup2, 1) := by decide +kernel
theorem eX0_tallyGreys_92 : dec cX0_tallyGreys 92 .dup2 1 93 := ⟨dX0_tallyGreys_92, rfl⟩
theorem dX0_tallyGreys_93 : decode cX0_tallyGreys 93 = .ok (.iaload, 1) := by decide +kernel
theorem eX0_tallyGreys_93 : dec cX0_tallyGreys 93 .iaload 1 94 := ⟨dX0_tallyGreys_93, rfl⟩
theorem dX0_tallyGreys_94 : decode cX0_tallyGreys 94 = .ok (.aload_n 0, 1) := by decide +kernel
theorem eX0_tallyGreys_94 : dec cX0_tallyGreys 94 (.aload_n 0) 1 95 := ⟨dX0_tallyGreys_94, rfl⟩
theorem dX0_tallyGreys_95 : decode cX0_tallyGreys 95 = .ok (.getfield 32, 3) := by decide +kernel
theorem eX0_tallyGreys_95 : dec cX0_tallyGreys 95 (.getfield 32) 3 98 := ⟨dX0_tallyGreys_95, rfl⟩
theorem dX0_tallyGreys_98 : decode cX0_tallyGreys 98 = .ok (.iload_n 1, 1) := by decide +kernel
theorem eX0_tallyGreys_98 : dec cX0_tallyGreys 98 (.iload_n 1) 1 99 := ⟨dX0_tallyGreys_98, rfl⟩
theorem dX0_tallyGreys_99 : decode cX0_tallyGreys 99 = .ok (.iconst 1, 1) := by decide +kernel
theorem eX0_tallyGreys_99 : dec cX0_tallyGreys 99 (.iconst 1) 1 100 := ⟨dX0_tallyGreys_99, rfl⟩
theorem dX0_tallyGreys_100 : decode cX0_tallyGreys 100 = .ok (.isub, 1) := by decide +kernel
theorem eX0_tallyGreys_100 : dec cX0_tallyGreys 100 .isub 1 101 := ⟨dX0_tallyGreys_100, rfl⟩
theorem dX0_tallyGreys_101 : decode cX0_tallyGreys 101 = .ok (.iaload, 1) := by decide +kernel
theorem eX0_tallyGreys_101 : dec cX0_tallyGreys 101 .iaload 1 102 := ⟨dX0_tallyGreys_101, rfl⟩
theorem dX0_tallyGreys_102 : decode cX0_tallyGreys 102 = .ok (.iadd, 1) := by decide +kernel
theorem eX0_tallyGreys_102 : dec cX0_tallyGreys 102 .iadd 1 103 := ⟨dX0_tallyGreys_102, rfl⟩
theorem dX0_tallyGreys_103 : decode cX0_tallyGreys 103 = .ok (.iastore, 1) := by decide +kernel
theorem eX0_tallyGreys_103 : dec cX0_tallyGreys 103 .iastore 1 104 := ⟨dX0_tallyGreys_103, rfl⟩
theorem dX0_tallyGreys_104 : decode cX0_tallyGreys 104 = .ok (.iinc 1 1, 3) := by decide +kernel
theorem eX0_tallyGreys_104 : dec cX0_tallyGreys 104 (.iinc 1 1) 3 107 := ⟨dX0_tallyGreys_104, rfl⟩
theorem dX0_tallyGreys_107 : decode cX0_tallyGreys 107 = .ok (.goto (-52), 3) := by decide +kernel
theorem eX0_tallyGreys_107 : dec cX0_tallyGreys 107 (.goto (-52)) 3 110 := ⟨dX0_tallyGreys_107, rfl⟩
theorem dX0_tallyGreys_110 : decode cX0_tallyGreys 110 = .ok (.return_, 1) := by decide +kernel
theorem eX0_tallyGreys_110 : dec cX0_tallyGreys 110 .return_ 1 111 := ⟨dX0_tallyGreys_110, rfl⟩
set_option maxRecDepth 20000 in
theorem ggX0_spreadAt_X0_spreadOfLot : GoodIn wsX0_spreadAt wsX0_spreadOfLot := goodIn_r _ [5, 6, 7, 8, 9, 10, 11, 12, 13, 14, 15, 16, 17, 18, 19, 20, 21, 22, 23] (by decide +kernel) (by decide +kernel)
set_option maxRecDepth 20000 in
theorem gX0_spreadAt_X0_spreadOfLot : GoodIn wsX0_spreadAt (wsV RX0 145 RX0 yX0_spreadOfLot wsX0_spreadOfLot) := goodIn_app (goodIn_of _ (by decide +kernel)) ggX0_spreadAt_X0_spreadOfLot
theorem dX0_spreadAt_0 : decode cX0_spreadAt 0 = .ok (.aload_n 0, 1) := by decide +kernel
theorem eX0_spreadAt_0 : dec cX0_spreadAt 0 (.aload_n 0) 1 1 := ⟨dX0_spreadAt_0, rfl⟩
theorem dX0_spreadAt_1 : decode cX0_spreadAt 1 = .ok (.iconst 0, 1) := by decide +kernel
theorem eX0_spreadAt_1 : dec cX0_spreadAt 1 (.iconst 0) 1 2 := ⟨dX0_spreadAt_1, rfl⟩
theorem dX0_spreadAt_2 : decode cX0_spreadAt 2 = .ok (.iload_n 1, 1) := by decide +kernel
theorem eX0_spreadAt_2 : dec cX0_spreadAt 2 (.iload_n 1) 1 3 := ⟨dX0_spreadAt_2, rfl⟩
theorem dX0_spreadAt_3 : decode cX0_spreadAt 3 = .ok (.iconst 1, 1) := by decide +kernel
theorem eX0_spreadAt_3 : dec cX0_spreadAt 3 (.iconst 1) 1 4 := ⟨dX0_spreadAt_3, rfl⟩
theorem dX0_spreadAt_4 : decode cX0_spreadAt 4 = .ok (.iadd, 1) := by decide +kernel
theorem eX0_spreadAt_4 : dec cX0_spreadAt 4 .iadd 1 5 := ⟨dX0_spreadAt_4, rfl⟩
theorem dX0_spreadAt_5 : decode cX0_spreadAt 5 = .ok (.invokevirtual 145, 3) := by decide +kernel
theorem eX0_spreadAt_5 : dec cX0_spreadAt 5 (.invokevirtual 145) 3 8 := ⟨dX0_spreadAt_5, rfl⟩
theorem dX0_spreadAt_8 : decode cX0_spreadAt 8 = .ok (.aload_n 0, 1) := by decide +kernel
theorem eX0_spreadAt_8 : dec cX0_spreadAt 8 (.aload_n 0) 1 9 := ⟨dX0_spreadAt_8, rfl⟩
theorem dX0_spreadAt_9 : decode cX0_spreadAt 9 = .ok (.iload_n 1, 1) := by decide +kernel
theorem eX0_spreadAt_9 : dec cX0_spreadAt 9 (.iload_n 1) 1 10 := ⟨dX0_spreadAt_9, rfl⟩
theorem dX0_spreadAt_10 : decode cX0_spreadAt 10 = .ok (.iconst 1, 1) := by decide +kernel
theorem eX0_spreadAt_10 : dec cX0_spreadAt 10 (.iconst 1) 1 11 := ⟨dX0_spreadAt_10, rfl⟩
theorem dX0_spreadAt_11 : decode cX0_spreadAt 11 = .ok (.iadd, 1) := by decide +kernel
theorem eX0_spreadAt_11 : dec cX0_spreadAt 11 .iadd 1 12 := ⟨dX0_spreadAt_11, rfl⟩
theorem dX0_spreadAt_12 : decode cX0_spreadAt 12 = .ok (.sipush 256, 3) := by decide +kernel
theorem eX0_spreadAt_12 : dec cX0_spreadAt 12 (.sipush 256) 3 15 := ⟨dX0_spreadAt_12, rfl⟩
theorem dX0_spreadAt_15 : decode cX0_spreadAt 15 = .ok (.invokevirtual 145, 3) := by decide +kernel
theorem eX0_spreadAt_15 : dec cX0_spreadAt 15 (.invokevirtual 145) 3 18 := ⟨dX0_spreadAt_15, rfl⟩
theorem dX0_spreadAt_18 : decode cX0_spreadAt 18 = .ok (.iadd, 1) := by decide +kernel
theorem eX0_spreadAt_18 : dec cX0_spreadAt 18 .iadd 1 19 := ⟨dX0_spreadAt_18, rfl⟩
theorem dX0_spreadAt_19 : decode cX0_spreadAt 19 = .ok (.ireturn, 1) := by decide +kernel
theorem eX0_spreadAt_19 : dec cX0_spreadAt 19 .ireturn 1 20 := ⟨dX0_spreadAt_19, rfl⟩
theorem dX0_spreadOfLot_0 : decode cX0_spreadOfLot 0 = .ok (.aload_n 0, 1) := by decide +kernel
theorem eX0_spreadOfLot_0 : dec cX0_spreadOfLot 0 (.aload_n 0) 1 1 := ⟨dX0_spreadOfLot_0, rfl⟩
theorem dX0_spreadOfLot_1 : decode cX0_spreadOfLot 1 = .ok (.getfield 32, 3) := by decide +kernel
theorem eX0_spreadOfLot_1 : dec cX0_spreadOfLot 1 (.getfield 32) 3 4 := ⟨dX0_spreadOfLot_1, rfl⟩
theorem dX0_spreadOfLot_4 : decode cX0_spreadOfLot 4 = .ok (.iload_n 2, 1) := by decide +kernel
theorem eX0_spreadOfLot_4 : dec cX0_spreadOfLot 4 (.iload_n 2) 1 5 := ⟨dX0_spreadOfLot_4, rfl⟩
theorem dX0_spreadOfLot_5 : decode cX0_spreadOfLot 5 = .ok (.iaload, 1) := by decide +kernel
theorem eX0_spreadOfLot_5 : dec cX0_spreadOfLot 5 .iaload 1 6 := ⟨dX0_spreadOfLot_5, rfl⟩
theorem dX0_spreadOfLot_6 : decode cX0_spreadOfLot 6 = .ok (.aload_n 0, 1) := by decide +kernel
theorem eX0_spreadOfLot_6 : dec cX0_spreadOfLot 6 (.aload_n 0) 1 7 := ⟨dX0_spreadOfLot_6, rfl⟩
theorem dX0_spreadOfLot_7 : decode cX0_spreadOfLot 7 = .ok (.getfield 32, 3) := by decide +kernel
theorem eX0_spreadOfLot_7 : dec cX0_spreadOfLot 7 (.getfield 32) 3 10 := ⟨dX0_spreadOfLot_7, rfl⟩
theorem dX0_spreadOfLot_10 : decode cX0_spreadOfLot 10 = .ok (.iload_n 1, 1) := by decide +kernel
theorem eX0_spreadOfLot_10 : dec cX0_spreadOfLot 10 (.iload_n 1) 1 11 := ⟨dX0_spreadOfLot_10, rfl⟩
theorem dX0_spreadOfLot_11 : decode cX0_spreadOfLot 11 = .ok (.iaload, 1) := by decide +kernel
theorem eX0_spreadOfLot_11 : dec cX0_spreadOfLot 11 .iaload 1 12 := ⟨dX0_spreadOfLot_11, rfl⟩
theorem dX0_spreadOfLot_12 : decode cX0_spreadOfLot 12 = .ok (.isub, 1) := by decide +kernel
theorem eX0_spreadOfLot_12 : dec cX0_spreadOfLot 12 .isub 1 13 := ⟨dX0_spreadOfLot_12, rfl⟩
theorem dX0_spreadOfLot_13 : decode cX0_spreadOfLot 13 = .ok (.istore_n 3, 1) := by decide +kernel
theorem eX0_spreadOfLot_13 : dec cX0_spreadOfLot 13 (.istore_n 3) 1 14 := ⟨dX0_spreadOfLot_13, rfl⟩
theorem dX0_spreadOfLot_14 : decode cX0_spreadOfLot 14 = .ok (.iload_n 3, 1) := by decide +kernel
theorem eX0_spreadOfLot_14 : dec cX0_spreadOfLot 14 (.iload_n 3) 1 15 := ⟨dX0_spreadOfLot_14, rfl⟩
theorem dX0_spreadOfLot_15 : decode cX0_spreadOfLot 15 = .ok (.ifCond .gt 5, 3) := by decide +kernel
theorem eX0_spreadOfLot_15 : dec cX0_spreadOfLot 15 (.ifCond .gt 5) 3 18 := ⟨dX0_spreadOfLot_15, rfl⟩
theorem dX0_spreadOfLot_18 : decode cX0_spreadOfLot 18 = .ok (.iconst 0, 1) := by decide +kernel
theorem eX0_spreadOfLot_18 : dec cX0_spreadOfLot 18 (.iconst 0) 1 19 := ⟨dX0_spreadOfLot_18, rfl⟩
theorem dX0_spreadOfLot_19 : decode cX0_spreadOfLot 19 = .ok (.ireturn, 1) := by decide +kernel
theorem eX0_spreadOfLot_19 : dec cX0_spreadOfLot 19 .ireturn 1 20 := ⟨dX0_spreadOfLot_19, rfl⟩
theorem dX0_spreadOfLot_20 : decode cX0_spreadOfLot 20 = .ok (.aload_n 0, 1) := by decide +kernel
theorem eX0_spreadOfLot_20 : dec cX0_spreadOfLot 20 (.aload_n 0) 1 21 := ⟨dX0_spreadOfLot_20, rfl⟩
theorem dX0_spreadOfLot_21 : decode cX0_spreadOfLot 21 = .ok (.getfield 36, 3) := by decide +kernel
theorem eX0_spreadOfLot_21 : dec cX0_spreadOfLot 21 (.getfield 36) 3 24 := ⟨dX0_spreadOfLot_21, rfl⟩
theorem dX0_spreadOfLot_24 : decode cX0_spreadOfLot 24 = .ok (.iload_n 2, 1) := by decide +kernel
theorem eX0_spreadOfLot_24 : dec cX0_spreadOfLot 24 (.iload_n 2) 1 25 := ⟨dX0_spreadOfLot_24, rfl⟩
theorem dX0_spreadOfLot_25 : decode cX0_spreadOfLot 25 = .ok (.iaload, 1) := by decide +kernel
theorem eX0_spreadOfLot_25 : dec cX0_spreadOfLot 25 .iaload 1 26 := ⟨dX0_spreadOfLot_25, rfl⟩
theorem dX0_spreadOfLot_26 : decode cX0_spreadOfLot 26 = .ok (.aload_n 0, 1) := by decide +kernel
theorem eX0_spreadOfLot_26 : dec cX0_spreadOfLot 26 (.aload_n 0) 1 27 := ⟨dX0_spreadOfLot_26, rfl⟩
theorem dX0_spreadOfLot_27 : decode cX0_spreadOfLot 27 = .ok (.getfield 36, 3) := by decide +kernel
theorem eX0_spreadOfLot_27 : dec cX0_spreadOfLot 27 (.getfield 36) 3 30 := ⟨dX0_spreadOfLot_27, rfl⟩
theorem dX0_spreadOfLot_30 : decode cX0_spreadOfLot 30 = .ok (.iload_n 1, 1) := by decide +kernel
theorem eX0_spreadOfLot_30 : dec cX0_spreadOfLot 30 (.iload_n 1) 1 31 := ⟨dX0_spreadOfLot_30, rfl⟩
theorem dX0_spreadOfLot_31 : decode cX0_spreadOfLot 31 = .ok (.iaload, 1) := by decide +kernel
theorem eX0_spreadOfLot_31 : dec cX0_spreadOfLot 31 .iaload 1 32 := ⟨dX0_spreadOfLot_31, rfl⟩
theorem dX0_spreadOfLot_32 : decode cX0_spreadOfLot 32 = .ok (.isub, 1) := by decide +kernel
theorem eX0_spreadOfLot_32 : dec cX0_spreadOfLot 32 .isub 1 33 := ⟨dX0_spreadOfLot_32, rfl⟩
theorem dX0_spreadOfLot_33 : decode cX0_spreadOfLot 33 = .ok (.iload_n 3, 1) := by decide +kernel
theorem eX0_spreadOfLot_33 : dec cX0_spreadOfLot 33 (.iload_n 3) 1 34 := ⟨dX0_spreadOfLot_33, rfl⟩
theorem dX0_spreadOfLot_34 : decode cX0_spreadOfLot 34 = .ok (.idiv, 1) := by decide +kernel
theorem eX0_spreadOfLot_34 : dec cX0_spreadOfLot 34 .idiv 1 35 := ⟨dX0_spreadOfLot_34, rfl⟩
theorem dX0_spreadOfLot_35 : decode cX0_spreadOfLot 35 = .ok (.istore 4, 2) := by decide +kernel
theorem eX0_spreadOfLot_35 : dec cX0_spreadOfLot 35 (.istore 4) 2 37 := ⟨dX0_spreadOfLot_35, rfl⟩
theorem dX0_spreadOfLot_37 : decode cX0_spreadOfLot 37 = .ok (.iload 4, 2) := by decide +kernel
theorem eX0_spreadOfLot_37 : dec cX0_spreadOfLot 37 (.iload 4) 2 39 := ⟨dX0_spreadOfLot_37, rfl⟩
theorem dX0_spreadOfLot_39 : decode cX0_spreadOfLot 39 = .ok (.iconst 1, 1) := by decide +kernel
theorem eX0_spreadOfLot_39 : dec cX0_spreadOfLot 39 (.iconst 1) 1 40 := ⟨dX0_spreadOfLot_39, rfl⟩
theorem dX0_spreadOfLot_40 : decode cX0_spreadOfLot 40 = .ok (.iadd, 1) := by decide +kernel
theorem eX0_spreadOfLot_40 : dec cX0_spreadOfLot 40 .iadd 1 41 := ⟨dX0_spreadOfLot_40, rfl⟩
theorem dX0_spreadOfLot_41 : decode cX0_spreadOfLot 41 = .ok (.istore 5, 2) := by decide +kernel
theorem eX0_spreadOfLot_41 : dec cX0_spreadOfLot 41 (.istore 5) 2 43 := ⟨dX0_spreadOfLot_41, rfl⟩
theorem dX0_spreadOfLot_43 : decode cX0_spreadOfLot 43 = .ok (.iload 4, 2) := by decide +kernel
theorem eX0_spreadOfLot_43 : dec cX0_spreadOfLot 43 (.iload 4) 2 45 := ⟨dX0_spreadOfLot_43, rfl⟩
theorem dX0_spreadOfLot_45 : decode cX0_spreadOfLot 45 = .ok (.aload_n 0, 1) := by decide +kernel
theorem eX0_spreadOfLot_45 : dec cX0_spreadOfLot 45 (.aload_n 0) 1 46 := ⟨dX0_spreadOfLot_45, rfl⟩
theorem dX0_spreadOfLot_46 : decode cX0_spreadOfLot 46 = .ok (.getfield 32, 3) := by decide +kernel
theorem eX0_spreadOfLot_46 : dec cX0_spreadOfLot 46 (.getfield 32) 3 49 := ⟨dX0_spreadOfLot_46, rfl⟩
theorem dX0_spreadOfLot_49 : decode cX0_spreadOfLot 49 = .ok (.iload 5, 2) := by decide +kernel
theorem eX0_spreadOfLot_49 : dec cX0_spreadOfLot 49 (.iload 5) 2 51 := ⟨dX0_spreadOfLot_49, rfl⟩
theorem dX0_spreadOfLot_51 : decode cX0_spreadOfLot 51 = .ok (.iaload, 1) := by decide +kernel
theorem eX0_spreadOfLot_51 : dec cX0_spreadOfLot 51 .iaload 1 52 := ⟨dX0_spreadOfLot_51, rfl⟩
theorem dX0_spreadOfLot_52 : decode cX0_spreadOfLot 52 = .ok (.aload_n 0, 1) := by decide +kernel
theorem eX0_spreadOfLot_52 : dec cX0_spreadOfLot 52 (.aload_n 0) 1 53 := ⟨dX0_spreadOfLot_52, rfl⟩
theorem dX0_spreadOfLot_53 : decode cX0_spreadOfLot 53 = .ok (.getfield 32, 3) := by decide +kernel
theorem eX0_spreadOfLot_53 : dec cX0_spreadOfLot 53 (.getfield 32) 3 56 := ⟨dX0_spreadOfLot_53, rfl⟩
theorem dX0_spreadOfLot_56 : decode cX0_spreadOfLot 56 = .ok (.iload_n 1, 1) := by decide +kernel
theorem eX0_spreadOfLot_56 : dec cX0_spreadOfLot 56 (.iload_n 1) 1 57 := ⟨dX0_spreadOfLot_56, rfl⟩
theorem dX0_spreadOfLot_57 : decode cX0_spreadOfLot 57 = .ok (.iaload, 1) := by decide +kernel
theorem eX0_spreadOfLot_57 : dec cX0_spreadOfLot 57 .iaload 1 58 := ⟨dX0_spreadOfLot_57, rfl⟩
theorem dX0_spreadOfLot_58 : decode cX0_spreadOfLot 58 = .ok (.isub, 1) := by decide +kernel
theorem eX0_spreadOfLot_58 : dec cX0_spreadOfLot 58 .isub 1 59 := ⟨dX0_spreadOfLot_58, rfl⟩
theorem dX0_spreadOfLot_59 : decode cX0_spreadOfLot 59 = .ok (.imul, 1) := by decide +kernel
theorem eX0_spreadOfLot_59 : dec cX0_spreadOfLot 59 .imul 1 60 := ⟨dX0_spreadOfLot_59, rfl⟩
theorem dX0_spreadOfLot_60 : decode cX0_spreadOfLot 60 = .ok (.aload_n 0, 1) := by decide +kernel
theorem eX0_spreadOfLot_60 : dec cX0_spreadOfLot 60 (.aload_n 0) 1 61 := ⟨dX0_spreadOfLot_60, rfl⟩
theorem dX0_spreadOfLot_61 : decode cX0_spreadOfLot 61 = .ok (.getfield 36, 3) := by decide +kernel
theorem eX0_spreadOfLot_61 : dec cX0_spreadOfLot 61 (.getfield 36) 3 64 := ⟨dX0_spreadOfLot_61, rfl⟩
theorem dX0_spreadOfLot_64 : decode cX0_spreadOfLot 64 = .ok (.iload 5, 2) := by decide +kernel
theorem eX0_spreadOfLot_64 : dec cX0_spreadOfLot 64 (.iload 5) 2 66 := ⟨dX0_spreadOfLot_64, rfl⟩
theorem dX0_spreadOfLot_66 : decode cX0_spreadOfLot 66 = .ok (.iaload, 1) := by decide +kernel
theorem eX0_spreadOfLot_66 : dec cX0_spreadOfLot 66 .iaload 1 67 := ⟨dX0_spreadOfLot_66, rfl⟩
theorem dX0_spreadOfLot_67 : decode cX0_spreadOfLot 67 = .ok (.aload_n 0, 1) := by decide +kernel
theorem eX0_spreadOfLot_67 : dec cX0_spreadOfLot 67 (.aload_n 0) 1 68 := ⟨dX0_spreadOfLot_67, rfl⟩
theorem dX0_spreadOfLot_68 : decode cX0_spreadOfLot 68 = .ok (.getfield 36, 3) := by decide +kernel
theorem eX0_spreadOfLot_68 : dec cX0_spreadOfLot 68 (.getfield 36) 3 71 := ⟨dX0_spreadOfLot_68, rfl⟩
theorem dX0_spreadOfLot_71 : decode cX0_spreadOfLot 71 = .ok (.iload_n 1, 1) := by decide +kernel
theorem eX0_spreadOfLot_71 : dec cX0_spreadOfLot 71 (.iload_n 1) 1 72 := ⟨dX0_spreadOfLot_71, rfl⟩
theorem dX0_spreadOfLot_72 : decode cX0_spreadOfLot 72 = .ok (.iaload, 1) := by decide +kernel
theorem eX0_spreadOfLot_72 : dec cX0_spreadOfLot 72 .iaload 1 73 := ⟨dX0_spreadOfLot_72, rfl⟩
theorem dX0_spreadOfLot_73 : decode cX0_spreadOfLot 73 = .ok (.isub, 1) := by decide +kernel
theorem eX0_spreadOfLot_73 : dec cX0_spreadOfLot 73 .isub 1 74 := ⟨dX0_spreadOfLot_73, rfl⟩
theorem dX0_spreadOfLot_74 : decode cX0_spreadOfLot 74 = .ok (.isub, 1) := by decide +kernel
theorem eX0_spreadOfLot_74 : dec cX0_spreadOfLot 74 .isub 1 75 := ⟨dX0_spreadOfLot_74, rfl⟩
theorem dX0_spreadOfLot_75 : decode cX0_spreadOfLot 75 = .ok (.istore 6, 2) := by decide +kernel
theorem eX0_spreadOfLot_75 : dec cX0_spreadOfLot 75 (.istore 6) 2 77 := ⟨dX0_spreadOfLot_75, rfl⟩
theorem dX0_spreadOfLot_77 : decode cX0_spreadOfLot 77 = .ok (.aload_n 0, 1) := by decide +kernel
theorem eX0_spreadOfLot_77 : dec cX0_spreadOfLot 77 (.aload_n 0) 1 78 := ⟨dX0_spreadOfLot_77, rfl⟩
theorem dX0_spreadOfLot_78 : decode cX0_spreadOfLot 78 = .ok (.getfield 36, 3) := by decide +kernel
theorem eX0_spreadOfLot_78 : dec cX0_spreadOfLot 78 (.getfield 36) 3 81 := ⟨dX0_spreadOfLot_78, rfl⟩
theorem dX0_spreadOfLot_81 : decode cX0_spreadOfLot 81 = .ok (.iload_n 2, 1) := by decide +kernel
theorem eX0_spreadOfLot_81 : dec cX0_spreadOfLot 81 (.iload_n 2) 1 82 := ⟨dX0_spreadOfLot_81, rfl⟩
theorem dX0_spreadOfLot_82 : decode cX0_spreadOfLot 82 = .ok (.iaload, 1) := by decide +kernel
theorem eX0_spreadOfLot_82 : dec cX0_spreadOfLot 82 .iaload 1 83 := ⟨dX0_spreadOfLot_82, rfl⟩
theorem dX0_spreadOfLot_83 : decode cX0_spreadOfLot 83 = .ok (.aload_n 0, 1) := by decide +kernel
theorem eX0_spreadOfLot_83 : dec cX0_spreadOfLot 83 (.aload_n 0) 1 84 := ⟨dX0_spreadOfLot_83, rfl⟩
theorem dX0_spreadOfLot_84 : decode cX0_spreadOfLot 84 = .ok (.getfield 36, 3) := by decide +kernel
theorem eX0_spreadOfLot_84 : dec cX0_spreadOfLot 84 (.getfield 36) 3 87 := ⟨dX0_spreadOfLot_84, rfl⟩
theorem dX0_spreadOfLot_87 : decode cX0_spreadOfLot 87 = .ok (.iload 5, 2) := by decide +kernel
theorem eX0_spreadOfLot_87 : dec cX0_spreadOfLot 87 (.iload 5) 2 89 := ⟨dX0_spreadOfLot_87, rfl⟩
theorem dX0_spreadOfLot_89 : decode cX0_spreadOfLot 89 = .ok (.iaload, 1) := by decide +kernel
theorem eX0_spreadOfLot_89 : dec cX0_spreadOfLot 89 .iaload 1 90 := ⟨dX0_spreadOfLot_89, rfl⟩
theorem dX0_spreadOfLot_90 : decode cX0_spreadOfLot 90 = .ok (.isub, 1) := by decide +kernel
theorem eX0_spreadOfLot_90 : dec cX0_spreadOfLot 90 .isub 1 91 := ⟨dX0_spreadOfLot_90, rfl⟩
theorem dX0_spreadOfLot_91 : decode cX0_spreadOfLot 91 = .ok (.iload 4, 2) := by decide +kernel
theorem eX0_spreadOfLot_91 : dec cX0_spreadOfLot 91 (.iload 4) 2 93 := ⟨dX0_spreadOfLot_91, rfl⟩
theorem dX0_spreadOfLot_93 : decode cX0_spreadOfLot 93 = .ok (.aload_n 0, 1) := by decide +kernel
theorem eX0_spreadOfLot_93 : dec cX0_spreadOfLot 93 (.aload_n 0) 1 94 := ⟨dX0_spreadOfLot_93, rfl⟩
theorem dX0_spreadOfLot_94 : decode cX0_spreadOfLot 94 = .ok (.getfield 32, 3) := by decide +kernel
theorem eX0_spreadOfLot_94 : dec cX0_spreadOfLot 94 (.getfield 32) 3 97 := ⟨dX0_spreadOfLot_94, rfl⟩
theorem dX0_spreadOfLot_97 : decode cX0_spreadOfLot 97 = .ok (.iload_n 2, 1) := by decide +kernel
theorem eX0_spreadOfLot_97 : dec cX0_spreadOfLot 97 (.iload_n 2) 1 98 := ⟨dX0_spreadOfLot_97, rfl⟩
theorem dX0_spreadOfLot_98 : decode cX0_spreadOfLot 98 = .ok (.iaload, 1) := by decide +kernel
theorem eX0_spreadOfLot_98 : dec cX0_spreadOfLot 98 .iaload 1 99 := ⟨dX0_spreadOfLot_98, rfl⟩
theorem dX0_spreadOfLot_99 : decode cX0_spreadOfLot 99 = .ok (.aload_n 0, 1) := by decide +kernel
theorem eX0_spreadOfLot_99 : dec cX0_spreadOfLot 99 (.aload_n 0) 1 100 := ⟨dX0_spreadOfLot_99, rfl⟩
theorem dX0_spreadOfLot_100 : decode cX0_spreadOfLot 100 = .ok (.getfield 32, 3) := by decide +kernel
theorem eX0_spreadOfLot_100 : dec cX0_spreadOfLot 100 (.getfield 32) 3 103 := ⟨dX0_spreadOfLot_100, rfl⟩
theorem dX0_spreadOfLot_103 : decode cX0_spreadOfLot 103 = .ok (.iload 5, 2) := by decide +kernel
theorem eX0_spreadOfLot_103 : dec cX0_spreadOfLot 103 (.iload 5) 2 105 := ⟨dX0_spreadOfLot_103, rfl⟩
theorem dX0_spreadOfLot_105 : decode cX0_spreadOfLot 105 = .ok (.iaload, 1) := by decide +kernel
theorem eX0_spreadOfLot_105 : dec cX0_spreadOfLot 105 .iaload 1 106 := ⟨dX0_spreadOfLot_105, rfl⟩
theorem dX0_spreadOfLot_106 : decode cX0_spreadOfLot 106 = .ok (.isub, 1) := by decide +kernel
theorem eX0_spreadOfLot_106 : dec cX0_spreadOfLot 106 .isub 1 107 := ⟨dX0_spreadOfLot_106, rfl⟩
theorem dX0_spreadOfLot_107 : decode cX0_spreadOfLot 107 = .ok (.imul, 1) := by decide +kernel
theorem eX0_spreadOfLot_107 : dec cX0_spreadOfLot 107 .imul 1 108 := ⟨dX0_spreadOfLot_107, rfl⟩
theorem dX0_spreadOfLot_108 : decode cX0_spreadOfLot 108 = .ok (.isub, 1) := by decide +kernel
theorem eX0_spreadOfLot_108 : dec cX0_spreadOfLot 108 .isub 1 109 := ⟨dX0_spreadOfLot_108, rfl⟩
theorem dX0_spreadOfLot_109 : decode cX0_spreadOfLot 109 = .ok (.istore 7, 2) := by decide +kernel
theorem eX0_spreadOfLot_109 : dec cX0_spreadOfLot 109 (.istore 7) 2 111 := ⟨dX0_spreadOfLot_109, rfl⟩
theorem dX0_spreadOfLot_111 : decode cX0_spreadOfLot 111 = .ok (.iload 6, 2) := by decide +kernel
theorem eX0_spreadOfLot_111 : dec cX0_spreadOfLot 111 (.iload 6) 2 113 := ⟨dX0_spreadOfLot_111, rfl⟩
theorem dX0_spreadOfLot_113 : decode cX0_spreadOfLot 113 = .ok (.iload 7, 2) := by decide +kernel
theorem eX0_spreadOfLot_113 : dec cX0_spreadOfLot 113 (.iload 7) 2 115 := ⟨dX0_spreadOfLot_113, rfl⟩
theorem dX0_spreadOfLot_115 : decode cX0_spreadOfLot 115 = .ok (.iadd, 1) := by decide +kernel
theorem eX0_spreadOfLot_115 : dec cX0_spreadOfLot 115 .iadd 1 116 := ⟨dX0_spreadOfLot_115, rfl⟩
theorem dX0_spreadOfLot_116 : decode cX0_spreadOfLot 116 = .ok (.ireturn, 1) := by decide +kernel
theorem eX0_spreadOfLot_116 : dec cX0_spreadOfLot 116 .ireturn 1 117 := ⟨dX0_spreadOfLot_116, rfl⟩
theorem dX0_hasMostlyLow_0 : decode cX0_hasMostlyLow 0 = .ok (.iconst 2, 1) := by decide +kernel
theorem eX0_hasMostlyLow_0 : dec cX0_hasMostlyLow 0 (.iconst 2) 1 1 := ⟨dX0_hasMostlyLow_0, rfl⟩
theorem dX0_hasMostlyLow_1 : decode cX0_hasMostlyLow 1 = .ok (.aload_n 0, 1) := by decide +kernel
theorem eX0_hasMostlyLow_1 : dec cX0_hasMostlyLow 1 (.aload_n 0) 1 2 := ⟨dX0_hasMostlyLow_1, rfl⟩
theorem dX0_hasMostlyLow_2 : decode cX0_hasMostlyLow 2 = .ok (.getfield 32, 3) := by decide +kernel
theorem eX0_hasMostlyLow_2 : dec cX0_hasMostlyLow 2 (.getfield 32) 3 5 := ⟨dX0_hasMostlyLow_2, rfl⟩
theorem dX0_hasMostlyLow_5 : decode cX0_hasMostlyLow 5 = .ok (.iload_n 1, 1) := by decide +kernel
theorem eX0_hasMostlyLow_5 : dec cX0_hasMostlyLow 5 (.iload_n 1) 1 6 := ⟨dX0_hasMostlyLow_5, rfl⟩
theorem dX0_hasMostlyLow_6 : decode cX0_hasMostlyLow 6 = .ok (.iconst 1, 1) := by decide +kernel
theorem eX0_hasMostlyLow_6 : dec cX0_hasMostlyLow 6 (.iconst 1) 1 7 := ⟨dX0_hasMostlyLow_6, rfl⟩
theorem dX0_hasMostlyLow_7 : decode cX0_hasMostlyLow 7 = .ok (.iadd, 1) := by decide +kernel
theorem eX0_hasMostlyLow_7 : dec cX0_hasMostlyLow 7 .iadd 1 8 := ⟨dX0_hasMostlyLow_7, rfl⟩
theorem dX0_hasMostlyLow_8 : decode cX0_hasMostlyLow 8 = .ok (.iaload, 1) := by decide +kernel
theorem eX0_hasMostlyLow_8 : dec cX0_hasMostlyLow 8 .iaload 1 9 := ⟨dX0_hasMostlyLow_8, rfl⟩
theorem dX0_hasMostlyLow_9 : decode cX0_hasMostlyLow 9 = .ok (.imul, 1) := by decide +kernel
theorem eX0_hasMostlyLow_9 : dec cX0_hasMostlyLow 9 .imul 1 10 := ⟨dX0_hasMostlyLow_9, rfl⟩
theorem dX0_hasMostlyLow_10 : decode cX0_hasMostlyLow 10 = .ok (.aload_n 0, 1) := by decide +kernel
theorem eX0_hasMostlyLow_10 : dec cX0_hasMostlyLow 10 (.aload_n 0) 1 11 := ⟨dX0_hasMostlyLow_10, rfl⟩
theorem dX0_hasMostlyLow_11 : decode cX0_hasMostlyLow 11 = .ok (.getfield 25, 3) := by decide +kernel
theorem eX0_hasMostlyLow_11 : dec cX0_hasMostlyLow 11 (.getfield 25) 3 14 := ⟨dX0_hasMostlyLow_11, rfl⟩
theorem dX0_hasMostlyLow_14 : decode cX0_hasMostlyLow 14 = .ok (.arraylength, 1) := by decide +kernel
theorem eX0_hasMostlyLow_14 : dec cX0_hasMostlyLow 14 .arraylength 1 15 := ⟨dX0_hasMostlyLow_14, rfl⟩
theorem dX0_hasMostlyLow_15 : decode cX0_hasMostlyLow 15 = .ok (.if_icmp .le 7, 3) := by decide +kernel
theorem eX0_hasMostlyLow_15 : dec cX0_hasMostlyLow 15 (.if_icmp .le 7) 3 18 := ⟨dX0_hasMostlyLow_15, rfl⟩
theorem dX0_hasMostlyLow_18 : decode cX0_hasMostlyLow 18 = .ok (.iconst 1, 1) := by decide +kernel
theorem eX0_hasMostlyLow_18 : dec cX0_hasMostlyLow 18 (.iconst 1) 1 19 := ⟨dX0_hasMostlyLow_18, rfl⟩
theorem dX0_hasMostlyLow_19 : decode cX0_hasMostlyLow 19 = .ok (.goto 4, 3) := by decide +kernel
theorem eX0_hasMostlyLow_19 : dec cX0_hasMostlyLow 19 (.goto 4) 3 22 := ⟨dX0_hasMostlyLow_19, rfl⟩
theorem dX0_hasMostlyLow_22 : decode cX0_hasMostlyLow 22 = .ok (.iconst 0, 1) := by decide +kernel
theorem eX0_hasMostlyLow_22 : dec cX0_hasMostlyLow 22 (.iconst 0) 1 23 := ⟨dX0_hasMostlyLow_22, rfl⟩
theorem dX0_hasMostlyLow_23 : decode cX0_hasMostlyLow 23 = .ok (.ireturn, 1) := by decide +kernel
theorem eX0_hasMostlyLow_23 : dec cX0_hasMostlyLow 23 .ireturn 1 24 := ⟨dX0_hasMostlyLow_23, rfl⟩
set_option maxRecDepth 20000 in
theorem ggX0_markDark_X0_threshold : GoodIn wsX0_markDark wsX0_threshold := goodIn_r _ [7, 8, 9, 10, 6, 11, 12, 1, 13, 14, 15, 16, 17, 18, 19, 20, 21, 22, 23, 24, 25, 30, 31, 32, 33, 34, 35, 36, 37, 38, 39, 40, 41, 42, 43, 44, 45] (by decide +kernel) (by decide +kernel)
set_option maxRecDepth 20000 in
theorem gX0_markDark_X0_threshold : GoodIn wsX0_markDark (wsV RX0 135 RX0 yX0_threshold wsX0_threshold) := goodIn_app (goodIn_of _ (by decide +kernel)) ggX0_markDark_X0_threshold
set_option maxRecDepth 20000 in
theorem ggX0_markDark_X0_hasMostlyLow : GoodIn wsX0_markDark wsX0_hasMostlyLow := goodIn_r _ [29, 12, 1, 30, 31, 32, 33, 34, 35, 36, 37, 38, 39, 40, 41, 42, 43, 44, 45] (by decide +kernel) (by decide +kernel)
set_option maxRecDepth 20000 in
theorem gX0_markDark_X0_hasMostlyLow : GoodIn wsX0_markDark (wsV RX0 138 RX0 yX0_hasMostlyLow wsX0_hasMostlyLow) := goodIn_app (goodIn_of _ (by decide +kernel)) ggX0_markDark_X0_hasMostlyLow
theorem dX0_markDark_0 : decode cX0_markDark 0 = .ok (.aload_n 0, 1) := by decide +kernel
theorem eX0_markDark_0 : dec cX0_markDark 0 (.aload_n 0) 1 1 := ⟨dX0_markDark_0, rfl⟩
theorem dX0_markDark_1 : decode cX0_markDark 1 = .ok (.invokevirtual 135, 3) := by decide +kernel
theorem eX0_markDark_1 : dec cX0_markDark 1 (.invokevirtual 135) 3 4 := ⟨dX0_markDark_1, rfl⟩
theorem dX0_markDark_4 : decode cX0_markDark 4 = .ok (.istore_n 1, 1) := by decide +kernel
theorem eX0_markDark_4 : dec cX0_markDark 4 (.istore_n 1) 1 5 := ⟨dX0_markDark_4, rfl⟩
theorem dX0_markDark_5 : decode cX0_markDark 5 = .ok (.aload_n 0, 1) := by decide +kernel
theorem eX0_markDark_5 : dec cX0_markDark 5 (.aload_n 0) 1 6 := ⟨dX0_markDark_5, rfl⟩
theorem dX0_markDark_6 : decode cX0_markDark 6 = .ok (.iload_n 1, 1) := by decide +kernel
theorem eX0_markDark_6 : dec cX0_markDark 6 (.iload_n 1) 1 7 := ⟨dX0_markDark_6, rfl⟩
theorem dX0_markDark_7 : decode cX0_markDark 7 = .ok (.invokevirtual 138, 3) := by decide +kernel
theorem eX0_markDark_7 : dec cX0_markDark 7 (.invokevirtual 138) 3 10 := ⟨dX0_markDark_7, rfl⟩
theorem dX0_markDark_10 : decode cX0_markDark 10 = .ok (.ifCond .ne 7, 3) := by decide +kernel
theorem eX0_markDark_10 : dec cX0_markDark 10 (.ifCond .ne 7) 3 13 := ⟨dX0_markDark_10, rfl⟩
theorem dX0_markDark_13 : decode cX0_markDark 13 = .ok (.iconst 1, 1) := by decide +kernel
theorem eX0_markDark_13 : dec cX0_markDark 13 (.iconst 1) 1 14 := ⟨dX0_markDark_13, rfl⟩
theorem dX0_markDark_14 : decode cX0_markDark 14 = .ok (.goto 4, 3) := by decide +kernel
theorem eX0_markDark_14 : dec cX0_markDark 14 (.goto 4) 3 17 := ⟨dX0_markDark_14, rfl⟩
theorem dX0_markDark_17 : decode cX0_markDark 17 = .ok (.iconst 0, 1) := by decide +kernel
theorem eX0_markDark_17 : dec cX0_markDark 17 (.iconst 0) 1 18 := ⟨dX0_markDark_17, rfl⟩
theorem dX0_markDark_18 : decode cX0_markDark 18 = .ok (.istore_n 2, 1) := by decide +kernel
theorem eX0_markDark_18 : dec cX0_markDark 18 (.istore_n 2) 1 19 := ⟨dX0_markDark_18, rfl⟩
theorem dX0_markDark_19 : decode cX0_markDark 19 = .ok (.iconst 0, 1) := by decide +kernel
theorem eX0_markDark_19 : dec cX0_markDark 19 (.iconst 0) 1 20 := ⟨dX0_markDark_19, rfl⟩
theorem dX0_markDark_20 : decode cX0_markDark 20 = .ok (.istore_n 3, 1) := by decide +kernel
theorem eX0_markDark_20 : dec cX0_markDark 20 (.istore_n 3) 1 21 := ⟨dX0_markDark_20, rfl⟩
theorem dX0_markDark_21 : decode cX0_markDark 21 = .ok (.iload_n 3, 1) := by decide +kernel
theorem eX0_markDark_21 : dec cX0_markDark 21 (.iload_n 3) 1 22 := ⟨dX0_markDark_21, rfl⟩
theorem dX0_markDark_22 : decode cX0_markDark 22 = .ok (.aload_n 0, 1) := by decide +kernel
theorem eX0_markDark_22 : dec cX0_markDark 22 (.aload_n 0) 1 23 := ⟨dX0_markDark_22, rfl⟩
theorem dX0_markDark_23 : decode cX0_markDark 23 = .ok (.getfield 25, 3) := by decide +kernel
theorem eX0_markDark_23 : dec cX0_markDark 23 (.getfield 25) 3 26 := ⟨dX0_markDark_23, rfl⟩
theorem dX0_markDark_26 : decode cX0_markDark 26 = .ok (.arraylength, 1) := by decide +kernel
theorem eX0_markDark_26 : dec cX0_markDark 26 .arraylength 1 27 := ⟨dX0_markDark_26, rfl⟩
theorem dX0_markDark_27 : decode cX0_markDark 27 = .ok (.if_icmp .ge 47, 3) := by decide +kernel
theorem eX0_markDark_27 : dec cX0_markDark 27 (.if_icmp .ge 47) 3 30 := ⟨dX0_markDark_27, rfl⟩
theorem dX0_markDark_30 : decode cX0_markDark 30 = .ok (.aload_n 0, 1) := by decide +kernel
theorem eX0_markDark_30 : dec cX0_markDark 30 (.aload_n 0) 1 31 := ⟨dX0_markDark_30, rfl⟩
theorem dX0_markDark_31 : decode cX0_markDark 31 = .ok (.getfield 25, 3) := by decide +kernel
theorem eX0_markDark_31 : dec cX0_markDark 31 (.getfield 25) 3 34 := ⟨dX0_markDark_31, rfl⟩
theorem dX0_markDark_34 : decode cX0_markDark 34 = .ok (.iload_n 3, 1) := by decide +kernel
theorem eX0_markDark_34 : dec cX0_markDark 34 (.iload_n 3) 1 35 := ⟨dX0_markDark_34, rfl⟩
theorem dX0_markDark_35 : decode cX0_markDark 35 = .ok (.baload, 1) := by decide +kernel
theorem eX0_markDark_35 : dec cX0_markDark 35 .baload 1 36 := ⟨dX0_markDark_35, rfl⟩
theorem dX0_markDark_36 : decode cX0_markDark 36 = .ok (.sipush 255, 3) := by decide +kernel
theorem eX0_markDark_36 : dec cX0_markDark 36 (.sipush 255) 3 39 := ⟨dX0_markDark_36, rfl⟩
theorem dX0_markDark_39 : decode cX0_markDark 39 = .ok (.iand, 1) := by decide +kernel
theorem eX0_markDark_39 : dec cX0_markDark 39 .iand 1 40 := ⟨dX0_markDark_39, rfl⟩
theorem dX0_markDark_40 : decode cX0_markDark 40 = .ok (.iload_n 1, 1) := by decide +kernel
theorem eX0_markDark_40 : dec cX0_markDark 40 (.iload_n 1) 1 41 := ⟨dX0_markDark_40, rfl⟩
theorem dX0_markDark_41 : decode cX0_markDark 41 = .ok (.if_icmp .gt 7, 3) := by decide +kernel
theorem eX0_markDark_41 : dec cX0_markDark 41 (.if_icmp .gt 7) 3 44 := ⟨dX0_markDark_41, rfl⟩
theorem dX0_markDark_44 : decode cX0_markDark 44 = .ok (.iconst 1, 1) := by decide +kernel
theorem eX0_markDark_44 : dec cX0_markDark 44 (.iconst 1) 1 45 := ⟨dX0_markDark_44, rfl⟩
theorem dX0_markDark_45 : decode cX0_markDark 45 = .ok (.goto 4, 3) := by decide +kernel
theorem eX0_markDark_45 : dec cX0_markDark 45 (.goto 4) 3 48 := ⟨dX0_markDark_45, rfl⟩
theorem dX0_markDark_48 : decode cX0_markDark 48 = .ok (.iconst 0, 1) := by decide +kernel
theorem eX0_markDark_48 : dec cX0_markDark 48 (.iconst 0) 1 49 := ⟨dX0_markDark_48, rfl⟩
theorem dX0_markDark_49 : decode cX0_markDark 49 = .ok (.istore 4, 2) := by decide +kernel
theorem eX0_markDark_49 : dec cX0_markDark 49 (.istore 4) 2 51 := ⟨dX0_markDark_49, rfl⟩
theorem dX0_markDark_51 : decode cX0_markDark 51 = .ok (.aload_n 0, 1) := by decide +kernel
theorem eX0_markDark_51 : dec cX0_markDark 51 (.aload_n 0) 1 52 := ⟨dX0_markDark_51, rfl⟩
theorem dX0_markDark_52 : decode cX0_markDark 52 = .ok (.getfield 39, 3) := by decide +kernel
theorem eX0_markDark_52 : dec cX0_markDark 52 (.getfield 39) 3 55 := ⟨dX0_markDark_52, rfl⟩
theorem dX0_markDark_55 : decode cX0_markDark 55 = .ok (.iload_n 3, 1) := by decide +kernel
theorem eX0_markDark_55 : dec cX0_markDark 55 (.iload_n 3) 1 56 := ⟨dX0_markDark_55, rfl⟩
theorem dX0_markDark_56 : decode cX0_markDark 56 = .ok (.iload 4, 2) := by decide +kernel
theorem eX0_markDark_56 : dec cX0_markDark 56 (.iload 4) 2 58 := ⟨dX0_markDark_56, rfl⟩
theorem dX0_markDark_58 : decode cX0_markDark 58 = .ok (.iload_n 2, 1) := by decide +kernel
theorem eX0_markDark_58 : dec cX0_markDark 58 (.iload_n 2) 1 59 := ⟨dX0_markDark_58, rfl⟩
theorem dX0_markDark_59 : decode cX0_markDark 59 = .ok (.if_icmp .ne 7, 3) := by decide +kernel
theorem eX0_markDark_59 : dec cX0_markDark 59 (.if_icmp .ne 7) 3 62 := ⟨dX0_markDark_59, rfl⟩
theorem dX0_markDark_62 : decode cX0_markDark 62 = .ok (.iconst 1, 1) := by decide +kernel
theorem eX0_markDark_62 : dec cX0_markDark 62 (.iconst 1) 1 63 := ⟨dX0_markDark_62, rfl⟩
theorem dX0_markDark_63 : decode cX0_markDark 63 = .ok (.goto 4, 3) := by decide +kernel
theorem eX0_markDark_63 : dec cX0_markDark 63 (.goto 4) 3 66 := ⟨dX0_markDark_63, rfl⟩
theorem dX0_markDark_66 : decode cX0_markDark 66 = .ok (.iconst 0, 1) := by decide +kernel
theorem eX0_markDark_66 : dec cX0_markDark 66 (.iconst 0) 1 67 := ⟨dX0_markDark_66, rfl⟩
theorem dX0_markDark_67 : decode cX0_markDark 67 = .ok (.bastore, 1) := by decide +kernel
theorem eX0_markDark_67 : dec cX0_markDark 67 .bastore 1 68 := ⟨dX0_markDark_67, rfl⟩
theorem dX0_markDark_68 : decode cX0_markDark 68 = .ok (.iinc 3 1, 3) := by decide +kernel
theorem eX0_markDark_68 : dec cX0_markDark 68 (.iinc 3 1) 3 71 := ⟨dX0_markDark_68, rfl⟩
theorem dX0_markDark_71 : decode cX0_markDark 71 = .ok (.goto (-50), 3) := by decide +kernel
theorem eX0_markDark_71 : dec cX0_markDark 71 (.goto (-50)) 3 74 := ⟨dX0_markDark_71, rfl⟩
theorem dX0_markDark_74 : decode cX0_markDark 74 = .ok (.return_, 1) := by decide +kernel
theorem eX0_markDark_74 : dec cX0_markDark 74 .return_ 1 75 := ⟨dX0_markDark_74, rfl⟩
set_option maxRecDepth 20000 in
theorem ggX0_reachPart_X0_reach : GoodIn wsX0_reachPart wsX0_reach := goodIn_r _ [8, 9, 1, 2, 22, 23, 24, 25, 26, 27, 28, 29, 30, 31, 32, 33, 34, 35, 36, 37] (by decide +kernel) (by decide +kernel)
set_option maxRecDepth 20000 in
theorem gX0_reachPart_X0_reach : GoodIn wsX0_reachPart (wsV RX0 148 RX0 yX0_reach wsX0_reach) := goodIn_app (goodIn_of _ (by decide +kernel)) ggX0_reachPart_X0_reach
set_option maxRecDepth 20000 in
theorem ggX0_reachPart_X0_reachAround : GoodIn wsX0_reachPart wsX0_reachAround := goodIn_r _ [13, 14, 15, 16, 17, 18, 19, 20, 21, 3, 4, 5, 6, 7, 8, 9, 1, 2, 22, 23, 24, 25, 26, 27, 28, 29, 30, 31, 32, 33, 34, 35, 36, 37] (by decide +kernel) (by decide +kernel)
set_option maxRecDepth 20000 in
theorem gX0_reachPart_X0_reachAround : GoodIn wsX0_reachPart (wsV RX0 151 RX0 yX0_reachAround wsX0_reachAround) := goodIn_app (goodIn_of _ (by decide +kernel)) ggX0_reachPart_X0_reachAround
theorem dX0_reachPart_0 : decode cX0_reachPart 0 = .ok (.aload_n 0, 1) := by decide +kernel
theorem eX0_reachPart_0 : dec cX0_reachPart 0 (.aload_n 0) 1 1 := ⟨dX0_reachPart_0, rfl⟩
theorem dX0_reachPart_1 : decode cX0_reachPart 1 = .ok (.iconst 0, 1) := by decide +kernel
theorem eX0_reachPart_1 : dec cX0_reachPart 1 (.iconst 0) 1 2 := ⟨dX0_reachPart_1, rfl⟩
theorem dX0_reachPart_2 : decode cX0_reachPart 2 = .ok (.putfield 92, 3) := by decide +kernel
theorem eX0_reachPart_2 : dec cX0_reachPart 2 (.putfield 92) 3 5 := ⟨dX0_reachPart_2, rfl⟩
theorem dX0_reachPart_5 : decode cX0_reachPart 5 = .ok (.aload_n 0, 1) := by decide +kernel
theorem eX0_reachPart_5 : dec cX0_reachPart 5 (.aload_n 0) 1 6 := ⟨dX0_reachPart_5, rfl⟩
theorem dX0_reachPart_6 : decode cX0_reachPart 6 = .ok (.iload_n 1, 1) := by decide +kernel
theorem eX0_reachPart_6 : dec cX0_reachPart 6 (.iload_n 1) 1 7 := ⟨dX0_reachPart_6, rfl⟩
theorem dX0_reachPart_7 : decode cX0_reachPart 7 = .ok (.invokevirtual 148, 3) := by decide +kernel
theorem eX0_reachPart_7 : dec cX0_reachPart 7 (.invokevirtual 148) 3 10 := ⟨dX0_reachPart_7, rfl⟩
theorem dX0_reachPart_10 : decode cX0_reachPart 10 = .ok (.iconst 0, 1) := by decide +kernel
theorem eX0_reachPart_10 : dec cX0_reachPart 10 (.iconst 0) 1 11 := ⟨dX0_reachPart_10, rfl⟩
theorem dX0_reachPart_11 : decode cX0_reachPart 11 = .ok (.istore_n 2, 1) := by decide +kernel
theorem eX0_reachPart_11 : dec cX0_reachPart 11 (.istore_n 2) 1 12 := ⟨dX0_reachPart_11, rfl⟩
theorem dX0_reachPart_12 : decode cX0_reachPart 12 = .ok (.iload_n 2, 1) := by decide +kernel
theorem eX0_reachPart_12 : dec cX0_reachPart 12 (.iload_n 2) 1 13 := ⟨dX0_reachPart_12, rfl⟩
theorem dX0_reachPart_13 : decode cX0_reachPart 13 = .ok (.aload_n 0, 1) := by decide +kernel
theorem eX0_reachPart_13 : dec cX0_reachPart 13 (.aload_n 0) 1 14 := ⟨dX0_reachPart_13, rfl⟩
theorem dX0_reachPart_14 : decode cX0_reachPart 14 = .ok (.getfield 92, 3) := by decide +kernel
theorem eX0_reachPart_14 : dec cX0_reachPart 14 (.getfield 92) 3 17 := ⟨dX0_reachPart_14, rfl⟩
theorem dX0_reachPart_17 : decode cX0_reachPart 17 = .ok (.if_icmp .ge 35, 3) := by decide +kernel
theorem eX0_reachPart_17 : dec cX0_reachPart 17 (.if_icmp .ge 35) 3 20 := ⟨dX0_reachPart_17, rfl⟩
theorem dX0_reachPart_20 : decode cX0_reachPart 20 = .ok (.aload_n 0, 1) := by decide +kernel
theorem eX0_reachPart_20 : dec cX0_reachPart 20 (.aload_n 0) 1 21 := ⟨dX0_reachPart_20, rfl⟩
theorem dX0_reachPart_21 : decode cX0_reachPart 21 = .ok (.aload_n 0, 1) := by decide +kernel
theorem eX0_reachPart_21 : dec cX0_reachPart 21 (.aload_n 0) 1 22 := ⟨dX0_reachPart_21, rfl⟩
theorem dX0_reachPart_22 : decode cX0_reachPart 22 = .ok (.getfield 46, 3) := by decide +kernel
theorem eX0_reachPart_22 : dec cX0_reachPart 22 (.getfield 46) 3 25 := ⟨dX0_reachPart_22, rfl⟩
theorem dX0_reachPart_25 : decode cX0_reachPart 25 = .ok (.iload_n 2, 1) := by decide +kernel
theorem eX0_reachPart_25 : dec cX0_reachPart 25 (.iload_n 2) 1 26 := ⟨dX0_reachPart_25, rfl⟩
theorem dX0_reachPart_26 : decode cX0_reachPart 26 = .ok (.iaload, 1) := by decide +kernel
theorem eX0_reachPart_26 : dec cX0_reachPart 26 .iaload 1 27 := ⟨dX0_reachPart_26, rfl⟩
theorem dX0_reachPart_27 : decode cX0_reachPart 27 = .ok (.aload_n 0, 1) := by decide +kernel
theorem eX0_reachPart_27 : dec cX0_reachPart 27 (.aload_n 0) 1 28 := ⟨dX0_reachPart_27, rfl⟩
theorem dX0_reachPart_28 : decode cX0_reachPart 28 = .ok (.getfield 18, 3) := by decide +kernel
theorem eX0_reachPart_28 : dec cX0_reachPart 28 (.getfield 18) 3 31 := ⟨dX0_reachPart_28, rfl⟩
theorem dX0_reachPart_31 : decode cX0_reachPart 31 = .ok (.irem, 1) := by decide +kernel
theorem eX0_reachPart_31 : dec cX0_reachPart 31 .irem 1 32 := ⟨dX0_reachPart_31, rfl⟩
theorem dX0_reachPart_32 : decode cX0_reachPart 32 = .ok (.aload_n 0, 1) := by decide +kernel
theorem eX0_reachPart_32 : dec cX0_reachPart 32 (.aload_n 0) 1 33 := ⟨dX0_reachPart_32, rfl⟩
theorem dX0_reachPart_33 : decode cX0_reachPart 33 = .ok (.getfield 46, 3) := by decide +kernel
theorem eX0_reachPart_33 : dec cX0_reachPart 33 (.getfield 46) 3 36 := ⟨dX0_reachPart_33, rfl⟩
theorem dX0_reachPart_36 : decode cX0_reachPart 36 = .ok (.iload_n 2, 1) := by decide +kernel
theorem eX0_reachPart_36 : dec cX0_reachPart 36 (.iload_n 2) 1 37 := ⟨dX0_reachPart_36, rfl⟩
theorem dX0_reachPart_37 : decode cX0_reachPart 37 = .ok (.iaload, 1) := by decide +kernel
theorem eX0_reachPart_37 : dec cX0_reachPart 37 .iaload 1 38 := ⟨dX0_reachPart_37, rfl⟩
theorem dX0_reachPart_38 : decode cX0_reachPart 38 = .ok (.aload_n 0, 1) := by decide +kernel
theorem eX0_reachPart_38 : dec cX0_reachPart 38 (.aload_n 0) 1 39 := ⟨dX0_reachPart_38, rfl⟩
theorem dX0_reachPart_39 : decode cX0_reachPart 39 = .ok (.getfield 18, 3) := by decide +kernel
theorem eX0_reachPart_39 : dec cX0_reachPart 39 (.getfield 18) 3 42 := ⟨dX0_reachPart_39, rfl⟩
theorem dX0_reachPart_42 : decode cX0_reachPart 42 = .ok (.idiv, 1) := by decide +kernel
theorem eX0_reachPart_42 : dec cX0_reachPart 42 .idiv 1 43 := ⟨dX0_reachPart_42, rfl⟩
theorem dX0_reachPart_43 : decode cX0_reachPart 43 = .ok (.invokevirtual 151, 3) := by decide +kernel
theorem eX0_reachPart_43 : dec cX0_reachPart 43 (.invokevirtual 151) 3 46 := ⟨dX0_reachPart_43, rfl⟩
theorem dX0_reachPart_46 : decode cX0_reachPart 46 = .ok (.iinc 2 1, 3) := by decide +kernel
theorem eX0_reachPart_46 : dec cX0_reachPart 46 (.iinc 2 1) 3 49 := ⟨dX0_reachPart_46, rfl⟩
theorem dX0_reachPart_49 : decode cX0_reachPart 49 = .ok (.goto (-37), 3) := by decide +kernel
theorem eX0_reachPart_49 : dec cX0_reachPart 49 (.goto (-37)) 3 52 := ⟨dX0_reachPart_49, rfl⟩
theorem dX0_reachPart_52 : decode cX0_reachPart 52 = .ok (.return_, 1) := by decide +kernel
theorem eX0_reachPart_52 : dec cX0_reachPart 52 .return_ 1 53 := ⟨dX0_reachPart_52, rfl⟩
set_option maxRecDepth 20000 in
theorem ggX0_reachAround_X0_reach : GoodIn wsX0_reachAround wsX0_reach := goodIn_r _ [14, 15, 16, 17, 18, 19, 20, 21, 22, 23, 24, 25, 26, 27, 28, 29, 30, 31, 32, 33] (by decide +kernel) (by decide +kernel)
set_option maxRecDepth 20000 in
theorem gX0_reachAround_X0_reach : GoodIn wsX0_reachAround (wsV RX0 148 RX0 yX0_reach wsX0_reach) := goodIn_app (goodIn_of _ (by decide +kernel)) ggX0_reachAround_X0_reach
theorem dX0_reachAround_0 : decode cX0_reachAround 0 = .ok (.iconst 0, 1) := by decide +kernel
theorem eX0_reachAround_0 : dec cX0_reachAround 0 (.iconst 0) 1 1 := ⟨dX0_reachAround_0, rfl⟩
theorem dX0_reachAround_1 : decode cX0_reachAround 1 = .ok (.iload_n 2, 1) := by decide +kernel
theorem eX0_reachAround_1 : dec cX0_reachAround 1 (.iload_n 2) 1 2 := ⟨dX0_reachAround_1, rfl⟩
theorem dX0_reachAround_2 : decode cX0_reachAround 2 = .ok (.iconst 1, 1) := by decide +kernel
theorem eX0_reachAround_2 : dec cX0_reachAround 2 (.iconst 1) 1 3 := ⟨dX0_reachAround_2, rfl⟩
theorem dX0_reachAround_3 : decode cX0_reachAround 3 = .ok (.isub, 1) := by decide +kernel
theorem eX0_reachAround_3 : dec cX0_reachAround 3 .isub 1 4 := ⟨dX0_reachAround_3, rfl⟩
theorem dX0_reachAround_4 : decode cX0_reachAround 4 = .ok (.invokestatic 15, 3) := by decide +kernel
theorem eX0_reachAround_4 : dec cX0_reachAround 4 (.invokestatic 15) 3 7 := ⟨dX0_reachAround_4, rfl⟩
theorem dX0_reachAround_7 : decode cX0_reachAround 7 = .ok (.istore_n 3, 1) := by decide +kernel
theorem eX0_reachAround_7 : dec cX0_reachAround 7 (.istore_n 3) 1 8 := ⟨dX0_reachAround_7, rfl⟩
theorem dX0_reachAround_8 : decode cX0_reachAround 8 = .ok (.iload_n 3, 1) := by decide +kernel
theorem eX0_reachAround_8 : dec cX0_reachAround 8 (.iload_n 3) 1 9 := ⟨dX0_reachAround_8, rfl⟩
theorem dX0_reachAround_9 : decode cX0_reachAround 9 = .ok (.aload_n 0, 1) := by decide +kernel
theorem eX0_reachAround_9 : dec cX0_reachAround 9 (.aload_n 0) 1 10 := ⟨dX0_reachAround_9, rfl⟩
theorem dX0_reachAround_10 : decode cX0_reachAround 10 = .ok (.getfield 22, 3) := by decide +kernel
theorem eX0_reachAround_10 : dec cX0_reachAround 10 (.getfield 22) 3 13 := ⟨dX0_reachAround_10, rfl⟩
theorem dX0_reachAround_13 : decode cX0_reachAround 13 = .ok (.iconst 1, 1) := by decide +kernel
theorem eX0_reachAround_13 : dec cX0_reachAround 13 (.iconst 1) 1 14 := ⟨dX0_reachAround_13, rfl⟩
theorem dX0_reachAround_14 : decode cX0_reachAround 14 = .ok (.isub, 1) := by decide +kernel
theorem eX0_reachAround_14 : dec cX0_reachAround 14 .isub 1 15 := ⟨dX0_reachAround_14, rfl⟩
theorem dX0_reachAround_15 : decode cX0_reachAround 15 = .ok (.iload_n 2, 1) := by decide +kernel
theorem eX0_reachAround_15 : dec cX0_reachAround 15 (.iload_n 2) 1 16 := ⟨dX0_reachAround_15, rfl⟩
theorem dX0_reachAround_16 : decode cX0_reachAround 16 = .ok (.iconst 1, 1) := by decide +kernel
theorem eX0_reachAround_16 : dec cX0_reachAround 16 (.iconst 1) 1 17 := ⟨dX0_reachAround_16, rfl⟩
theorem dX0_reachAround_17 : decode cX0_reachAround 17 = .ok (.iadd, 1) := by decide +kernel
theorem eX0_reachAround_17 : dec cX0_reachAround 17 .iadd 1 18 := ⟨dX0_reachAround_17, rfl⟩
theorem dX0_reachAround_18 : decode cX0_reachAround 18 = .ok (.invokestatic 9, 3) := by decide +kernel
theorem eX0_reachAround_18 : dec cX0_reachAround 18 (.invokestatic 9) 3 21 := ⟨dX0_reachAround_18, rfl⟩
theorem dX0_reachAround_21 : decode cX0_reachAround 21 = .ok (.if_icmp .gt 54, 3) := by decide +kernel
theorem eX0_reachAround_21 : dec cX0_reachAround 21 (.if_icmp .gt 54) 3 24 := ⟨dX0_reachAround_21, rfl⟩
theorem dX0_reachAround_24 : decode cX0_reachAround 24 = .ok (.iconst 0, 1) := by decide +kernel
theorem eX0_reachAround_24 : dec cX0_reachAround 24 (.iconst 0) 1 25 := ⟨dX0_reachAround_24, rfl⟩
theorem dX0_reachAround_25 : decode cX0_reachAround 25 = .ok (.iload_n 1, 1) := by decide +kernel
theorem eX0_reachAround_25 : dec cX0_reachAround 25 (.iload_n 1) 1 26 := ⟨dX0_reachAround_25, rfl⟩
theorem dX0_reachAround_26 : decode cX0_reachAround 26 = .ok (.iconst 1, 1) := by decide +kernel
theorem eX0_reachAround_26 : dec cX0_reachAround 26 (.iconst 1) 1 27 := ⟨dX0_reachAround_26, rfl⟩
theorem dX0_reachAround_27 : decode cX0_reachAround 27 = .ok (.isub, 1) := by decide +kernel
theorem eX0_reachAround_27 : dec cX0_reachAround 27 .isub 1 28 := ⟨dX0_reachAround_27, rfl⟩
theorem dX0_reachAround_28 : decode cX0_reachAround 28 = .ok (.invokestatic 15, 3) := by decide +kernel
theorem eX0_reachAround_28 : dec cX0_reachAround 28 (.invokestatic 15) 3 31 := ⟨dX0_reachAround_28, rfl⟩
theorem dX0_reachAround_31 : decode cX0_reachAround 31 = .ok (.istore 4, 2) := by decide +kernel
theorem eX0_reachAround_31 : dec cX0_reachAround 31 (.istore 4) 2 33 := ⟨dX0_reachAround_31, rfl⟩
theorem dX0_reachAround_33 : decode cX0_reachAround 33 = .ok (.iload 4, 2) := by decide +kernel
theorem eX0_reachAround_33 : dec cX0_reachAround 33 (.iload 4) 2 35 := ⟨dX0_reachAround_33, rfl⟩
theorem dX0_reachAround_35 : decode cX0_reachAround 35 = .ok (.aload_n 0, 1) := by decide +kernel
theorem eX0_reachAround_35 : dec cX0_reachAround 35 (.aload_n 0) 1 36 := ⟨dX0_reachAround_35, rfl⟩
theorem dX0_reachAround_36 : decode cX0_reachAround 36 = .ok (.getfield 18, 3) := by decide +kernel
theorem eX0_reachAround_36 : dec cX0_reachAround 36 (.getfield 18) 3 39 := ⟨dX0_reachAround_36, rfl⟩
theorem dX0_reachAround_39 : decode cX0_reachAround 39 = .ok (.iconst 1, 1) := by decide +kernel
theorem eX0_reachAround_39 : dec cX0_reachAround 39 (.iconst 1) 1 40 := ⟨dX0_reachAround_39, rfl⟩
theorem dX0_reachAround_40 : decode cX0_reachAround 40 = .ok (.isub, 1) := by decide +kernel
theorem eX0_reachAround_40 : dec cX0_reachAround 40 .isub 1 41 := ⟨dX0_reachAround_40, rfl⟩
theorem dX0_reachAround_41 : decode cX0_reachAround 41 = .ok (.iload_n 1, 1) := by decide +kernel
theorem eX0_reachAround_41 : dec cX0_reachAround 41 (.iload_n 1) 1 42 := ⟨dX0_reachAround_41, rfl⟩
theorem dX0_reachAround_42 : decode cX0_reachAround 42 = .ok (.iconst 1, 1) := by decide +kernel
theorem eX0_reachAround_42 : dec cX0_reachAround 42 (.iconst 1) 1 43 := ⟨dX0_reachAround_42, rfl⟩
theorem dX0_reachAround_43 : decode cX0_reachAround 43 = .ok (.iadd, 1) := by decide +kernel
theorem eX0_reachAround_43 : dec cX0_reachAround 43 .iadd 1 44 := ⟨dX0_reachAround_43, rfl⟩
theorem dX0_reachAround_44 : decode cX0_reachAround 44 = .ok (.invokestatic 9, 3) := by decide +kernel
theorem eX0_reachAround_44 : dec cX0_reachAround 44 (.invokestatic 9) 3 47 := ⟨dX0_reachAround_44, rfl⟩
theorem dX0_reachAround_47 : decode cX0_reachAround 47 = .ok (.if_icmp .gt 22, 3) := by decide +kernel
theorem eX0_reachAround_47 : dec cX0_reachAround 47 (.if_icmp .gt 22) 3 50 := ⟨dX0_reachAround_47, rfl⟩
theorem dX0_reachAround_50 : decode cX0_reachAround 50 = .ok (.aload_n 0, 1) := by decide +kernel
theorem eX0_reachAround_50 : dec cX0_reachAround 50 (.aload_n 0) 1 51 := ⟨dX0_reachAround_50, rfl⟩
theorem dX0_reachAround_51 : decode cX0_reachAround 51 = .ok (.iload_n 3, 1) := by decide +kernel
theorem eX0_reachAround_51 : dec cX0_reachAround 51 (.iload_n 3) 1 52 := ⟨dX0_reachAround_51, rfl⟩
theorem dX0_reachAround_52 : decode cX0_reachAround 52 = .ok (.aload_n 0, 1) := by decide +kernel
theorem eX0_reachAround_52 : dec cX0_reachAround 52 (.aload_n 0) 1 53 := ⟨dX0_reachAround_52, rfl⟩
theorem dX0_reachAround_53 : decode cX0_reachAround 53 = .ok (.getfield 18, 3) := by decide +kernel
theorem eX0_reachAround_53 : dec cX0_reachAround 53 (.getfield 18) 3 56 := ⟨dX0_reachAround_53, rfl⟩
theorem dX0_reachAround_56 : decode cX0_reachAround 56 = .ok (.imul, 1) := by decide +kernel
theorem eX0_reachAround_56 : dec cX0_reachAround 56 .imul 1 57 := ⟨dX0_reachAround_56, rfl⟩
theorem dX0_reachAround_57 : decode cX0_reachAround 57 = .ok (.iload 4, 2) := by decide +kernel
theorem eX0_reachAround_57 : dec cX0_reachAround 57 (.iload 4) 2 59 := ⟨dX0_reachAround_57, rfl⟩
theorem dX0_reachAround_59 : decode cX0_reachAround 59 = .ok (.iadd, 1) := by decide +kernel
theorem eX0_reachAround_59 : dec cX0_reachAround 59 .iadd 1 60 := ⟨dX0_reachAround_59, rfl⟩
theorem dX0_reachAround_60 : decode cX0_reachAround 60 = .ok (.invokevirtual 148, 3) := by decide +kernel
theorem eX0_reachAround_60 : dec cX0_reachAround 60 (.invokevirtual 148) 3 63 := ⟨dX0_reachAround_60, rfl⟩
theorem dX0_reachAround_63 : decode cX0_reachAround 63 = .ok (.iinc 4 1, 3) := by decide +kernel
theorem eX0_reachAround_63 : dec cX0_reachAround 63 (.iinc 4 1) 3 66 := ⟨dX0_reachAround_63, rfl⟩
theorem dX0_reachAround_66 : decode cX0_reachAround 66 = .ok (.goto (-33), 3) := by decide +kernel
theorem eX0_reachAround_66 : dec cX0_reachAround 66 (.goto (-33)) 3 69 := ⟨dX0_reachAround_66, rfl⟩
theorem dX0_reachAround_69 : decode cX0_reachAround 69 = .ok (.iinc 3 1, 3) := by decide +kernel
theorem eX0_reachAround_69 : dec cX0_reachAround 69 (.iinc 3 1) 3 72 := ⟨dX0_reachAround_69, rfl⟩
theorem dX0_reachAround_72 : decode cX0_reachAround 72 = .ok (.goto (-64), 3) := by decide +kernel
theorem eX0_reachAround_72 : dec cX0_reachAround 72 (.goto (-64)) 3 75 := ⟨dX0_reachAround_72, rfl⟩
theorem dX0_reachAround_75 : decode cX0_reachAround 75 = .ok (.return_, 1) := by decide +kernel
theorem eX0_reachAround_75 : dec cX0_reachAround 75 .return_ 1 76 := ⟨dX0_reachAround_75, rfl⟩
theorem dX0_reach_0 : decode cX0_reach 0 = .ok (.aload_n 0, 1) := by decide +kernel
theorem eX0_reach_0 : dec cX0_reach 0 (.aload_n 0) 1 1 := ⟨dX0_reach_0, rfl⟩
theorem dX0_reach_1 : decode cX0_reach 1 = .ok (.getfield 39, 3) := by decide +kernel
theorem eX0_reach_1 : dec cX0_reach 1 (.getfield 39) 3 4 := ⟨dX0_reach_1, rfl⟩
theorem dX0_reach_4 : decode cX0_reach 4 = .ok (.iload_n 1, 1) := by decide +kernel
theorem eX0_reach_4 : dec cX0_reach 4 (.iload_n 1) 1 5 := ⟨dX0_reach_4, rfl⟩
theorem dX0_reach_5 : decode cX0_reach 5 = .ok (.baload, 1) := by decide +kernel
theorem eX0_reach_5 : dec cX0_reach 5 .baload 1 6 := ⟨dX0_reach_5, rfl⟩
theorem dX0_reach_6 : decode cX0_reach 6 = .ok (.ifCond .eq 42, 3) := by decide +kernel
theorem eX0_reach_6 : dec cX0_reach 6 (.ifCond .eq 42) 3 9 := ⟨dX0_reach_6, rfl⟩
theorem dX0_reach_9 : decode cX0_reach 9 = .ok (.aload_n 0, 1) := by decide +kernel
theorem eX0_reach_9 : dec cX0_reach 9 (.aload_n 0) 1 10 := ⟨dX0_reach_9, rfl⟩
theorem dX0_reach_10 : decode cX0_reach 10 = .ok (.getfield 92, 3) := by decide +kernel
theorem eX0_reach_10 : dec cX0_reach 10 (.getfield 92) 3 13 := ⟨dX0_reach_10, rfl⟩
theorem dX0_reach_13 : decode cX0_reach 13 = .ok (.aload_n 0, 1) := by decide +kernel
theorem eX0_reach_13 : dec cX0_reach 13 (.aload_n 0) 1 14 := ⟨dX0_reach_13, rfl⟩
theorem dX0_reach_14 : decode cX0_reach 14 = .ok (.getfield 46, 3) := by decide +kernel
theorem eX0_reach_14 : dec cX0_reach 14 (.getfield 46) 3 17 := ⟨dX0_reach_14, rfl⟩
theorem dX0_reach_17 : decode cX0_reach 17 = .ok (.arraylength, 1) := by decide +kernel
theorem eX0_reach_17 : dec cX0_reach 17 .arraylength 1 18 := ⟨dX0_reach_17, rfl⟩
theorem dX0_reach_18 : decode cX0_reach 18 = .ok (.if_icmp .ge 30, 3) := by decide +kernel
theorem eX0_reach_18 : dec cX0_reach 18 (.if_icmp .ge 30) 3 21 := ⟨dX0_reach_18, rfl⟩
theorem dX0_reach_21 : decode cX0_reach 21 = .ok (.aload_n 0, 1) := by decide +kernel
theorem eX0_reach_21 : dec cX0_reach 21 (.aload_n 0) 1 22 := ⟨dX0_reach_21, rfl⟩
theorem dX0_reach_22 : decode cX0_reach 22 = .ok (.getfield 39, 3) := by decide +kernel
theorem eX0_reach_22 : dec cX0_reach 22 (.getfield 39) 3 25 := ⟨dX0_reach_22, rfl⟩
theorem dX0_reach_25 : decode cX0_reach 25 = .ok (.iload_n 1, 1) := by decide +kernel
theorem eX0_reach_25 : dec cX0_reach 25 (.iload_n 1) 1 26 := ⟨dX0_reach_25, rfl⟩
theorem dX0_reach_26 : decode cX0_reach 26 = .ok (.iconst 0, 1) := by decide +kernel
theorem eX0_reach_26 : dec cX0_reach 26 (.iconst 0) 1 27 := ⟨dX0_reach_26, rfl⟩
theorem dX0_reach_27 : decode cX0_reach 27 = .ok (.bastore, 1) := by decide +kernel
theorem eX0_reach_27 : dec cX0_reach 27 .bastore 1 28 := ⟨dX0_reach_27, rfl⟩
theorem dX0_reach_28 : decode cX0_reach 28 = .ok (.aload_n 0, 1) := by decide +kernel
theorem eX0_reach_28 : dec cX0_reach 28 (.aload_n 0) 1 29 := ⟨dX0_reach_28, rfl⟩
theorem dX0_reach_29 : decode cX0_reach 29 = .ok (.getfield 46, 3) := by decide +kernel
theorem eX0_reach_29 : dec cX0_reach 29 (.getfield 46) 3 32 := ⟨dX0_reach_29, rfl⟩
theorem dX0_reach_32 : decode cX0_reach 32 = .ok (.aload_n 0, 1) := by decide +kernel
theorem eX0_reach_32 : dec cX0_reach 32 (.aload_n 0) 1 33 := ⟨dX0_reach_32, rfl⟩
theorem dX0_reach_33 : decode cX0_reach 33 = .ok (.getfield 92, 3) := by decide +kernel
theorem eX0_reach_33 : dec cX0_reach 33 (.getfield 92) 3 36 := ⟨dX0_reach_33, rfl⟩
theorem dX0_reach_36 : decode cX0_reach 36 = .ok (.iload_n 1, 1) := by decide +kernel
theorem eX0_reach_36 : dec cX0_reach 36 (.iload_n 1) 1 37 := ⟨dX0_reach_36, rfl⟩
theorem dX0_reach_37 : decode cX0_reach 37 = .ok (.iastore, 1) := by decide +kernel
theorem eX0_reach_37 : dec cX0_reach 37 .iastore 1 38 := ⟨dX0_reach_37, rfl⟩
theorem dX0_reach_38 : decode cX0_reach 38 = .ok (.aload_n 0, 1) := by decide +kernel
theorem eX0_reach_38 : dec cX0_reach 38 (.aload_n 0) 1 39 := ⟨dX0_reach_38, rfl⟩
theorem dX0_reach_39 : decode cX0_reach 39 = .ok (.dup, 1) := by decide +kernel
theorem eX0_reach_39 : dec cX0_reach 39 .dup 1 40 := ⟨dX0_reach_39, rfl⟩
theorem dX0_reach_40 : decode cX0_reach 40 = .ok (.getfield 92, 3) := by decide +kernel
theorem eX0_reach_40 : dec cX0_reach 40 (.getfield 92) 3 43 := ⟨dX0_reach_40, rfl⟩
theorem dX0_reach_43 : decode cX0_reach 43 = .ok (.iconst 1, 1) := by decide +kernel
theorem eX0_reach_43 : dec cX0_reach 43 (.iconst 1) 1 44 := ⟨dX0_reach_43, rfl⟩
theorem dX0_reach_44 : decode cX0_reach 44 = .ok (.iadd, 1) := by decide +kernel
theorem eX0_reach_44 : dec cX0_reach 44 .iadd 1 45 := ⟨dX0_reach_44, rfl⟩
theorem dX0_reach_45 : decode cX0_reach 45 = .ok (.putfield 92, 3) := by decide +kernel
theorem eX0_reach_45 : dec cX0_reach 45 (.putfield 92) 3 48 := ⟨dX0_reach_45, rfl⟩
theorem dX0_reach_48 : decode cX0_reach 48 = .ok (.return_, 1) := by decide +kernel
theorem eX0_reach_48 : dec cX0_reach 48 .return_ 1 49 := ⟨dX0_reach_48, rfl⟩
theorem dX0_keepPart_0 : decode cX0_keepPart 0 = .ok (.aload_n 0, 1) := by decide +kernel
theorem eX0_keepPart_0 : dec cX0_keepPart 0 (.aload_n 0) 1 1 := ⟨dX0_keepPart_0, rfl⟩
theorem dX0_keepPart_1 : decode cX0_keepPart 1 = .ok (.getfield 85, 3) := by decide +kernel
theorem eX0_keepPart_1 : dec cX0_keepPart 1 (.getfield 85) 3 4 := ⟨dX0_keepPart_1, rfl⟩
theorem dX0_keepPart_4 : decode cX0_keepPart 4 = .ok (.bipush 7, 2) := by decide +kernel
theorem eX0_keepPart_4 : dec cX0_keepPart 4 (.bipush 7) 2 6 := ⟨dX0_keepPart_4, rfl⟩
theorem dX0_keepPart_6 : decode cX0_keepPart 6 = .ok (.imul, 1) := by decide +kernel
theorem eX0_keepPart_6 : dec cX0_keepPart 6 .imul 1 7 := ⟨dX0_keepPart_6, rfl⟩
theorem dX0_keepPart_7 : decode cX0_keepPart 7 = .ok (.istore_n 1, 1) := by decide +kernel
theorem eX0_keepPart_7 : dec cX0_keepPart 7 (.istore_n 1) 1 8 := ⟨dX0_keepPart_7, rfl⟩
theorem dX0_keepPart_8 : decode cX0_keepPart 8 = .ok (.iload_n 1, 1) := by decide +kernel
theorem eX0_keepPart_8 : dec cX0_keepPart 8 (.iload_n 1) 1 9 := ⟨dX0_keepPart_8, rfl⟩
theorem dX0_keepPart_9 : decode cX0_keepPart 9 = .ok (.bipush 7, 2) := by decide +kernel
theorem eX0_keepPart_9 : dec cX0_keepPart 9 (.bipush 7) 2 11 := ⟨dX0_keepPart_9, rfl⟩
theorem dX0_keepPart_11 : decode cX0_keepPart 11 = .ok (.iadd, 1) := by decide +kernel
theorem eX0_keepPart_11 : dec cX0_keepPart 11 .iadd 1 12 := ⟨dX0_keepPart_11, rfl⟩
theorem dX0_keepPart_12 : decode cX0_keepPart 12 = .ok (.aload_n 0, 1) := by decide +kernel
theorem eX0_keepPart_12 : dec cX0_keepPart 12 (.aload_n 0) 1 13 := ⟨dX0_keepPart_12, rfl⟩
theorem dX0_keepPart_13 : decode cX0_keepPart 13 = .ok (.getfield 49, 3) := by decide +kernel
theorem eX0_keepPart_13 : dec cX0_keepPart 13 (.getfield 49) 3 16 := ⟨dX0_keepPart_13, rfl⟩
theorem dX0_keepPart_16 : decode cX0_keepPart 16 = .ok (.arraylength, 1) := by decide +kernel
theorem eX0_keepPart_16 : dec cX0_keepPart 16 .arraylength 1 17 := ⟨dX0_keepPart_16, rfl⟩
theorem dX0_keepPart_17 : decode cX0_keepPart 17 = .ok (.if_icmp .le 4, 3) := by decide +kernel
theorem eX0_keepPart_17 : dec cX0_keepPart 17 (.if_icmp .le 4) 3 20 := ⟨dX0_keepPart_17, rfl⟩
theorem dX0_keepPart_20 : decode cX0_keepPart 20 = .ok (.return_, 1) := by decide +kernel
theorem eX0_keepPart_20 : dec cX0_keepPart 20 .return_ 1 21 := ⟨dX0_keepPart_20, rfl⟩
theorem dX0_keepPart_21 : decode cX0_keepPart 21 = .ok (.aload_n 0, 1) := by decide +kernel
theorem eX0_keepPart_21 : dec cX0_keepPart 21 (.aload_n 0) 1 22 := ⟨dX0_keepPart_21, rfl⟩
theorem dX0_keepPart_22 : decode cX0_keepPart 22 = .ok (.getfield 18, 3) := by decide +kernel
theorem eX0_keepPart_22 : dec cX0_keepPart 22 (.getfield 18) 3 25 := ⟨dX0_keepPart_22, rfl⟩
theorem dX0_keepPart_25 : decode cX0_keepPart 25 = .ok (.istore_n 2, 1) := by decide +kernel
theorem eX0_keepPart_25 : dec cX0_keepPart 25 (.istore_n 2) 1 26 := ⟨dX0_keepPart_25, rfl⟩
theorem dX0_keepPart_26 : decode cX0_keepPart 26 = .ok (.aload_n 0, 1) := by decide +kernel
theorem eX0_keepPart_26 : dec cX0_keepPart 26 (.aload_n 0) 1 27 := ⟨dX0_keepPart_26, rfl⟩
theorem dX0_keepPart_27 : decode cX0_keepPart 27 = .ok (.getfield 22, 3) := by decide +kernel
theorem eX0_keepPart_27 : dec cX0_keepPart 27 (.getfield 22) 3 30 := ⟨dX0_keepPart_27, rfl⟩
theorem dX0_keepPart_30 : decode cX0_keepPart 30 = .ok (.istore_n 3, 1) := by decide +kernel
theorem eX0_keepPart_30 : dec cX0_keepPart 30 (.istore_n 3) 1 31 := ⟨dX0_keepPart_30, rfl⟩
theorem dX0_keepPart_31 : decode cX0_keepPart 31 = .ok (.iconst 0, 1) := by decide +kernel
theorem eX0_keepPart_31 : dec cX0_keepPart 31 (.iconst 0) 1 32 := ⟨dX0_keepPart_31, rfl⟩
theorem dX0_keepPart_32 : decode cX0_keepPart 32 = .ok (.istore 4, 2) := by decide +kernel
theorem eX0_keepPart_32 : dec cX0_keepPart 32 (.istore 4) 2 34 := ⟨dX0_keepPart_32, rfl⟩
theorem dX0_keepPart_34 : decode cX0_keepPart 34 = .ok (.iconst 0, 1) := by decide +kernel
theorem eX0_keepPart_34 : dec cX0_keepPart 34 (.iconst 0) 1 35 := ⟨dX0_keepPart_34, rfl⟩
theorem dX0_keepPart_35 : decode cX0_keepPart 35 = .ok (.istore 5, 2) := by decide +kernel
theorem eX0_keepPart_35 : dec cX0_keepPart 35 (.istore 5) 2 37 := ⟨dX0_keepPart_35, rfl⟩
theorem dX0_keepPart_37 : decode cX0_keepPart 37 = .ok (.iconst 0, 1) := by decide +kernel
theorem eX0_keepPart_37 : dec cX0_keepPart 37 (.iconst 0) 1 38 := ⟨dX0_keepPart_37, rfl⟩
theorem dX0_keepPart_38 : decode cX0_keepPart 38 = .ok (.istore 6, 2) := by decide +kernel
theorem eX0_keepPart_38 : dec cX0_keepPart 38 (.istore 6) 2 40 := ⟨dX0_keepPart_38, rfl⟩
theorem dX0_keepPart_40 : decode cX0_keepPart 40 = .ok (.iconst 0, 1) := by decide +kernel
theorem eX0_keepPart_40 : dec cX0_keepPart 40 (.iconst 0) 1 41 := ⟨dX0_keepPart_40, rfl⟩
theorem dX0_keepPart_41 : decode cX0_keepPart 41 = .ok (.istore 7, 2) := by decide +kernel
theorem eX0_keepPart_41 : dec cX0_keepPart 41 (.istore 7) 2 43 := ⟨dX0_keepPart_41, rfl⟩
theorem dX0_keepPart_43 : decode cX0_keepPart 43 = .ok (.iconst 0, 1) := by decide +kernel
theorem eX0_keepPart_43 : dec cX0_keepPart 43 (.iconst 0) 1 44 := ⟨dX0_keepPart_43, rfl⟩
theorem dX0_keepPart_44 : decode cX0_keepPart 44 = .ok (.istore 8, 2) := by decide +kernel
theorem eX0_keepPart_44 : dec cX0_keepPart 44 (.istore 8) 2 46 := ⟨dX0_keepPart_44, rfl⟩
theorem dX0_keepPart_46 : decode cX0_keepPart 46 = .ok (.iload 8, 2) := by decide +kernel
theorem eX0_keepPart_46 : dec cX0_keepPart 46 (.iload 8) 2 48 := ⟨dX0_keepPart_46, rfl⟩
theorem dX0_keepPart_48 : decode cX0_keepPart 48 = .ok (.aload_n 0, 1) := by decide +kernel
theorem eX0_keepPart_48 : dec cX0_keepPart 48 (.aload_n 0) 1 49 := ⟨dX0_keepPart_48, rfl⟩
theorem dX0_keepPart_49 : decode cX0_keepPart 49 = .ok (.getfield 92, 3) := by decide +kernel
theorem eX0_keepPart_49 : dec cX0_keepPart 49 (.getfield 92) 3 52 := ⟨dX0_keepPart_49, rfl⟩
theorem dX0_keepPart_52 : decode cX0_keepPart 52 = .ok (.if_icmp .ge 83, 3) := by decide +kernel
theorem eX0_keepPart_52 : dec cX0_keepPart 52 (.if_icmp .ge 83) 3 55 := ⟨dX0_keepPart_52, rfl⟩
theorem dX0_keepPart_55 : decode cX0_keepPart 55 = .ok (.aload_n 0, 1) := by decide +kernel
theorem eX0_keepPart_55 : dec cX0_keepPart 55 (.aload_n 0) 1 56 := ⟨dX0_keepPart_55, rfl⟩
theorem dX0_keepPart_56 : decode cX0_keepPart 56 = .ok (.getfield 46, 3) := by decide +kernel
theorem eX0_keepPart_56 : dec cX0_keepPart 56 (.getfield 46) 3 59 := ⟨dX0_keepPart_56, rfl⟩
theorem dX0_keepPart_59 : decode cX0_keepPart 59 = .ok (.iload 8, 2) := by decide +kernel
theorem eX0_keepPart_59 : dec cX0_keepPart 59 (.iload 8) 2 61 := ⟨dX0_keepPart_59, rfl⟩
theorem dX0_keepPart_61 : decode cX0_keepPart 61 = .ok (.iaload, 1) := by decide +kernel
theorem eX0_keepPart_61 : dec cX0_keepPart 61 .iaload 1 62 := ⟨dX0_keepPart_61, rfl⟩
theorem dX0_keepPart_62 : decode cX0_keepPart 62 = .ok (.aload_n 0, 1) := by decide +kernel
theorem eX0_keepPart_62 : dec cX0_keepPart 62 (.aload_n 0) 1 63 := ⟨dX0_keepPart_62, rfl⟩
theorem dX0_keepPart_63 : decode cX0_keepPart 63 = .ok (.getfield 18, 3) := by decide +kernel
theorem eX0_keepPart_63 : dec cX0_keepPart 63 (.getfield 18) 3 66 := ⟨dX0_keepPart_63, rfl⟩
theorem dX0_keepPart_66 : decode cX0_keepPart 66 = .ok (.irem, 1) := by decide +kernel
theorem eX0_keepPart_66 : dec cX0_keepPart 66 .irem 1 67 := ⟨dX0_keepPart_66, rfl⟩
theorem dX0_keepPart_67 : decode cX0_keepPart 67 = .ok (.istore 9, 2) := by decide +kernel
theorem eX0_keepPart_67 : dec cX0_keepPart 67 (.istore 9) 2 69 := ⟨dX0_keepPart_67, rfl⟩
theorem dX0_keepPart_69 : decode cX0_keepPart 69 = .ok (.aload_n 0, 1) := by decide +kernel
theorem eX0_keepPart_69 : dec cX0_keepPart 69 (.aload_n 0) 1 70 := ⟨dX0_keepPart_69, rfl⟩
theorem dX0_keepPart_70 : decode cX0_keepPart 70 = .ok (.getfield 46, 3) := by decide +kernel
theorem eX0_keepPart_70 : dec cX0_keepPart 70 (.getfield 46) 3 73 := ⟨dX0_keepPart_70, rfl⟩
theorem dX0_keepPart_73 : decode cX0_keepPart 73 = .ok (.iload 8, 2) := by decide +kernel
theorem eX0_keepPart_73 : dec cX0_keepPart 73 (.iload 8) 2 75 := ⟨dX0_keepPart_73, rfl⟩
theorem dX0_keepPart_75 : decode cX0_keepPart 75 = .ok (.iaload, 1) := by decide +kernel
theorem eX0_keepPart_75 : dec cX0_keepPart 75 .iaload 1 76 := ⟨dX0_keepPart_75, rfl⟩
theorem dX0_keepPart_76 : decode cX0_keepPart 76 = .ok (.aload_n 0, 1) := by decide +kernel
theorem eX0_keepPart_76 : dec cX0_keepPart 76 (.aload_n 0) 1 77 := ⟨dX0_keepPart_76, rfl⟩
theorem dX0_keepPart_77 : decode cX0_keepPart 77 = .ok (.getfield 18, 3) := by decide +kernel
theorem eX0_keepPart_77 : dec cX0_keepPart 77 (.getfield 18) 3 80 := ⟨dX0_keepPart_77, rfl⟩
theorem dX0_keepPart_80 : decode cX0_keepPart 80 = .ok (.idiv, 1) := by decide +kernel
theorem eX0_keepPart_80 : dec cX0_keepPart 80 .idiv 1 81 := ⟨dX0_keepPart_80, rfl⟩
theorem dX0_keepPart_81 : decode cX0_keepPart 81 = .ok (.istore 10, 2) := by decide +kernel
theorem eX0_keepPart_81 : dec cX0_keepPart 81 (.istore 10) 2 83 := ⟨dX0_keepPart_81, rfl⟩
theorem dX0_keepPart_83 : decode cX0_keepPart 83 = .ok (.iload_n 2, 1) := by decide +kernel
theorem eX0_keepPart_83 : dec cX0_keepPart 83 (.iload_n 2) 1 84 := ⟨dX0_keepPart_83, rfl⟩
theorem dX0_keepPart_84 : decode cX0_keepPart 84 = .ok (.iload 9, 2) := by decide +kernel
theorem eX0_keepPart_84 : dec cX0_keepPart 84 (.iload 9) 2 86 := ⟨dX0_keepPart_84, rfl⟩
theorem dX0_keepPart_86 : decode cX0_keepPart 86 = .ok (.invokestatic 9, 3) := by decide +kernel
theorem eX0_keepPart_86 : dec cX0_keepPart 86 (.invokestatic 9) 3 89 := ⟨dX0_keepPart_86, rfl⟩
theorem dX0_keepPart_89 : decode cX0_keepPart 89 = .ok (.istore_n 2, 1) := by decide +kernel
theorem eX0_keepPart_89 : dec cX0_keepPart 89 (.istore_n 2) 1 90 := ⟨dX0_keepPart_89, rfl⟩
theorem dX0_keepPart_90 : decode cX0_keepPart 90 = .ok (.iload_n 3, 1) := by decide +kernel
theorem eX0_keepPart_90 : dec cX0_keepPart 90 (.iload_n 3) 1 91 := ⟨dX0_keepPart_90, rfl⟩
theorem dX0_keepPart_91 : decode cX0_keepPart 91 = .ok (.iload 10, 2) := by decide +kernel
theorem eX0_keepPart_91 : dec cX0_keepPart 91 (.iload 10) 2 93 := ⟨dX0_keepPart_91, rfl⟩
theorem dX0_keepPart_93 : decode cX0_keepPart 93 = .ok (.invokestatic 9, 3) := by decide +kernel
theorem eX0_keepPart_93 : dec cX0_keepPart 93 (.invokestatic 9) 3 96 := ⟨dX0_keepPart_93, rfl⟩
theorem dX0_keepPart_96 : decode cX0_keepPart 96 = .ok (.istore_n 3, 1) := by decide +kernel
theorem eX0_keepPart_96 : dec cX0_keepPart 96 (.istore_n 3) 1 97 := ⟨dX0_keepPart_96, rfl⟩
theorem dX0_keepPart_97 : decode cX0_keepPart 97 = .ok (.iload 4, 2) := by decide +kernel
theorem eX0_keepPart_97 : dec cX0_keepPart 97 (.iload 4) 2 99 := ⟨dX0_keepPart_97, rfl⟩
theorem dX0_keepPart_99 : decode cX0_keepPart 99 = .ok (.iload 9, 2) := by decide +kernel
theorem eX0_keepPart_99 : dec cX0_keepPart 99 (.iload 9) 2 101 := ⟨dX0_keepPart_99, rfl⟩
theorem dX0_keepPart_101 : decode cX0_keepPart 101 = .ok (.invokestatic 15, 3) := by decide +kernel
theorem eX0_keepPart_101 : dec cX0_keepPart 101 (.invokestatic 15) 3 104 := ⟨dX0_keepPart_101, rfl⟩
theorem dX0_keepPart_104 : decode cX0_keepPart 104 = .ok (.istore 4, 2) := by decide +kernel
theorem eX0_keepPart_104 : dec cX0_keepPart 104 (.istore 4) 2 106 := ⟨dX0_keepPart_104, rfl⟩
theorem dX0_keepPart_106 : decode cX0_keepPart 106 = .ok (.iload 5, 2) := by decide +kernel
theorem eX0_keepPart_106 : dec cX0_keepPart 106 (.iload 5) 2 108 := ⟨dX0_keepPart_106, rfl⟩
theorem dX0_keepPart_108 : decode cX0_keepPart 108 = .ok (.iload 10, 2) := by decide +kernel
theorem eX0_keepPart_108 : dec cX0_keepPart 108 (.iload 10) 2 110 := ⟨dX0_keepPart_108, rfl⟩
theorem dX0_keepPart_110 : decode cX0_keepPart 110 = .ok (.invokestatic 15, 3) := by decide +kernel
theorem eX0_keepPart_110 : dec cX0_keepPart 110 (.invokestatic 15) 3 113 := ⟨dX0_keepPart_110, rfl⟩
theorem dX0_keepPart_113 : decode cX0_keepPart 113 = .ok (.istore 5, 2) := by decide +kernel
theorem eX0_keepPart_113 : dec cX0_keepPart 113 (.istore 5) 2 115 := ⟨dX0_keepPart_113, rfl⟩
theorem dX0_keepPart_115 : decode cX0_keepPart 115 = .ok (.iload 6, 2) := by decide +kernel
theorem eX0_keepPart_115 : dec cX0_keepPart 115 (.iload 6) 2 117 := ⟨dX0_keepPart_115, rfl⟩
theorem dX0_keepPart_117 : decode cX0_keepPart 117 = .ok (.iload 9, 2) := by decide +kernel
theorem eX0_keepPart_117 : dec cX0_keepPart 117 (.iload 9) 2 119 := ⟨dX0_keepPart_117, rfl⟩
theorem dX0_keepPart_119 : decode cX0_keepPart 119 = .ok (.iadd, 1) := by decide +kernel
theorem eX0_keepPart_119 : dec cX0_keepPart 119 .iadd 1 120 := ⟨dX0_keepPart_119, rfl⟩
theorem dX0_keepPart_120 : decode cX0_keepPart 120 = .ok (.istore 6, 2) := by decide +kernel
theorem eX0_keepPart_120 : dec cX0_keepPart 120 (.istore 6) 2 122 := ⟨dX0_keepPart_120, rfl⟩
theorem dX0_keepPart_122 : decode cX0_keepPart 122 = .ok (.iload 7, 2) := by decide +kernel
theorem eX0_keepPart_122 : dec cX0_keepPart 122 (.iload 7) 2 124 := ⟨dX0_keepPart_122, rfl⟩
theorem dX0_keepPart_124 : decode cX0_keepPart 124 = .ok (.iload 10, 2) := by decide +kernel
theorem eX0_keepPart_124 : dec cX0_keepPart 124 (.iload 10) 2 126 := ⟨dX0_keepPart_124, rfl⟩
theorem dX0_keepPart_126 : decode cX0_keepPart 126 = .ok (.iadd, 1) := by decide +kernel
theorem eX0_keepPart_126 : dec cX0_keepPart 126 .iadd 1 127 := ⟨dX0_keepPart_126, rfl⟩
theorem dX0_keepPart_127 : decode cX0_keepPart 127 = .ok (.istore 7, 2) := by decide +kernel
theorem eX0_keepPart_127 : dec cX0_keepPart 127 (.istore 7) 2 129 := ⟨dX0_keepPart_127, rfl⟩
theorem dX0_keepPart_129 : decode cX0_keepPart 129 = .ok (.iinc 8 1, 3) := by decide +kernel
theorem eX0_keepPart_129 : dec cX0_keepPart 129 (.iinc 8 1) 3 132 := ⟨dX0_keepPart_129, rfl⟩
theorem dX0_keepPart_132 : decode cX0_keepPart 132 = .ok (.goto (-86), 3) := by decide +kernel
theorem eX0_keepPart_132 : dec cX0_keepPart 132 (.goto (-86)) 3 135 := ⟨dX0_keepPart_132, rfl⟩
theorem dX0_keepPart_135 : decode cX0_keepPart 135 = .ok (.aload_n 0, 1) := by decide +kernel
theorem eX0_keepPart_135 : dec cX0_keepPart 135 (.aload_n 0) 1 136 := ⟨dX0_keepPart_135, rfl⟩
theorem dX0_keepPart_136 : decode cX0_keepPart 136 = .ok (.getfield 49, 3) := by decide +kernel
theorem eX0_keepPart_136 : dec cX0_keepPart 136 (.getfield 49) 3 139 := ⟨dX0_keepPart_136, rfl⟩
theorem dX0_keepPart_139 : decode cX0_keepPart 139 = .ok (.iload_n 1, 1) := by decide +kernel
theorem eX0_keepPart_139 : dec cX0_keepPart 139 (.iload_n 1) 1 140 := ⟨dX0_keepPart_139, rfl⟩
theorem dX0_keepPart_140 : decode cX0_keepPart 140 = .ok (.iload_n 2, 1) := by decide +kernel
theorem eX0_keepPart_140 : dec cX0_keepPart 140 (.iload_n 2) 1 141 := ⟨dX0_keepPart_140, rfl⟩
theorem dX0_keepPart_141 : decode cX0_keepPart 141 = .ok (.iastore, 1) := by decide +kernel
theorem eX0_keepPart_141 : dec cX0_keepPart 141 .iastore 1 142 := ⟨dX0_keepPart_141, rfl⟩
theorem dX0_keepPart_142 : decode cX0_keepPart 142 = .ok (.aload_n 0, 1) := by decide +kernel
theorem eX0_keepPart_142 : dec cX0_keepPart 142 (.aload_n 0) 1 143 := ⟨dX0_keepPart_142, rfl⟩
theorem dX0_keepPart_143 : decode cX0_keepPart 143 = .ok (.getfield 49, 3) := by decide +kernel
theorem eX0_keepPart_143 : dec cX0_keepPart 143 (.getfield 49) 3 146 := ⟨dX0_keepPart_143, rfl⟩
theorem dX0_keepPart_146 : decode cX0_keepPart 146 = .ok (.iload_n 1, 1) := by decide +kernel
theorem eX0_keepPart_146 : dec cX0_keepPart 146 (.iload_n 1) 1 147 := ⟨dX0_keepPart_146, rfl⟩
theorem dX0_keepPart_147 : decode cX0_keepPart 147 = .ok (.iconst 1, 1) := by decide +kernel
theorem eX0_keepPart_147 : dec cX0_keepPart 147 (.iconst 1) 1 148 := ⟨dX0_keepPart_147, rfl⟩
theorem dX0_keepPart_148 : decode cX0_keepPart 148 = .ok (.iadd, 1) := by decide +kernel
theorem eX0_keepPart_148 : dec cX0_keepPart 148 .iadd 1 149 := ⟨dX0_keepPart_148, rfl⟩
theorem dX0_keepPart_149 : decode cX0_keepPart 149 = .ok (.iload_n 3, 1) := by decide +kernel
theorem eX0_keepPart_149 : dec cX0_keepPart 149 (.iload_n 3) 1 150 := ⟨dX0_keepPart_149, rfl⟩
theorem dX0_keepPart_150 : decode cX0_keepPart 150 = .ok (.iastore, 1) := by decide +kernel
theorem eX0_keepPart_150 : dec cX0_keepPart 150 .iastore 1 151 := ⟨dX0_keepPart_150, rfl⟩
theorem dX0_keepPart_151 : decode cX0_keepPart 151 = .ok (.aload_n 0, 1) := by decide +kernel
theorem eX0_keepPart_151 : dec cX0_keepPart 151 (.aload_n 0) 1 152 := ⟨dX0_keepPart_151, rfl⟩
theorem dX0_keepPart_152 : decode cX0_keepPart 152 = .ok (.getfield 49, 3) := by decide +kernel
theorem eX0_keepPart_152 : dec cX0_keepPart 152 (.getfield 49) 3 155 := ⟨dX0_keepPart_152, rfl⟩
theorem dX0_keepPart_155 : decode cX0_keepPart 155 = .ok (.iload_n 1, 1) := by decide +kernel
theorem eX0_keepPart_155 : dec cX0_keepPart 155 (.iload_n 1) 1 156 := ⟨dX0_keepPart_155, rfl⟩
theorem dX0_keepPart_156 : decode cX0_keepPart 156 = .ok (.iconst 2, 1) := by decide +kernel
theorem eX0_keepPart_156 : dec cX0_keepPart 156 (.iconst 2) 1 157 := ⟨dX0_keepPart_156, rfl⟩
theorem dX0_keepPart_157 : decode cX0_keepPart 157 = .ok (.iadd, 1) := by decide +kernel
theorem eX0_keepPart_157 : dec cX0_keepPart 157 .iadd 1 158 := ⟨dX0_keepPart_157, rfl⟩
theorem dX0_keepPart_158 : decode cX0_keepPart 158 = .ok (.iload 4, 2) := by decide +kernel
theorem eX0_keepPart_158 : dec cX0_keepPart 158 (.iload 4) 2 160 := ⟨dX0_keepPart_158, rfl⟩
theorem dX0_keepPart_160 : decode cX0_keepPart 160 = .ok (.iastore, 1) := by decide +kernel
theorem eX0_keepPart_160 : dec cX0_keepPart 160 .iastore 1 161 := ⟨dX0_keepPart_160, rfl⟩
theorem dX0_keepPart_161 : decode cX0_keepPart 161 = .ok (.aload_n 0, 1) := by decide +kernel
theorem eX0_keepPart_161 : dec cX0_keepPart 161 (.aload_n 0) 1 162 := ⟨dX0_keepPart_161, rfl⟩
theorem dX0_keepPart_162 : decode cX0_keepPart 162 = .ok (.getfield 49, 3) := by decide +kernel
theorem eX0_keepPart_162 : dec cX0_keepPart 162 (.getfield 49) 3 165 := ⟨dX0_keepPart_162, rfl⟩
theorem dX0_keepPart_165 : decode cX0_keepPart 165 = .ok (.iload_n 1, 1) := by decide +kernel
theorem eX0_keepPart_165 : dec cX0_keepPart 165 (.iload_n 1) 1 166 := ⟨dX0_keepPart_165, rfl⟩
theorem dX0_keepPart_166 : decode cX0_keepPart 166 = .ok (.iconst 3, 1) := by decide +kernel
theorem eX0_keepPart_166 : dec cX0_keepPart 166 (.iconst 3) 1 167 := ⟨dX0_keepPart_166, rfl⟩
theorem dX0_keepPart_167 : decode cX0_keepPart 167 = .ok (.iadd, 1) := by decide +kernel
theorem eX0_keepPart_167 : dec cX0_keepPart 167 .iadd 1 168 := ⟨dX0_keepPart_167, rfl⟩
theorem dX0_keepPart_168 : decode cX0_keepPart 168 = .ok (.iload 5, 2) := by decide +kernel
theorem eX0_keepPart_168 : dec cX0_keepPart 168 (.iload 5) 2 170 := ⟨dX0_keepPart_168, rfl⟩
theorem dX0_keepPart_170 : decode cX0_keepPart 170 = .ok (.iastore, 1) := by decide +kernel
theorem eX0_keepPart_170 : dec cX0_keepPart 170 .iastore 1 171 := ⟨dX0_keepPart_170, rfl⟩
theorem dX0_keepPart_171 : decode cX0_keepPart 171 = .ok (.aload_n 0, 1) := by decide +kernel
theorem eX0_keepPart_171 : dec cX0_keepPart 171 (.aload_n 0) 1 172 := ⟨dX0_keepPart_171, rfl⟩
theorem dX0_keepPart_172 : decode cX0_keepPart 172 = .ok (.getfield 49, 3) := by decide +kernel
theorem eX0_keepPart_172 : dec cX0_keepPart 172 (.getfield 49) 3 175 := ⟨dX0_keepPart_172, rfl⟩
theorem dX0_keepPart_175 : decode cX0_keepPart 175 = .ok (.iload_n 1, 1) := by decide +kernel
theorem eX0_keepPart_175 : dec cX0_keepPart 175 (.iload_n 1) 1 176 := ⟨dX0_keepPart_175, rfl⟩
theorem dX0_keepPart_176 : decode cX0_keepPart 176 = .ok (.iconst 4, 1) := by decide +kernel
theorem eX0_keepPart_176 : dec cX0_keepPart 176 (.iconst 4) 1 177 := ⟨dX0_keepPart_176, rfl⟩
theorem dX0_keepPart_177 : decode cX0_keepPart 177 = .ok (.iadd, 1) := by decide +kernel
theorem eX0_keepPart_177 : dec cX0_keepPart 177 .iadd 1 178 := ⟨dX0_keepPart_177, rfl⟩
theorem dX0_keepPart_178 : decode cX0_keepPart 178 = .ok (.aload_n 0, 1) := by decide +kernel
theorem eX0_keepPart_178 : dec cX0_keepPart 178 (.aload_n 0) 1 179 := ⟨dX0_keepPart_178, rfl⟩
theorem dX0_keepPart_179 : decode cX0_keepPart 179 = .ok (.getfield 92, 3) := by decide +kernel
theorem eX0_keepPart_179 : dec cX0_keepPart 179 (.getfield 92) 3 182 := ⟨dX0_keepPart_179, rfl⟩
theorem dX0_keepPart_182 : decode cX0_keepPart 182 = .ok (.iastore, 1) := by decide +kernel
theorem eX0_keepPart_182 : dec cX0_keepPart 182 .iastore 1 183 := ⟨dX0_keepPart_182, rfl⟩
theorem dX0_keepPart_183 : decode cX0_keepPart 183 = .ok (.aload_n 0, 1) := by decide +kernel
theorem eX0_keepPart_183 : dec cX0_keepPart 183 (.aload_n 0) 1 184 := ⟨dX0_keepPart_183, rfl⟩
theorem dX0_keepPart_184 : decode cX0_keepPart 184 = .ok (.getfield 49, 3) := by decide +kernel
theorem eX0_keepPart_184 : dec cX0_keepPart 184 (.getfield 49) 3 187 := ⟨dX0_keepPart_184, rfl⟩
theorem dX0_keepPart_187 : decode cX0_keepPart 187 = .ok (.iload_n 1, 1) := by decide +kernel
theorem eX0_keepPart_187 : dec cX0_keepPart 187 (.iload_n 1) 1 188 := ⟨dX0_keepPart_187, rfl⟩
theorem dX0_keepPart_188 : decode cX0_keepPart 188 = .ok (.iconst 5, 1) := by decide +kernel
theorem eX0_keepPart_188 : dec cX0_keepPart 188 (.iconst 5) 1 189 := ⟨dX0_keepPart_188, rfl⟩
theorem dX0_keepPart_189 : decode cX0_keepPart 189 = .ok (.iadd, 1) := by decide +kernel
theorem eX0_keepPart_189 : dec cX0_keepPart 189 .iadd 1 190 := ⟨dX0_keepPart_189, rfl⟩
theorem dX0_keepPart_190 : decode cX0_keepPart 190 = .ok (.iload 6, 2) := by decide +kernel
theorem eX0_keepPart_190 : dec cX0_keepPart 190 (.iload 6) 2 192 := ⟨dX0_keepPart_190, rfl⟩
theorem dX0_keepPart_192 : decode cX0_keepPart 192 = .ok (.iastore, 1) := by decide +kernel
theorem eX0_keepPart_192 : dec cX0_keepPart 192 .iastore 1 193 := ⟨dX0_keepPart_192, rfl⟩
theorem dX0_keepPart_193 : decode cX0_keepPart 193 = .ok (.aload_n 0, 1) := by decide +kernel
theorem eX0_keepPart_193 : dec cX0_keepPart 193 (.aload_n 0) 1 194 := ⟨dX0_keepPart_193, rfl⟩
theorem dX0_keepPart_194 : decode cX0_keepPart 194 = .ok (.getfield 49, 3) := by decide +kernel
theorem eX0_keepPart_194 : dec cX0_keepPart 194 (.getfield 49) 3 197 := ⟨dX0_keepPart_194, rfl⟩
theorem dX0_keepPart_197 : decode cX0_keepPart 197 = .ok (.iload_n 1, 1) := by decide +kernel
theorem eX0_keepPart_197 : dec cX0_keepPart 197 (.iload_n 1) 1 198 := ⟨dX0_keepPart_197, rfl⟩
theorem dX0_keepPart_198 : decode cX0_keepPart 198 = .ok (.bipush 6, 2) := by decide +kernel
theorem eX0_keepPart_198 : dec cX0_keepPart 198 (.bipush 6) 2 200 := ⟨dX0_keepPart_198, rfl⟩
theorem dX0_keepPart_200 : decode cX0_keepPart 200 = .ok (.iadd, 1) := by decide +kernel
theorem eX0_keepPart_200 : dec cX0_keepPart 200 .iadd 1 201 := ⟨dX0_keepPart_200, rfl⟩
theorem dX0_keepPart_201 : decode cX0_keepPart 201 = .ok (.iload 7, 2) := by decide +kernel
theorem eX0_keepPart_201 : dec cX0_keepPart 201 (.iload 7) 2 203 := ⟨dX0_keepPart_201, rfl⟩
theorem dX0_keepPart_203 : decode cX0_keepPart 203 = .ok (.iastore, 1) := by decide +kernel
theorem eX0_keepPart_203 : dec cX0_keepPart 203 .iastore 1 204 := ⟨dX0_keepPart_203, rfl⟩
theorem dX0_keepPart_204 : decode cX0_keepPart 204 = .ok (.aload_n 0, 1) := by decide +kernel
theorem eX0_keepPart_204 : dec cX0_keepPart 204 (.aload_n 0) 1 205 := ⟨dX0_keepPart_204, rfl⟩
theorem dX0_keepPart_205 : decode cX0_keepPart 205 = .ok (.dup, 1) := by decide +kernel
theorem eX0_keepPart_205 : dec cX0_keepPart 205 .dup 1 206 := ⟨dX0_keepPart_205, rfl⟩
theorem dX0_keepPart_206 : decode cX0_keepPart 206 = .ok (.getfield 85, 3) := by decide +kernel
theorem eX0_keepPart_206 : dec cX0_keepPart 206 (.getfield 85) 3 209 := ⟨dX0_keepPart_206, rfl⟩
theorem dX0_keepPart_209 : decode cX0_keepPart 209 = .ok (.iconst 1, 1) := by decide +kernel
theorem eX0_keepPart_209 : dec cX0_keepPart 209 (.iconst 1) 1 210 := ⟨dX0_keepPart_209, rfl⟩
theorem dX0_keepPart_210 : decode cX0_keepPart 210 = .ok (.iadd, 1) := by decide +kernel
theorem eX0_keepPart_210 : dec cX0_keepPart 210 .iadd 1 211 := ⟨dX0_keepPart_210, rfl⟩
theorem dX0_keepPart_211 : decode cX0_keepPart 211 = .ok (.putfield 85, 3) := by decide +kernel
theorem eX0_keepPart_211 : dec cX0_keepPart 211 (.putfield 85) 3 214 := ⟨dX0_keepPart_211, rfl⟩
theorem dX0_keepPart_214 : decode cX0_keepPart 214 = .ok (.return_, 1) := by decide +kernel
theorem eX0_keepPart_214 : dec cX0_keepPart 214 .return_ 1 215 := ⟨dX0_keepPart_214, rfl⟩
set_option maxRecDepth 20000 in
theorem ggX0_shearAt_J9_floorDiv_7cf53 : GoodIn wsX0_shearAt wsJ9_floorDiv_7cf53 := goodIn_r _ [5] (by decide +kernel) (by decide +kernel)
set_option maxRecDepth 20000 in
theorem gX0_shearAt_J9_floorDiv_7cf53 : GoodIn wsX0_shearAt (va_wsS RX0 155 yJ9_floorDiv_7cf53 wsJ9_floorDiv_7cf53) := goodIn_app (goodIn_of _ (by decide +kernel)) ggX0_shearAt_J9_floorDiv_7cf53
set_option maxRecDepth 20000 in
theorem ggX0_shearAt_J9_floorMod_7cf53 : GoodIn wsX0_shearAt wsJ9_floorMod_7cf53 := goodIn_r _ [8] (by decide +kernel) (by decide +kernel)
set_option maxRecDepth 20000 in
theorem gX0_shearAt_J9_floorMod_7cf53 : GoodIn wsX0_shearAt (va_wsS RX0 158 yJ9_floorMod_7cf53 wsJ9_floorMod_7cf53) := goodIn_app (goodIn_of _ (by decide +kernel)) ggX0_shearAt_J9_floorMod_7cf53
theorem dX0_shearAt_0 : decode cX0_shearAt 0 = .ok (.iload_n 2, 1) := by decide +kernel
theorem eX0_shearAt_0 : dec cX0_shearAt 0 (.iload_n 2) 1 1 := ⟨dX0_shearAt_0, rfl⟩
theorem dX0_shearAt_1 : decode cX0_shearAt 1 = .ok (.iload_n 1, 1) := by decide +kernel
theorem eX0_shearAt_1 : dec cX0_shearAt 1 (.iload_n 1) 1 2 := ⟨dX0_shearAt_1, rfl⟩
theorem dX0_shearAt_2 : decode cX0_shearAt 2 = .ok (.imul, 1) := by decide +kernel
theorem eX0_shearAt_2 : dec cX0_shearAt 2 .imul 1 3 := ⟨dX0_shearAt_2, rfl⟩
theorem dX0_shearAt_3 : decode cX0_shearAt 3 = .ok (.bipush 32, 2) := by decide +kernel
theorem eX0_shearAt_3 : dec cX0_shearAt 3 (.bipush 32) 2 5 := ⟨dX0_shearAt_3, rfl⟩
theorem dX0_shearAt_5 : decode cX0_shearAt 5 = .ok (.invokestatic 155, 3) := by decide +kernel
theorem eX0_shearAt_5 : dec cX0_shearAt 5 (.invokestatic 155) 3 8 := ⟨dX0_shearAt_5, rfl⟩
theorem dX0_shearAt_8 : decode cX0_shearAt 8 = .ok (.aload_n 0, 1) := by decide +kernel
theorem eX0_shearAt_8 : dec cX0_shearAt 8 (.aload_n 0) 1 9 := ⟨dX0_shearAt_8, rfl⟩
theorem dX0_shearAt_9 : decode cX0_shearAt 9 = .ok (.getfield 22, 3) := by decide +kernel
theorem eX0_shearAt_9 : dec cX0_shearAt 9 (.getfield 22) 3 12 := ⟨dX0_shearAt_9, rfl⟩
theorem dX0_shearAt_12 : decode cX0_shearAt 12 = .ok (.invokestatic 158, 3) := by decide +kernel
theorem eX0_shearAt_12 : dec cX0_shearAt 12 (.invokestatic 158) 3 15 := ⟨dX0_shearAt_12, rfl⟩
theorem dX0_shearAt_15 : decode cX0_shearAt 15 = .ok (.ireturn, 1) := by decide +kernel
theorem eX0_shearAt_15 : dec cX0_shearAt 15 .ireturn 1 16 := ⟨dX0_shearAt_15, rfl⟩
set_option maxRecDepth 20000 in
theorem ggX0_sumOfSquares_J7_fill_53178 : GoodIn wsX0_sumOfSquares wsJ7_fill_53178 := goodIn_r _ [8] (by decide +kernel) (by decide +kernel)
set_option maxRecDepth 20000 in
theorem gX0_sumOfSquares_J7_fill_53178 : GoodIn wsX0_sumOfSquares (va_wsS RX0 142 yJ7_fill_53178 wsJ7_fill_53178) := goodIn_app (goodIn_of _ (by decide +kernel)) ggX0_sumOfSquares_J7_fill_53178
set_option maxRecDepth 20000 in
theorem ggX0_sumOfSquares_X0_shearAt : GoodIn wsX0_sumOfSquares wsX0_shearAt := goodIn_r _ [13, 3, 14, 15, 16, 17, 18, 19, 20, 21, 22, 23, 24, 25, 26, 27, 28, 29, 30, 31, 32, 33, 34, 35, 36] (by decide +kernel) (by decide +kernel)
set_option maxRecDepth 20000 in
theorem gX0_sumOfSquares_X0_shearAt : GoodIn wsX0_sumOfSquares (wsV RX0 101 RX0 yX0_shearAt wsX0_shearAt) := goodIn_app (goodIn_of _ (by decide +kernel)) ggX0_sumOfSquares_X0_shearAt
theorem dX0_sumOfSquares_0 : decode cX0_sumOfSquares 0 = .ok (.aload_n 0, 1) := by decide +kernel
theorem eX0_sumOfSquares_0 : dec cX0_sumOfSquares 0 (.aload_n 0) 1 1 := ⟨dX0_sumOfSquares_0, rfl⟩
theorem dX0_sumOfSquares_1 : decode cX0_sumOfSquares 1 = .ok (.getfield 43, 3) := by decide +kernel
theorem eX0_sumOfSquares_1 : dec cX0_sumOfSquares 1 (.getfield 43) 3 4 := ⟨dX0_sumOfSquares_1, rfl⟩
theorem dX0_sumOfSquares_4 : decode cX0_sumOfSquares 4 = .ok (.iconst 0, 1) := by decide +kernel
theorem eX0_sumOfSquares_4 : dec cX0_sumOfSquares 4 (.iconst 0) 1 5 := ⟨dX0_sumOfSquares_4, rfl⟩
theorem dX0_sumOfSquares_5 : decode cX0_sumOfSquares 5 = .ok (.invokestatic 142, 3) := by decide +kernel
theorem eX0_sumOfSquares_5 : dec cX0_sumOfSquares 5 (.invokestatic 142) 3 8 := ⟨dX0_sumOfSquares_5, rfl⟩
theorem dX0_sumOfSquares_8 : decode cX0_sumOfSquares 8 = .ok (.iconst 0, 1) := by decide +kernel
theorem eX0_sumOfSquares_8 : dec cX0_sumOfSquares 8 (.iconst 0) 1 9 := ⟨dX0_sumOfSquares_8, rfl⟩
theorem dX0_sumOfSquares_9 : decode cX0_sumOfSquares 9 = .ok (.istore_n 2, 1) := by decide +kernel
theorem eX0_sumOfSquares_9 : dec cX0_sumOfSquares 9 (.istore_n 2) 1 10 := ⟨dX0_sumOfSquares_9, rfl⟩
theorem dX0_sumOfSquares_10 : decode cX0_sumOfSquares 10 = .ok (.iload_n 2, 1) := by decide +kernel
theorem eX0_sumOfSquares_10 : dec cX0_sumOfSquares 10 (.iload_n 2) 1 11 := ⟨dX0_sumOfSquares_10, rfl⟩
theorem dX0_sumOfSquares_11 : decode cX0_sumOfSquares 11 = .ok (.aload_n 0, 1) := by decide +kernel
theorem eX0_sumOfSquares_11 : dec cX0_sumOfSquares 11 (.aload_n 0) 1 12 := ⟨dX0_sumOfSquares_11, rfl⟩
theorem dX0_sumOfSquares_12 : decode cX0_sumOfSquares 12 = .ok (.getfield 18, 3) := by decide +kernel
theorem eX0_sumOfSquares_12 : dec cX0_sumOfSquares 12 (.getfield 18) 3 15 := ⟨dX0_sumOfSquares_12, rfl⟩
theorem dX0_sumOfSquares_15 : decode cX0_sumOfSquares 15 = .ok (.if_icmp .ge 69, 3) := by decide +kernel
theorem eX0_sumOfSquares_15 : dec cX0_sumOfSquares 15 (.if_icmp .ge 69) 3 18 := ⟨dX0_sumOfSquares_15, rfl⟩
theorem dX0_sumOfSquares_18 : decode cX0_sumOfSquares 18 = .ok (.aload_n 0, 1) := by decide +kernel
theorem eX0_sumOfSquares_18 : dec cX0_sumOfSquares 18 (.aload_n 0) 1 19 := ⟨dX0_sumOfSquares_18, rfl⟩
theorem dX0_sumOfSquares_19 : decode cX0_sumOfSquares 19 = .ok (.iload_n 2, 1) := by decide +kernel
theorem eX0_sumOfSquares_19 : dec cX0_sumOfSquares 19 (.iload_n 2) 1 20 := ⟨dX0_sumOfSquares_19, rfl⟩
theorem dX0_sumOfSquares_20 : decode cX0_sumOfSquares 20 = .ok (.iload_n 1, 1) := by decide +kernel
theorem eX0_sumOfSquares_20 : dec cX0_sumOfSquares 20 (.iload_n 1) 1 21 := ⟨dX0_sumOfSquares_20, rfl⟩
theorem dX0_sumOfSquares_21 : decode cX0_sumOfSquares 21 = .ok (.invokevirtual 101, 3) := by decide +kernel
theorem eX0_sumOfSquares_21 : dec cX0_sumOfSquares 21 (.invokevirtual 101) 3 24 := ⟨dX0_sumOfSquares_21, rfl⟩
theorem dX0_sumOfSquares_24 : decode cX0_sumOfSquares 24 = .ok (.istore_n 3, 1) := by decide +kernel
theorem eX0_sumOfSquares_24 : dec cX0_sumOfSquares 24 (.istore_n 3) 1 25 := ⟨dX0_sumOfSquares_24, rfl⟩
theorem dX0_sumOfSquares_25 : decode cX0_sumOfSquares 25 = .ok (.iconst 0, 1) := by decide +kernel
theorem eX0_sumOfSquares_25 : dec cX0_sumOfSquares 25 (.iconst 0) 1 26 := ⟨dX0_sumOfSquares_25, rfl⟩
theorem dX0_sumOfSquares_26 : decode cX0_sumOfSquares 26 = .ok (.istore 4, 2) := by decide +kernel
theorem eX0_sumOfSquares_26 : dec cX0_sumOfSquares 26 (.istore 4) 2 28 := ⟨dX0_sumOfSquares_26, rfl⟩
theorem dX0_sumOfSquares_28 : decode cX0_sumOfSquares 28 = .ok (.iload 4, 2) := by decide +kernel
theorem eX0_sumOfSquares_28 : dec cX0_sumOfSquares 28 (.iload 4) 2 30 := ⟨dX0_sumOfSquares_28, rfl⟩
theorem dX0_sumOfSquares_30 : decode cX0_sumOfSquares 30 = .ok (.aload_n 0, 1) := by decide +kernel
theorem eX0_sumOfSquares_30 : dec cX0_sumOfSquares 30 (.aload_n 0) 1 31 := ⟨dX0_sumOfSquares_30, rfl⟩
theorem dX0_sumOfSquares_31 : decode cX0_sumOfSquares 31 = .ok (.getfield 22, 3) := by decide +kernel
theorem eX0_sumOfSquares_31 : dec cX0_sumOfSquares 31 (.getfield 22) 3 34 := ⟨dX0_sumOfSquares_31, rfl⟩
theorem dX0_sumOfSquares_34 : decode cX0_sumOfSquares 34 = .ok (.if_icmp .ge 44, 3) := by decide +kernel
theorem eX0_sumOfSquares_34 : dec cX0_sumOfSquares 34 (.if_icmp .ge 44) 3 37 := ⟨dX0_sumOfSquares_34, rfl⟩
theorem dX0_sumOfSquares_37 : decode cX0_sumOfSquares 37 = .ok (.aload_n 0, 1) := by decide +kernel
theorem eX0_sumOfSquares_37 : dec cX0_sumOfSquares 37 (.aload_n 0) 1 38 := ⟨dX0_sumOfSquares_37, rfl⟩
theorem dX0_sumOfSquares_38 : decode cX0_sumOfSquares 38 = .ok (.getfield 39, 3) := by decide +kernel
theorem eX0_sumOfSquares_38 : dec cX0_sumOfSquares 38 (.getfield 39) 3 41 := ⟨dX0_sumOfSquares_38, rfl⟩
theorem dX0_sumOfSquares_41 : decode cX0_sumOfSquares 41 = .ok (.iload 4, 2) := by decide +kernel
theorem eX0_sumOfSquares_41 : dec cX0_sumOfSquares 41 (.iload 4) 2 43 := ⟨dX0_sumOfSquares_41, rfl⟩
theorem dX0_sumOfSquares_43 : decode cX0_sumOfSquares 43 = .ok (.aload_n 0, 1) := by decide +kernel
theorem eX0_sumOfSquares_43 : dec cX0_sumOfSquares 43 (.aload_n 0) 1 44 := ⟨dX0_sumOfSquares_43, rfl⟩
theorem dX0_sumOfSquares_44 : decode cX0_sumOfSquares 44 = .ok (.getfield 18, 3) := by decide +kernel
theorem eX0_sumOfSquares_44 : dec cX0_sumOfSquares 44 (.getfield 18) 3 47 := ⟨dX0_sumOfSquares_44, rfl⟩
theorem dX0_sumOfSquares_47 : decode cX0_sumOfSquares 47 = .ok (.imul, 1) := by decide +kernel
theorem eX0_sumOfSquares_47 : dec cX0_sumOfSquares 47 .imul 1 48 := ⟨dX0_sumOfSquares_47, rfl⟩
theorem dX0_sumOfSquares_48 : decode cX0_sumOfSquares 48 = .ok (.iload_n 2, 1) := by decide +kernel
theorem eX0_sumOfSquares_48 : dec cX0_sumOfSquares 48 (.iload_n 2) 1 49 := ⟨dX0_sumOfSquares_48, rfl⟩
theorem dX0_sumOfSquares_49 : decode cX0_sumOfSquares 49 = .ok (.iadd, 1) := by decide +kernel
theorem eX0_sumOfSquares_49 : dec cX0_sumOfSquares 49 .iadd 1 50 := ⟨dX0_sumOfSquares_49, rfl⟩
theorem dX0_sumOfSquares_50 : decode cX0_sumOfSquares 50 = .ok (.baload, 1) := by decide +kernel
theorem eX0_sumOfSquares_50 : dec cX0_sumOfSquares 50 .baload 1 51 := ⟨dX0_sumOfSquares_50, rfl⟩
theorem dX0_sumOfSquares_51 : decode cX0_sumOfSquares 51 = .ok (.ifCond .eq 21, 3) := by decide +kernel
theorem eX0_sumOfSquares_51 : dec cX0_sumOfSquares 51 (.ifCond .eq 21) 3 54 := ⟨dX0_sumOfSquares_51, rfl⟩
theorem dX0_sumOfSquares_54 : decode cX0_sumOfSquares 54 = .ok (.aload_n 0, 1) := by decide +kernel
theorem eX0_sumOfSquares_54 : dec cX0_sumOfSquares 54 (.aload_n 0) 1 55 := ⟨dX0_sumOfSquares_54, rfl⟩
theorem dX0_sumOfSquares_55 : decode cX0_sumOfSquares 55 = .ok (.getfield 43, 3) := by decide +kernel
theorem eX0_sumOfSquares_55 : dec cX0_sumOfSquares 55 (.getfield 43) 3 58 := ⟨dX0_sumOfSquares_55, rfl⟩
theorem dX0_sumOfSquares_58 : decode cX0_sumOfSquares 58 = .ok (.iload 4, 2) := by decide +kernel
theorem eX0_sumOfSquares_58 : dec cX0_sumOfSquares 58 (.iload 4) 2 60 := ⟨dX0_sumOfSquares_58, rfl⟩
theorem dX0_sumOfSquares_60 : decode cX0_sumOfSquares 60 = .ok (.iload_n 3, 1) := by decide +kernel
theorem eX0_sumOfSquares_60 : dec cX0_sumOfSquares 60 (.iload_n 3) 1 61 := ⟨dX0_sumOfSquares_60, rfl⟩
theorem dX0_sumOfSquares_61 : decode cX0_sumOfSquares 61 = .ok (.iadd, 1) := by decide +kernel
theorem eX0_sumOfSquares_61 : dec cX0_sumOfSquares 61 .iadd 1 62 := ⟨dX0_sumOfSquares_61, rfl⟩
theorem dX0_sumOfSquares_62 : decode cX0_sumOfSquares 62 = .ok (.aload_n 0, 1) := by decide +kernel
theorem eX0_sumOfSquares_62 : dec cX0_sumOfSquares 62 (.aload_n 0) 1 63 := ⟨dX0_sumOfSquares_62, rfl⟩
theorem dX0_sumOfSquares_63 : decode cX0_sumOfSquares 63 = .ok (.getfield 22, 3) := by decide +kernel
theorem eX0_sumOfSquares_63 : dec cX0_sumOfSquares 63 (.getfield 22) 3 66 := ⟨dX0_sumOfSquares_63, rfl⟩
theorem dX0_sumOfSquares_66 : decode cX0_sumOfSquares 66 = .ok (.irem, 1) := by decide +kernel
theorem eX0_sumOfSquares_66 : dec cX0_sumOfSquares 66 .irem 1 67 := ⟨dX0_sumOfSquares_66, rfl⟩
theorem dX0_sumOfSquares_67 : decode cX0_sumOfSquares 67 = .ok (.dup2, 1) := by decide +kernel
theorem eX0_sumOfSquares_67 : dec cX0_sumOfSquares 67 .dup2 1 68 := ⟨dX0_sumOfSquares_67, rfl⟩
theorem dX0_sumOfSquares_68 : decode cX0_sumOfSquares 68 = .ok (.iaload, 1) := by decide +kernel
theorem eX0_sumOfSquares_68 : dec cX0_sumOfSquares 68 .iaload 1 69 := ⟨dX0_sumOfSquares_68, rfl⟩
theorem dX0_sumOfSquares_69 : decode cX0_sumOfSquares 69 = .ok (.iconst 1, 1) := by decide +kernel
theorem eX0_sumOfSquares_69 : dec cX0_sumOfSquares 69 (.iconst 1) 1 70 := ⟨dX0_sumOfSquares_69, rfl⟩
theorem dX0_sumOfSquares_70 : decode cX0_sumOfSquares 70 = .ok (.iadd, 1) := by decide +kernel
theorem eX0_sumOfSquares_70 : dec cX0_sumOfSquares 70 .iadd 1 71 := ⟨dX0_sumOfSquares_70, rfl⟩
theorem dX0_sumOfSquares_71 : decode cX0_sumOfSquares 71 = .ok (.iastore, 1) := by decide +kernel
theorem eX0_sumOfSquares_71 : dec cX0_sumOfSquares 71 .iastore 1 72 := ⟨dX0_sumOfSquares_71, rfl⟩
theorem dX0_sumOfSquares_72 : decode cX0_sumOfSquares 72 = .ok (.iinc 4 1, 3) := by decide +kernel
theorem eX0_sumOfSquares_72 : dec cX0_sumOfSquares 72 (.iinc 4 1) 3 75 := ⟨dX0_sumOfSquares_72, rfl⟩
theorem dX0_sumOfSquares_75 : decode cX0_sumOfSquares 75 = .ok (.goto (-47), 3) := by decide +kernel
theorem eX0_sumOfSquares_75 : dec cX0_sumOfSquares 75 (.goto (-47)) 3 78 := ⟨dX0_sumOfSquares_75, rfl⟩
theorem dX0_sumOfSquares_78 : decode cX0_sumOfSquares 78 = .ok (.iinc 2 1, 3) := by decide +kernel
theorem eX0_sumOfSquares_78 : dec cX0_sumOfSquares 78 (.iinc 2 1) 3 81 := ⟨dX0_sumOfSquares_78, rfl⟩
theorem dX0_sumOfSquares_81 : decode cX0_sumOfSquares 81 = .ok (.goto (-71), 3) := by decide +kernel
theorem eX0_sumOfSquares_81 : dec cX0_sumOfSquares 81 (.goto (-71)) 3 84 := ⟨dX0_sumOfSquares_81, rfl⟩
theorem dX0_sumOfSquares_84 : decode cX0_sumOfSquares 84 = .ok (.iconst 0, 1) := by decide +kernel
theorem eX0_sumOfSquares_84 : dec cX0_sumOfSquares 84 (.iconst 0) 1 85 := ⟨dX0_sumOfSquares_84, rfl⟩
theorem dX0_sumOfSquares_85 : decode cX0_sumOfSquares 85 = .ok (.istore_n 2, 1) := by decide +kernel
theorem eX0_sumOfSquares_85 : dec cX0_sumOfSquares 85 (.istore_n 2) 1 86 := ⟨dX0_sumOfSquares_85, rfl⟩
theorem dX0_sumOfSquares_86 : decode cX0_sumOfSquares 86 = .ok (.iconst 0, 1) := by decide +kernel
theorem eX0_sumOfSquares_86 : dec cX0_sumOfSquares 86 (.iconst 0) 1 87 := ⟨dX0_sumOfSquares_86, rfl⟩
theorem dX0_sumOfSquares_87 : decode cX0_sumOfSquares 87 = .ok (.istore_n 3, 1) := by decide +kernel
theorem eX0_sumOfSquares_87 : dec cX0_sumOfSquares 87 (.istore_n 3) 1 88 := ⟨dX0_sumOfSquares_87, rfl⟩
theorem dX0_sumOfSquares_88 : decode cX0_sumOfSquares 88 = .ok (.iload_n 3, 1) := by decide +kernel
theorem eX0_sumOfSquares_88 : dec cX0_sumOfSquares 88 (.iload_n 3) 1 89 := ⟨dX0_sumOfSquares_88, rfl⟩
theorem dX0_sumOfSquares_89 : decode cX0_sumOfSquares 89 = .ok (.aload_n 0, 1) := by decide +kernel
theorem eX0_sumOfSquares_89 : dec cX0_sumOfSquares 89 (.aload_n 0) 1 90 := ⟨dX0_sumOfSquares_89, rfl⟩
theorem dX0_sumOfSquares_90 : decode cX0_sumOfSquares 90 = .ok (.getfield 22, 3) := by decide +kernel
theorem eX0_sumOfSquares_90 : dec cX0_sumOfSquares 90 (.getfield 22) 3 93 := ⟨dX0_sumOfSquares_90, rfl⟩
theorem dX0_sumOfSquares_93 : decode cX0_sumOfSquares 93 = .ok (.if_icmp .ge 25, 3) := by decide +kernel
theorem eX0_sumOfSquares_93 : dec cX0_sumOfSquares 93 (.if_icmp .ge 25) 3 96 := ⟨dX0_sumOfSquares_93, rfl⟩
theorem dX0_sumOfSquares_96 : decode cX0_sumOfSquares 96 = .ok (.iload_n 2, 1) := by decide +kernel
theorem eX0_sumOfSquares_96 : dec cX0_sumOfSquares 96 (.iload_n 2) 1 97 := ⟨dX0_sumOfSquares_96, rfl⟩
theorem dX0_sumOfSquares_97 : decode cX0_sumOfSquares 97 = .ok (.aload_n 0, 1) := by decide +kernel
theorem eX0_sumOfSquares_97 : dec cX0_sumOfSquares 97 (.aload_n 0) 1 98 := ⟨dX0_sumOfSquares_97, rfl⟩
theorem dX0_sumOfSquares_98 : decode cX0_sumOfSquares 98 = .ok (.getfield 43, 3) := by decide +kernel
theorem eX0_sumOfSquares_98 : dec cX0_sumOfSquares 98 (.getfield 43) 3 101 := ⟨dX0_sumOfSquares_98, rfl⟩
theorem dX0_sumOfSquares_101 : decode cX0_sumOfSquares 101 = .ok (.iload_n 3, 1) := by decide +kernel
theorem eX0_sumOfSquares_101 : dec cX0_sumOfSquares 101 (.iload_n 3) 1 102 := ⟨dX0_sumOfSquares_101, rfl⟩
theorem dX0_sumOfSquares_102 : decode cX0_sumOfSquares 102 = .ok (.iaload, 1) := by decide +kernel
theorem eX0_sumOfSquares_102 : dec cX0_sumOfSquares 102 .iaload 1 103 := ⟨dX0_sumOfSquares_102, rfl⟩
theorem dX0_sumOfSquares_103 : decode cX0_sumOfSquares 103 = .ok (.aload_n 0, 1) := by decide +kernel
theorem eX0_sumOfSquares_103 : dec cX0_sumOfSquares 103 (.aload_n 0) 1 104 := ⟨dX0_sumOfSquares_103, rfl⟩
theorem dX0_sumOfSquares_104 : decode cX0_sumOfSquares 104 = .ok (.getfield 43, 3) := by decide +kernel
theorem eX0_sumOfSquares_104 : dec cX0_sumOfSquares 104 (.getfield 43) 3 107 := ⟨dX0_sumOfSquares_104, rfl⟩
theorem dX0_sumOfSquares_107 : decode cX0_sumOfSquares 107 = .ok (.iload_n 3, 1) := by decide +kernel
theorem eX0_sumOfSquares_107 : dec cX0_sumOfSquares 107 (.iload_n 3) 1 108 := ⟨dX0_sumOfSquares_107, rfl⟩
theorem dX0_sumOfSquares_108 : decode cX0_sumOfSquares 108 = .ok (.iaload, 1) := by decide +kernel
theorem eX0_sumOfSquares_108 : dec cX0_sumOfSquares 108 .iaload 1 109 := ⟨dX0_sumOfSquares_108, rfl⟩
theorem dX0_sumOfSquares_109 : decode cX0_sumOfSquares 109 = .ok (.imul, 1) := by decide +kernel
theorem eX0_sumOfSquares_109 : dec cX0_sumOfSquares 109 .imul 1 110 := ⟨dX0_sumOfSquares_109, rfl⟩
theorem dX0_sumOfSquares_110 : decode cX0_sumOfSquares 110 = .ok (.iadd, 1) := by decide +kernel
theorem eX0_sumOfSquares_110 : dec cX0_sumOfSquares 110 .iadd 1 111 := ⟨dX0_sumOfSquares_110, rfl⟩
theorem dX0_sumOfSquares_111 : decode cX0_sumOfSquares 111 = .ok (.istore_n 2, 1) := by decide +kernel
theorem eX0_sumOfSquares_111 : dec cX0_sumOfSquares 111 (.istore_n 2) 1 112 := ⟨dX0_sumOfSquares_111, rfl⟩
theorem dX0_sumOfSquares_112 : decode cX0_sumOfSquares 112 = .ok (.iinc 3 1, 3) := by decide +kernel
theorem eX0_sumOfSquares_112 : dec cX0_sumOfSquares 112 (.iinc 3 1) 3 115 := ⟨dX0_sumOfSquares_112, rfl⟩
theorem dX0_sumOfSquares_115 : decode cX0_sumOfSquares 115 = .ok (.goto (-27), 3) := by decide +kernel
theorem eX0_sumOfSquares_115 : dec cX0_sumOfSquares 115 (.goto (-27)) 3 118 := ⟨dX0_sumOfSquares_115, rfl⟩
theorem dX0_sumOfSquares_118 : decode cX0_sumOfSquares 118 = .ok (.iload_n 2, 1) := by decide +kernel
theorem eX0_sumOfSquares_118 : dec cX0_sumOfSquares 118 (.iload_n 2) 1 119 := ⟨dX0_sumOfSquares_118, rfl⟩
theorem dX0_sumOfSquares_119 : decode cX0_sumOfSquares 119 = .ok (.ireturn, 1) := by decide +kernel
theorem eX0_sumOfSquares_119 : dec cX0_sumOfSquares 119 .ireturn 1 120 := ⟨dX0_sumOfSquares_119, rfl⟩
theorem dX0_packStretch_0 : decode cX0_packStretch 0 = .ok (.aload_n 0, 1) := by decide +kernel
theorem eX0_packStretch_0 : dec cX0_packStretch 0 (.aload_n 0) 1 1 := ⟨dX0_packStretch_0, rfl⟩
theorem dX0_packStretch_1 : decode cX0_packStretch 1 = .ok (.getfield 108, 3) := by decide +kernel
theorem eX0_packStretch_1 : dec cX0_packStretch 1 (.getfield 108) 3 4 := ⟨dX0_packStretch_1, rfl⟩
theorem dX0_packStretch_4 : decode cX0_packStretch 4 = .ok (.iconst 2, 1) := by decide +kernel
theorem eX0_packStretch_4 : dec cX0_packStretch 4 (.iconst 2) 1 5 := ⟨dX0_packStretch_4, rfl⟩
theorem dX0_packStretch_5 : decode cX0_packStretch 5 = .ok (.iadd, 1) := by decide +kernel
theorem eX0_packStretch_5 : dec cX0_packStretch 5 .iadd 1 6 := ⟨dX0_packStretch_5, rfl⟩
theorem dX0_packStretch_6 : decode cX0_packStretch 6 = .ok (.aload_n 0, 1) := by decide +kernel
theorem eX0_packStretch_6 : dec cX0_packStretch 6 (.aload_n 0) 1 7 := ⟨dX0_packStretch_6, rfl⟩
theorem dX0_packStretch_7 : decode cX0_packStretch 7 = .ok (.getfield 52, 3) := by decide +kernel
theorem eX0_packStretch_7 : dec cX0_packStretch 7 (.getfield 52) 3 10 := ⟨dX0_packStretch_7, rfl⟩
theorem dX0_packStretch_10 : decode cX0_packStretch 10 = .ok (.arraylength, 1) := by decide +kernel
theorem eX0_packStretch_10 : dec cX0_packStretch 10 .arraylength 1 11 := ⟨dX0_packStretch_10, rfl⟩
theorem dX0_packStretch_11 : decode cX0_packStretch 11 = .ok (.if_icmp .gt 36, 3) := by decide +kernel
theorem eX0_packStretch_11 : dec cX0_packStretch 11 (.if_icmp .gt 36) 3 14 := ⟨dX0_packStretch_11, rfl⟩
theorem dX0_packStretch_14 : decode cX0_packStretch 14 = .ok (.aload_n 0, 1) := by decide +kernel
theorem eX0_packStretch_14 : dec cX0_packStretch 14 (.aload_n 0) 1 15 := ⟨dX0_packStretch_14, rfl⟩
theorem dX0_packStretch_15 : decode cX0_packStretch 15 = .ok (.getfield 52, 3) := by decide +kernel
theorem eX0_packStretch_15 : dec cX0_packStretch 15 (.getfield 52) 3 18 := ⟨dX0_packStretch_15, rfl⟩
theorem dX0_packStretch_18 : decode cX0_packStretch 18 = .ok (.aload_n 0, 1) := by decide +kernel
theorem eX0_packStretch_18 : dec cX0_packStretch 18 (.aload_n 0) 1 19 := ⟨dX0_packStretch_18, rfl⟩
theorem dX0_packStretch_19 : decode cX0_packStretch 19 = .ok (.getfield 108, 3) := by decide +kernel
theorem eX0_packStretch_19 : dec cX0_packStretch 19 (.getfield 108) 3 22 := ⟨dX0_packStretch_19, rfl⟩
theorem dX0_packStretch_22 : decode cX0_packStretch 22 = .ok (.iload_n 1, 1) := by decide +kernel
theorem eX0_packStretch_22 : dec cX0_packStretch 22 (.iload_n 1) 1 23 := ⟨dX0_packStretch_22, rfl⟩
theorem dX0_packStretch_23 : decode cX0_packStretch 23 = .ok (.i2b, 1) := by decide +kernel
theorem eX0_packStretch_23 : dec cX0_packStretch 23 .i2b 1 24 := ⟨dX0_packStretch_23, rfl⟩
theorem dX0_packStretch_24 : decode cX0_packStretch 24 = .ok (.bastore, 1) := by decide +kernel
theorem eX0_packStretch_24 : dec cX0_packStretch 24 .bastore 1 25 := ⟨dX0_packStretch_24, rfl⟩
theorem dX0_packStretch_25 : decode cX0_packStretch 25 = .ok (.aload_n 0, 1) := by decide +kernel
theorem eX0_packStretch_25 : dec cX0_packStretch 25 (.aload_n 0) 1 26 := ⟨dX0_packStretch_25, rfl⟩
theorem dX0_packStretch_26 : decode cX0_packStretch 26 = .ok (.getfield 52, 3) := by decide +kernel
theorem eX0_packStretch_26 : dec cX0_packStretch 26 (.getfield 52) 3 29 := ⟨dX0_packStretch_26, rfl⟩
theorem dX0_packStretch_29 : decode cX0_packStretch 29 = .ok (.aload_n 0, 1) := by decide +kernel
theorem eX0_packStretch_29 : dec cX0_packStretch 29 (.aload_n 0) 1 30 := ⟨dX0_packStretch_29, rfl⟩
theorem dX0_packStretch_30 : decode cX0_packStretch 30 = .ok (.getfield 108, 3) := by decide +kernel
theorem eX0_packStretch_30 : dec cX0_packStretch 30 (.getfield 108) 3 33 := ⟨dX0_packStretch_30, rfl⟩
theorem dX0_packStretch_33 : decode cX0_packStretch 33 = .ok (.iconst 1, 1) := by decide +kernel
theorem eX0_packStretch_33 : dec cX0_packStretch 33 (.iconst 1) 1 34 := ⟨dX0_packStretch_33, rfl⟩
theorem dX0_packStretch_34 : decode cX0_packStretch 34 = .ok (.iadd, 1) := by decide +kernel
theorem eX0_packStretch_34 : dec cX0_packStretch 34 .iadd 1 35 := ⟨dX0_packStretch_34, rfl⟩
theorem dX0_packStretch_35 : decode cX0_packStretch 35 = .ok (.iload_n 2, 1) := by decide +kernel
theorem eX0_packStretch_35 : dec cX0_packStretch 35 (.iload_n 2) 1 36 := ⟨dX0_packStretch_35, rfl⟩
theorem dX0_packStretch_36 : decode cX0_packStretch 36 = .ok (.bastore, 1) := by decide +kernel
theorem eX0_packStretch_36 : dec cX0_packStretch 36 .bastore 1 37 := ⟨dX0_packStretch_36, rfl⟩
theorem dX0_packStretch_37 : decode cX0_packStretch 37 = .ok (.aload_n 0, 1) := by decide +kernel
theorem eX0_packStretch_37 : dec cX0_packStretch 37 (.aload_n 0) 1 38 := ⟨dX0_packStretch_37, rfl⟩
theorem dX0_packStretch_38 : decode cX0_packStretch 38 = .ok (.dup, 1) := by decide +kernel
theorem eX0_packStretch_38 : dec cX0_packStretch 38 .dup 1 39 := ⟨dX0_packStretch_38, rfl⟩
theorem dX0_packStretch_39 : decode cX0_packStretch 39 = .ok (.getfield 108, 3) := by decide +kernel
theorem eX0_packStretch_39 : dec cX0_packStretch 39 (.getfield 108) 3 42 := ⟨dX0_packStretch_39, rfl⟩
theorem dX0_packStretch_42 : decode cX0_packStretch 42 = .ok (.iconst 2, 1) := by decide +kernel
theorem eX0_packStretch_42 : dec cX0_packStretch 42 (.iconst 2) 1 43 := ⟨dX0_packStretch_42, rfl⟩
theorem dX0_packStretch_43 : decode cX0_packStretch 43 = .ok (.iadd, 1) := by decide +kernel
theorem eX0_packStretch_43 : dec cX0_packStretch 43 .iadd 1 44 := ⟨dX0_packStretch_43, rfl⟩
theorem dX0_packStretch_44 : decode cX0_packStretch 44 = .ok (.putfield 108, 3) := by decide +kernel
theorem eX0_packStretch_44 : dec cX0_packStretch 44 (.putfield 108) 3 47 := ⟨dX0_packStretch_44, rfl⟩
theorem dX0_packStretch_47 : decode cX0_packStretch 47 = .ok (.return_, 1) := by decide +kernel
theorem eX0_packStretch_47 : dec cX0_packStretch 47 .return_ 1 48 := ⟨dX0_packStretch_47, rfl⟩
theorem dX0_readCollected_0 : decode cX0_readCollected 0 = .ok (.iconst 0, 1) := by decide +kernel
theorem eX0_readCollected_0 : dec cX0_readCollected 0 (.iconst 0) 1 1 := ⟨dX0_readCollected_0, rfl⟩
theorem dX0_readCollected_1 : decode cX0_readCollected 1 = .ok (.istore_n 1, 1) := by decide +kernel
theorem eX0_readCollected_1 : dec cX0_readCollected 1 (.istore_n 1) 1 2 := ⟨dX0_readCollected_1, rfl⟩
theorem dX0_readCollected_2 : decode cX0_readCollected 2 = .ok (.iconst 0, 1) := by decide +kernel
theorem eX0_readCollected_2 : dec cX0_readCollected 2 (.iconst 0) 1 3 := ⟨dX0_readCollected_2, rfl⟩
theorem dX0_readCollected_3 : decode cX0_readCollected 3 = .ok (.istore_n 2, 1) := by decide +kernel
theorem eX0_readCollected_3 : dec cX0_readCollected 3 (.istore_n 2) 1 4 := ⟨dX0_readCollected_3, rfl⟩
theorem dX0_readCollected_4 : decode cX0_readCollected 4 = .ok (.iload_n 2, 1) := by decide +kernel
theorem eX0_readCollected_4 : dec cX0_readCollected 4 (.iload_n 2) 1 5 := ⟨dX0_readCollected_4, rfl⟩
theorem dX0_readCollected_5 : decode cX0_readCollected 5 = .ok (.aload_n 0, 1) := by decide +kernel
theorem eX0_readCollected_5 : dec cX0_readCollected 5 (.aload_n 0) 1 6 := ⟨dX0_readCollected_5, rfl⟩
theorem dX0_readCollected_6 : decode cX0_readCollected 6 = .ok (.getfield 117, 3) := by decide +kernel
theorem eX0_readCollected_6 : dec cX0_readCollected 6 (.getfield 117) 3 9 := ⟨dX0_readCollected_6, rfl⟩
theorem dX0_readCollected_9 : decode cX0_readCollected 9 = .ok (.if_icmp .ge 91, 3) := by decide +kernel
theorem eX0_readCollected_9 : dec cX0_readCollected 9 (.if_icmp .ge 91) 3 12 := ⟨dX0_readCollected_9, rfl⟩
theorem dX0_readCollected_12 : decode cX0_readCollected 12 = .ok (.aload_n 0, 1) := by decide +kernel
theorem eX0_readCollected_12 : dec cX0_readCollected 12 (.aload_n 0) 1 13 := ⟨dX0_readCollected_12, rfl⟩
theorem dX0_readCollected_13 : decode cX0_readCollected 13 = .ok (.getfield 55, 3) := by decide +kernel
theorem eX0_readCollected_13 : dec cX0_readCollected 13 (.getfield 55) 3 16 := ⟨dX0_readCollected_13, rfl⟩
theorem dX0_readCollected_16 : decode cX0_readCollected 16 = .ok (.iload_n 2, 1) := by decide +kernel
theorem eX0_readCollected_16 : dec cX0_readCollected 16 (.iload_n 2) 1 17 := ⟨dX0_readCollected_16, rfl⟩
theorem dX0_readCollected_17 : decode cX0_readCollected 17 = .ok (.baload, 1) := by decide +kernel
theorem eX0_readCollected_17 : dec cX0_readCollected 17 .baload 1 18 := ⟨dX0_readCollected_17, rfl⟩
theorem dX0_readCollected_18 : decode cX0_readCollected 18 = .ok (.sipush 255, 3) := by decide +kernel
theorem eX0_readCollected_18 : dec cX0_readCollected 18 (.sipush 255) 3 21 := ⟨dX0_readCollected_18, rfl⟩
theorem dX0_readCollected_21 : decode cX0_readCollected 21 = .ok (.iand, 1) := by decide +kernel
theorem eX0_readCollected_21 : dec cX0_readCollected 21 .iand 1 22 := ⟨dX0_readCollected_21, rfl⟩
theorem dX0_readCollected_22 : decode cX0_readCollected 22 = .ok (.istore_n 3, 1) := by decide +kernel
theorem eX0_readCollected_22 : dec cX0_readCollected 22 (.istore_n 3) 1 23 := ⟨dX0_readCollected_22, rfl⟩
theorem dX0_readCollected_23 : decode cX0_readCollected 23 = .ok (.iload_n 3, 1) := by decide +kernel
theorem eX0_readCollected_23 : dec cX0_readCollected 23 (.iload_n 3) 1 24 := ⟨dX0_readCollected_23, rfl⟩
theorem dX0_readCollected_24 : decode cX0_readCollected 24 = .ok (.ifCond .eq 14, 3) := by decide +kernel
theorem eX0_readCollected_24 : dec cX0_readCollected 24 (.ifCond .eq 14) 3 27 := ⟨dX0_readCollected_24, rfl⟩
theorem dX0_readCollected_27 : decode cX0_readCollected 27 = .ok (.iload_n 3, 1) := by decide +kernel
theorem eX0_readCollected_27 : dec cX0_readCollected 27 (.iload_n 3) 1 28 := ⟨dX0_readCollected_27, rfl⟩
theorem dX0_readCollected_28 : decode cX0_readCollected 28 = .ok (.aload_n 0, 1) := by decide +kernel
theorem eX0_readCollected_28 : dec cX0_readCollected 28 (.aload_n 0) 1 29 := ⟨dX0_readCollected_28, rfl⟩
theorem dX0_readCollected_29 : decode cX0_readCollected 29 = .ok (.getfield 29, 3) := by decide +kernel
theorem eX0_readCollected_29 : dec cX0_readCollected 29 (.getfield 29) 3 32 := ⟨dX0_readCollected_29, rfl⟩
theorem dX0_readCollected_32 : decode cX0_readCollected 32 = .ok (.arraylength, 1) := by decide +kernel
theorem eX0_readCollected_32 : dec cX0_readCollected 32 .arraylength 1 33 := ⟨dX0_readCollected_32, rfl⟩
theorem dX0_readCollected_33 : decode cX0_readCollected 33 = .ok (.iload_n 1, 1) := by decide +kernel
theorem eX0_readCollected_33 : dec cX0_readCollected 33 (.iload_n 1) 1 34 := ⟨dX0_readCollected_33, rfl⟩
theorem dX0_readCollected_34 : decode cX0_readCollected 34 = .ok (.isub, 1) := by decide +kernel
theorem eX0_readCollected_34 : dec cX0_readCollected 34 .isub 1 35 := ⟨dX0_readCollected_34, rfl⟩
theorem dX0_readCollected_35 : decode cX0_readCollected 35 = .ok (.if_icmp .le 5, 3) := by decide +kernel
theorem eX0_readCollected_35 : dec cX0_readCollected 35 (.if_icmp .le 5) 3 38 := ⟨dX0_readCollected_35, rfl⟩
theorem dX0_readCollected_38 : decode cX0_readCollected 38 = .ok (.iload_n 2, 1) := by decide +kernel
theorem eX0_readCollected_38 : dec cX0_readCollected 38 (.iload_n 2) 1 39 := ⟨dX0_readCollected_38, rfl⟩
theorem dX0_readCollected_39 : decode cX0_readCollected 39 = .ok (.ireturn, 1) := by decide +kernel
theorem eX0_readCollected_39 : dec cX0_readCollected 39 .ireturn 1 40 := ⟨dX0_readCollected_39, rfl⟩
theorem dX0_readCollected_40 : decode cX0_readCollected 40 = .ok (.iload_n 2, 1) := by decide +kernel
theorem eX0_readCollected_40 : dec cX0_readCollected 40 (.iload_n 2) 1 41 := ⟨dX0_readCollected_40, rfl⟩
theorem dX0_readCollected_41 : decode cX0_readCollected 41 = .ok (.iconst 1, 1) := by decide +kernel
theorem eX0_readCollected_41 : dec cX0_readCollected 41 (.iconst 1) 1 42 := ⟨dX0_readCollected_41, rfl⟩
theorem dX0_readCollected_42 : decode cX0_readCollected 42 = .ok (.iadd, 1) := by decide +kernel
theorem eX0_readCollected_42 : dec cX0_readCollected 42 .iadd 1 43 := ⟨dX0_readCollected_42, rfl⟩
theorem dX0_readCollected_43 : decode cX0_readCollected 43 = .ok (.aload_n 0, 1) := by decide +kernel
theorem eX0_readCollected_43 : dec cX0_readCollected 43 (.aload_n 0) 1 44 := ⟨dX0_readCollected_43, rfl⟩
theorem dX0_readCollected_44 : decode cX0_readCollected 44 = .ok (.getfield 117, 3) := by decide +kernel
theorem eX0_readCollected_44 : dec cX0_readCollected 44 (.getfield 117) 3 47 := ⟨dX0_readCollected_44, rfl⟩
theorem dX0_readCollected_47 : decode cX0_readCollected 47 = .ok (.if_icmp .lt 8, 3) := by decide +kernel
theorem eX0_readCollected_47 : dec cX0_readCollected 47 (.if_icmp .lt 8) 3 50 := ⟨dX0_readCollected_47, rfl⟩
theorem dX0_readCollected_50 : decode cX0_readCollected 50 = .ok (.aload_n 0, 1) := by decide +kernel
theorem eX0_readCollected_50 : dec cX0_readCollected 50 (.aload_n 0) 1 51 := ⟨dX0_readCollected_50, rfl⟩
theorem dX0_readCollected_51 : decode cX0_readCollected 51 = .ok (.getfield 117, 3) := by decide +kernel
theorem eX0_readCollected_51 : dec cX0_readCollected 51 (.getfield 117) 3 54 := ⟨dX0_readCollected_51, rfl⟩
theorem dX0_readCollected_54 : decode cX0_readCollected 54 = .ok (.ireturn, 1) := by decide +kernel
theorem eX0_readCollected_54 : dec cX0_readCollected 54 .ireturn 1 55 := ⟨dX0_readCollected_54, rfl⟩
theorem dX0_readCollected_55 : decode cX0_readCollected 55 = .ok (.iload_n 1, 1) := by decide +kernel
theorem eX0_readCollected_55 : dec cX0_readCollected 55 (.iload_n 1) 1 56 := ⟨dX0_readCollected_55, rfl⟩
theorem dX0_readCollected_56 : decode cX0_readCollected 56 = .ok (.iload_n 3, 1) := by decide +kernel
theorem eX0_readCollected_56 : dec cX0_readCollected 56 (.iload_n 3) 1 57 := ⟨dX0_readCollected_56, rfl⟩
theorem dX0_readCollected_57 : decode cX0_readCollected 57 = .ok (.iadd, 1) := by decide +kernel
theorem eX0_readCollected_57 : dec cX0_readCollected 57 .iadd 1 58 := ⟨dX0_readCollected_57, rfl⟩
theorem dX0_readCollected_58 : decode cX0_readCollected 58 = .ok (.istore 4, 2) := by decide +kernel
theorem eX0_readCollected_58 : dec cX0_readCollected 58 (.istore 4) 2 60 := ⟨dX0_readCollected_58, rfl⟩
theorem dX0_readCollected_60 : decode cX0_readCollected 60 = .ok (.iload_n 1, 1) := by decide +kernel
theorem eX0_readCollected_60 : dec cX0_readCollected 60 (.iload_n 1) 1 61 := ⟨dX0_readCollected_60, rfl⟩
theorem dX0_readCollected_61 : decode cX0_readCollected 61 = .ok (.istore 5, 2) := by decide +kernel
theorem eX0_readCollected_61 : dec cX0_readCollected 61 (.istore 5) 2 63 := ⟨dX0_readCollected_61, rfl⟩
theorem dX0_readCollected_63 : decode cX0_readCollected 63 = .ok (.iload 5, 2) := by decide +kernel
theorem eX0_readCollected_63 : dec cX0_readCollected 63 (.iload 5) 2 65 := ⟨dX0_readCollected_63, rfl⟩
theorem dX0_readCollected_65 : decode cX0_readCollected 65 = .ok (.iload 4, 2) := by decide +kernel
theorem eX0_readCollected_65 : dec cX0_readCollected 65 (.iload 4) 2 67 := ⟨dX0_readCollected_65, rfl⟩
theorem dX0_readCollected_67 : decode cX0_readCollected 67 = .ok (.if_icmp .ge 24, 3) := by decide +kernel
theorem eX0_readCollected_67 : dec cX0_readCollected 67 (.if_icmp .ge 24) 3 70 := ⟨dX0_readCollected_67, rfl⟩
theorem dX0_readCollected_70 : decode cX0_readCollected 70 = .ok (.aload_n 0, 1) := by decide +kernel
theorem eX0_readCollected_70 : dec cX0_readCollected 70 (.aload_n 0) 1 71 := ⟨dX0_readCollected_70, rfl⟩
theorem dX0_readCollected_71 : decode cX0_readCollected 71 = .ok (.getfield 29, 3) := by decide +kernel
theorem eX0_readCollected_71 : dec cX0_readCollected 71 (.getfield 29) 3 74 := ⟨dX0_readCollected_71, rfl⟩
theorem dX0_readCollected_74 : decode cX0_readCollected 74 = .ok (.iload 5, 2) := by decide +kernel
theorem eX0_readCollected_74 : dec cX0_readCollected 74 (.iload 5) 2 76 := ⟨dX0_readCollected_74, rfl⟩
theorem dX0_readCollected_76 : decode cX0_readCollected 76 = .ok (.aload_n 0, 1) := by decide +kernel
theorem eX0_readCollected_76 : dec cX0_readCollected 76 (.aload_n 0) 1 77 := ⟨dX0_readCollected_76, rfl⟩
theorem dX0_readCollected_77 : decode cX0_readCollected 77 = .ok (.getfield 55, 3) := by decide +kernel
theorem eX0_readCollected_77 : dec cX0_readCollected 77 (.getfield 55) 3 80 := ⟨dX0_readCollected_77, rfl⟩
theorem dX0_readCollected_80 : decode cX0_readCollected 80 = .ok (.iload_n 2, 1) := by decide +kernel
theorem eX0_readCollected_80 : dec cX0_readCollected 80 (.iload_n 2) 1 81 := ⟨dX0_readCollected_80, rfl⟩
theorem dX0_readCollected_81 : decode cX0_readCollected 81 = .ok (.iconst 1, 1) := by decide +kernel
theorem eX0_readCollected_81 : dec cX0_readCollected 81 (.iconst 1) 1 82 := ⟨dX0_readCollected_81, rfl⟩
theorem dX0_readCollected_82 : decode cX0_readCollected 82 = .ok (.iadd, 1) := by decide +kernel
theorem eX0_readCollected_82 : dec cX0_readCollected 82 .iadd 1 83 := ⟨dX0_readCollected_82, rfl⟩
theorem dX0_readCollected_83 : decode cX0_readCollected 83 = .ok (.baload, 1) := by decide +kernel
theorem eX0_readCollected_83 : dec cX0_readCollected 83 .baload 1 84 := ⟨dX0_readCollected_83, rfl⟩
theorem dX0_readCollected_84 : decode cX0_readCollected 84 = .ok (.bastore, 1) := by decide +kernel
theorem eX0_readCollected_84 : dec cX0_readCollected 84 .bastore 1 85 := ⟨dX0_readCollected_84, rfl⟩
theorem dX0_readCollected_85 : decode cX0_readCollected 85 = .ok (.iinc 5 1, 3) := by decide +kernel
theorem eX0_readCollected_85 : dec cX0_readCollected 85 (.iinc 5 1) 3 88 := ⟨dX0_readCollected_85, rfl⟩
theorem dX0_readCollected_88 : decode cX0_readCollected 88 = .ok (.goto (-25), 3) := by decide +kernel
theorem eX0_readCollected_88 : dec cX0_readCollected 88 (.goto (-25)) 3 91 := ⟨dX0_readCollected_88, rfl⟩
theorem dX0_readCollected_91 : decode cX0_readCollected 91 = .ok (.iload 4, 2) := by decide +kernel
theorem eX0_readCollected_91 : dec cX0_readCollected 91 (.iload 4) 2 93 := ⟨dX0_readCollected_91, rfl⟩
theorem dX0_readCollected_93 : decode cX0_readCollected 93 = .ok (.istore_n 1, 1) := by decide +kernel
theorem eX0_readCollected_93 : dec cX0_readCollected 93 (.istore_n 1) 1 94 := ⟨dX0_readCollected_93, rfl⟩
theorem dX0_readCollected_94 : decode cX0_readCollected 94 = .ok (.iinc 2 2, 3) := by decide +kernel
theorem eX0_readCollected_94 : dec cX0_readCollected 94 (.iinc 2 2) 3 97 := ⟨dX0_readCollected_94, rfl⟩
theorem dX0_readCollected_97 : decode cX0_readCollected 97 = .ok (.goto (-93), 3) := by decide +kernel
theorem eX0_readCollected_97 : dec cX0_readCollected 97 (.goto (-93)) 3 100 := ⟨dX0_readCollected_97, rfl⟩
theorem dX0_readCollected_100 : decode cX0_readCollected 100 = .ok (.iload_n 1, 1) := by decide +kernel
theorem eX0_readCollected_100 : dec cX0_readCollected 100 (.iload_n 1) 1 101 := ⟨dX0_readCollected_100, rfl⟩
theorem dX0_readCollected_101 : decode cX0_readCollected 101 = .ok (.aload_n 0, 1) := by decide +kernel
theorem eX0_readCollected_101 : dec cX0_readCollected 101 (.aload_n 0) 1 102 := ⟨dX0_readCollected_101, rfl⟩
theorem dX0_readCollected_102 : decode cX0_readCollected 102 = .ok (.getfield 29, 3) := by decide +kernel
theorem eX0_readCollected_102 : dec cX0_readCollected 102 (.getfield 29) 3 105 := ⟨dX0_readCollected_102, rfl⟩
theorem dX0_readCollected_105 : decode cX0_readCollected 105 = .ok (.arraylength, 1) := by decide +kernel
theorem eX0_readCollected_105 : dec cX0_readCollected 105 .arraylength 1 106 := ⟨dX0_readCollected_105, rfl⟩
theorem dX0_readCollected_106 : decode cX0_readCollected 106 = .ok (.if_icmp .ge 10, 3) := by decide +kernel
theorem eX0_readCollected_106 : dec cX0_readCollected 106 (.if_icmp .ge 10) 3 109 := ⟨dX0_readCollected_106, rfl⟩
theorem dX0_readCollected_109 : decode cX0_readCollected 109 = .ok (.aload_n 0, 1) := by decide +kernel
theorem eX0_readCollected_109 : dec cX0_readCollected 109 (.aload_n 0) 1 110 := ⟨dX0_readCollected_109, rfl⟩
theorem dX0_readCollected_110 : decode cX0_readCollected 110 = .ok (.getfield 117, 3) := by decide +kernel
theorem eX0_readCollected_110 : dec cX0_readCollected 110 (.getfield 117) 3 113 := ⟨dX0_readCollected_110, rfl⟩
theorem dX0_readCollected_113 : decode cX0_readCollected 113 = .ok (.goto 4, 3) := by decide +kernel
theorem eX0_readCollected_113 : dec cX0_readCollected 113 (.goto 4) 3 116 := ⟨dX0_readCollected_113, rfl⟩
theorem dX0_readCollected_116 : decode cX0_readCollected 116 = .ok (.iconst (-1), 1) := by decide +kernel
theorem eX0_readCollected_116 : dec cX0_readCollected 116 (.iconst (-1)) 1 117 := ⟨dX0_readCollected_116, rfl⟩
theorem dX0_readCollected_117 : decode cX0_readCollected 117 = .ok (.ireturn, 1) := by decide +kernel
theorem eX0_readCollected_117 : dec cX0_readCollected 117 .ireturn 1 118 := ⟨dX0_readCollected_117, rfl⟩
theorem dX0_mirrorRows_0 : decode cX0_mirrorRows 0 = .ok (.iconst 0, 1) := by decide +kernel
theorem eX0_mirrorRows_0 : dec cX0_mirrorRows 0 (.iconst 0) 1 1 := ⟨dX0_mirrorRows_0, rfl⟩
theorem dX0_mirrorRows_1 : decode cX0_mirrorRows 1 = .ok (.istore_n 1, 1) := by decide +kernel
theorem eX0_mirrorRows_1 : dec cX0_mirrorRows 1 (.istore_n 1) 1 2 := ⟨dX0_mirrorRows_1, rfl⟩
theorem dX0_mirrorRows_2 : decode cX0_mirrorRows 2 = .ok (.iload_n 1, 1) := by decide +kernel
theorem eX0_mirrorRows_2 : dec cX0_mirrorRows 2 (.iload_n 1) 1 3 := ⟨dX0_mirrorRows_2, rfl⟩
theorem dX0_mirrorRows_3 : decode cX0_mirrorRows 3 = .ok (.aload_n 0, 1) := by decide +kernel
theorem eX0_mirrorRows_3 : dec cX0_mirrorRows 3 (.aload_n 0) 1 4 := ⟨dX0_mirrorRows_3, rfl⟩
theorem dX0_mirrorRows_4 : decode cX0_mirrorRows 4 = .ok (.getfield 22, 3) := by decide +kernel
theorem eX0_mirrorRows_4 : dec cX0_mirrorRows 4 (.getfield 22) 3 7 := ⟨dX0_mirrorRows_4, rfl⟩
theorem dX0_mirrorRows_7 : decode cX0_mirrorRows 7 = .ok (.if_icmp .ge 58, 3) := by decide +kernel
theorem eX0_mirrorRows_7 : dec cX0_mirrorRows 7 (.if_icmp .ge 58) 3 10 := ⟨dX0_mirrorRows_7, rfl⟩
theorem dX0_mirrorRows_10 : decode cX0_mirrorRows 10 = .ok (.iconst 0, 1) := by decide +kernel
theorem eX0_mirrorRows_10 : dec cX0_mirrorRows 10 (.iconst 0) 1 11 := ⟨dX0_mirrorRows_10, rfl⟩
theorem dX0_mirrorRows_11 : decode cX0_mirrorRows 11 = .ok (.istore_n 2, 1) := by decide +kernel
theorem eX0_mirrorRows_11 : dec cX0_mirrorRows 11 (.istore_n 2) 1 12 := ⟨dX0_mirrorRows_11, rfl⟩
theorem dX0_mirrorRows_12 : decode cX0_mirrorRows 12 = .ok (.iload_n 2, 1) := by decide +kernel
theorem eX0_mirrorRows_12 : dec cX0_mirrorRows 12 (.iload_n 2) 1 13 := ⟨dX0_mirrorRows_12, rfl⟩
theorem dX0_mirrorRows_13 : decode cX0_mirrorRows 13 = .ok (.aload_n 0, 1) := by decide +kernel
theorem eX0_mirrorRows_13 : dec cX0_mirrorRows 13 (.aload_n 0) 1 14 := ⟨dX0_mirrorRows_13, rfl⟩
theorem dX0_mirrorRows_14 : decode cX0_mirrorRows 14 = .ok (.getfield 18, 3) := by decide +kernel
theorem eX0_mirrorRows_14 : dec cX0_mirrorRows 14 (.getfield 18) 3 17 := ⟨dX0_mirrorRows_14, rfl⟩
theorem dX0_mirrorRows_17 : decode cX0_mirrorRows 17 = .ok (.if_icmp .ge 42, 3) := by decide +kernel
theorem eX0_mirrorRows_17 : dec cX0_mirrorRows 17 (.if_icmp .ge 42) 3 20 := ⟨dX0_mirrorRows_17, rfl⟩
theorem dX0_mirrorRows_20 : decode cX0_mirrorRows 20 = .ok (.aload_n 0, 1) := by decide +kernel
theorem eX0_mirrorRows_20 : dec cX0_mirrorRows 20 (.aload_n 0) 1 21 := ⟨dX0_mirrorRows_20, rfl⟩
theorem dX0_mirrorRows_21 : decode cX0_mirrorRows 21 = .ok (.getfield 29, 3) := by decide +kernel
theorem eX0_mirrorRows_21 : dec cX0_mirrorRows 21 (.getfield 29) 3 24 := ⟨dX0_mirrorRows_21, rfl⟩
theorem dX0_mirrorRows_24 : decode cX0_mirrorRows 24 = .ok (.iload_n 1, 1) := by decide +kernel
theorem eX0_mirrorRows_24 : dec cX0_mirrorRows 24 (.iload_n 1) 1 25 := ⟨dX0_mirrorRows_24, rfl⟩
theorem dX0_mirrorRows_25 : decode cX0_mirrorRows 25 = .ok (.aload_n 0, 1) := by decide +kernel
theorem eX0_mirrorRows_25 : dec cX0_mirrorRows 25 (.aload_n 0) 1 26 := ⟨dX0_mirrorRows_25, rfl⟩
theorem dX0_mirrorRows_26 : decode cX0_mirrorRows 26 = .ok (.getfield 18, 3) := by decide +kernel
theorem eX0_mirrorRows_26 : dec cX0_mirrorRows 26 (.getfield 18) 3 29 := ⟨dX0_mirrorRows_26, rfl⟩
theorem dX0_mirrorRows_29 : decode cX0_mirrorRows 29 = .ok (.imul, 1) := by decide +kernel
theorem eX0_mirrorRows_29 : dec cX0_mirrorRows 29 .imul 1 30 := ⟨dX0_mirrorRows_29, rfl⟩
theorem dX0_mirrorRows_30 : decode cX0_mirrorRows 30 = .ok (.iload_n 2, 1) := by decide +kernel
theorem eX0_mirrorRows_30 : dec cX0_mirrorRows 30 (.iload_n 2) 1 31 := ⟨dX0_mirrorRows_30, rfl⟩
theorem dX0_mirrorRows_31 : decode cX0_mirrorRows 31 = .ok (.iadd, 1) := by decide +kernel
theorem eX0_mirrorRows_31 : dec cX0_mirrorRows 31 .iadd 1 32 := ⟨dX0_mirrorRows_31, rfl⟩
theorem dX0_mirrorRows_32 : decode cX0_mirrorRows 32 = .ok (.aload_n 0, 1) := by decide +kernel
theorem eX0_mirrorRows_32 : dec cX0_mirrorRows 32 (.aload_n 0) 1 33 := ⟨dX0_mirrorRows_32, rfl⟩
theorem dX0_mirrorRows_33 : decode cX0_mirrorRows 33 = .ok (.getfield 25, 3) := by decide +kernel
theorem eX0_mirrorRows_33 : dec cX0_mirrorRows 33 (.getfield 25) 3 36 := ⟨dX0_mirrorRows_33, rfl⟩
theorem dX0_mirrorRows_36 : decode cX0_mirrorRows 36 = .ok (.iload_n 1, 1) := by decide +kernel
theorem eX0_mirrorRows_36 : dec cX0_mirrorRows 36 (.iload_n 1) 1 37 := ⟨dX0_mirrorRows_36, rfl⟩
theorem dX0_mirrorRows_37 : decode cX0_mirrorRows 37 = .ok (.aload_n 0, 1) := by decide +kernel
theorem eX0_mirrorRows_37 : dec cX0_mirrorRows 37 (.aload_n 0) 1 38 := ⟨dX0_mirrorRows_37, rfl⟩
theorem dX0_mirrorRows_38 : decode cX0_mirrorRows 38 = .ok (.getfield 18, 3) := by decide +kernel
theorem eX0_mirrorRows_38 : dec cX0_mirrorRows 38 (.getfield 18) 3 41 := ⟨dX0_mirrorRows_38, rfl⟩
theorem dX0_mirrorRows_41 : decode cX0_mirrorRows 41 = .ok (.imul, 1) := by decide +kernel
theorem eX0_mirrorRows_41 : dec cX0_mirrorRows 41 .imul 1 42 := ⟨dX0_mirrorRows_41, rfl⟩
theorem dX0_mirrorRows_42 : decode cX0_mirrorRows 42 = .ok (.aload_n 0, 1) := by decide +kernel
theorem eX0_mirrorRows_42 : dec cX0_mirrorRows 42 (.aload_n 0) 1 43 := ⟨dX0_mirrorRows_42, rfl⟩
theorem dX0_mirrorRows_43 : decode cX0_mirrorRows 43 = .ok (.getfield 18, 3) := by decide +kernel
theorem eX0_mirrorRows_43 : dec cX0_mirrorRows 43 (.getfield 18) 3 46 := ⟨dX0_mirrorRows_43, rfl⟩
theorem dX0_mirrorRows_46 : decode cX0_mirrorRows 46 = .ok (.iadd, 1) := by decide +kernel
theorem eX0_mirrorRows_46 : dec cX0_mirrorRows 46 .iadd 1 47 := ⟨dX0_mirrorRows_46, rfl⟩
theorem dX0_mirrorRows_47 : decode cX0_mirrorRows 47 = .ok (.iconst 1, 1) := by decide +kernel
theorem eX0_mirrorRows_47 : dec cX0_mirrorRows 47 (.iconst 1) 1 48 := ⟨dX0_mirrorRows_47, rfl⟩
theorem dX0_mirrorRows_48 : decode cX0_mirrorRows 48 = .ok (.isub, 1) := by decide +kernel
theorem eX0_mirrorRows_48 : dec cX0_mirrorRows 48 .isub 1 49 := ⟨dX0_mirrorRows_48, rfl⟩
theorem dX0_mirrorRows_49 : decode cX0_mirrorRows 49 = .ok (.iload_n 2, 1) := by decide +kernel
theorem eX0_mirrorRows_49 : dec cX0_mirrorRows 49 (.iload_n 2) 1 50 := ⟨dX0_mirrorRows_49, rfl⟩
theorem dX0_mirrorRows_50 : decode cX0_mirrorRows 50 = .ok (.isub, 1) := by decide +kernel
theorem eX0_mirrorRows_50 : dec cX0_mirrorRows 50 .isub 1 51 := ⟨dX0_mirrorRows_50, rfl⟩
theorem dX0_mirrorRows_51 : decode cX0_mirrorRows 51 = .ok (.baload, 1) := by decide +kernel
theorem eX0_mirrorRows_51 : dec cX0_mirrorRows 51 .baload 1 52 := ⟨dX0_mirrorRows_51, rfl⟩
theorem dX0_mirrorRows_52 : decode cX0_mirrorRows 52 = .ok (.bastore, 1) := by decide +kernel
theorem eX0_mirrorRows_52 : dec cX0_mirrorRows 52 .bastore 1 53 := ⟨dX0_mirrorRows_52, rfl⟩
theorem dX0_mirrorRows_53 : decode cX0_mirrorRows 53 = .ok (.iinc 2 1, 3) := by decide +kernel
theorem eX0_mirrorRows_53 : dec cX0_mirrorRows 53 (.iinc 2 1) 3 56 := ⟨dX0_mirrorRows_53, rfl⟩
theorem dX0_mirrorRows_56 : decode cX0_mirrorRows 56 = .ok (.goto (-44), 3) := by decide +kernel
theorem eX0_mirrorRows_56 : dec cX0_mirrorRows 56 (.goto (-44)) 3 59 := ⟨dX0_mirrorRows_56, rfl⟩
theorem dX0_mirrorRows_59 : decode cX0_mirrorRows 59 = .ok (.iinc 1 1, 3) := by decide +kernel
theorem eX0_mirrorRows_59 : dec cX0_mirrorRows 59 (.iinc 1 1) 3 62 := ⟨dX0_mirrorRows_59, rfl⟩
theorem dX0_mirrorRows_62 : decode cX0_mirrorRows 62 = .ok (.goto (-60), 3) := by decide +kernel
theorem eX0_mirrorRows_62 : dec cX0_mirrorRows 62 (.goto (-60)) 3 65 := ⟨dX0_mirrorRows_62, rfl⟩
theorem dX0_mirrorRows_65 : decode cX0_mirrorRows 65 = .ok (.return_, 1) := by decide +kernel
theorem eX0_mirrorRows_65 : dec cX0_mirrorRows 65 .return_ 1 66 := ⟨dX0_mirrorRows_65, rfl⟩
theorem dX0_reverseRows_0 : decode cX0_reverseRows 0 = .ok (.iconst 0, 1) := by decide +kernel
theorem eX0_reverseRows_0 : dec cX0_reverseRows 0 (.iconst 0) 1 1 := ⟨dX0_reverseRows_0, rfl⟩
theorem dX0_reverseRows_1 : decode cX0_reverseRows 1 = .ok (.istore_n 1, 1) := by decide +kernel
theorem eX0_reverseRows_1 : dec cX0_reverseRows 1 (.istore_n 1) 1 2 := ⟨dX0_reverseRows_1, rfl⟩
theorem dX0_reverseRows_2 : decode cX0_reverseRows 2 = .ok (.iload_n 1, 1) := by decide +kernel
theorem eX0_reverseRows_2 : dec cX0_reverseRows 2 (.iload_n 1) 1 3 := ⟨dX0_reverseRows_2, rfl⟩
theorem dX0_reverseRows_3 : decode cX0_reverseRows 3 = .ok (.aload_n 0, 1) := by decide +kernel
theorem eX0_reverseRows_3 : dec cX0_reverseRows 3 (.aload_n 0) 1 4 := ⟨dX0_reverseRows_3, rfl⟩
theorem dX0_reverseRows_4 : decode cX0_reverseRows 4 = .ok (.getfield 22, 3) := by decide +kernel
theorem eX0_reverseRows_4 : dec cX0_reverseRows 4 (.getfield 22) 3 7 := ⟨dX0_reverseRows_4, rfl⟩
theorem dX0_reverseRows_7 : decode cX0_reverseRows 7 = .ok (.if_icmp .ge 58, 3) := by decide +kernel
theorem eX0_reverseRows_7 : dec cX0_reverseRows 7 (.if_icmp .ge 58) 3 10 := ⟨dX0_reverseRows_7, rfl⟩
theorem dX0_reverseRows_10 : decode cX0_reverseRows 10 = .ok (.iconst 0, 1) := by decide +kernel
theorem eX0_reverseRows_10 : dec cX0_reverseRows 10 (.iconst 0) 1 11 := ⟨dX0_reverseRows_10, rfl⟩
theorem dX0_reverseRows_11 : decode cX0_reverseRows 11 = .ok (.istore_n 2, 1) := by decide +kernel
theorem eX0_reverseRows_11 : dec cX0_reverseRows 11 (.istore_n 2) 1 12 := ⟨dX0_reverseRows_11, rfl⟩
theorem dX0_reverseRows_12 : decode cX0_reverseRows 12 = .ok (.iload_n 2, 1) := by decide +kernel
theorem eX0_reverseRows_12 : dec cX0_reverseRows 12 (.iload_n 2) 1 13 := ⟨dX0_reverseRows_12, rfl⟩
theorem dX0_reverseRows_13 : decode cX0_reverseRows 13 = .ok (.aload_n 0, 1) := by decide +kernel
theorem eX0_reverseRows_13 : dec cX0_reverseRows 13 (.aload_n 0) 1 14 := ⟨dX0_reverseRows_13, rfl⟩
theorem dX0_reverseRows_14 : decode cX0_reverseRows 14 = .ok (.getfield 18, 3) := by decide +kernel
theorem eX0_reverseRows_14 : dec cX0_reverseRows 14 (.getfield 18) 3 17 := ⟨dX0_reverseRows_14, rfl⟩
theorem dX0_reverseRows_17 : decode cX0_reverseRows 17 = .ok (.if_icmp .ge 42, 3) := by decide +kernel
theorem eX0_reverseRows_17 : dec cX0_reverseRows 17 (.if_icmp .ge 42) 3 20 := ⟨dX0_reverseRows_17, rfl⟩
theorem dX0_reverseRows_20 : decode cX0_reverseRows 20 = .ok (.aload_n 0, 1) := by decide +kernel
theorem eX0_reverseRows_20 : dec cX0_reverseRows 20 (.aload_n 0) 1 21 := ⟨dX0_reverseRows_20, rfl⟩
theorem dX0_reverseRows_21 : decode cX0_reverseRows 21 = .ok (.getfield 29, 3) := by decide +kernel
theorem eX0_reverseRows_21 : dec cX0_reverseRows 21 (.getfield 29) 3 24 := ⟨dX0_reverseRows_21, rfl⟩
theorem dX0_reverseRows_24 : decode cX0_reverseRows 24 = .ok (.iload_n 1, 1) := by decide +kernel
theorem eX0_reverseRows_24 : dec cX0_reverseRows 24 (.iload_n 1) 1 25 := ⟨dX0_reverseRows_24, rfl⟩
theorem dX0_reverseRows_25 : decode cX0_reverseRows 25 = .ok (.aload_n 0, 1) := by decide +kernel
theorem eX0_reverseRows_25 : dec cX0_reverseRows 25 (.aload_n 0) 1 26 := ⟨dX0_reverseRows_25, rfl⟩
theorem dX0_reverseRows_26 : decode cX0_reverseRows 26 = .ok (.getfield 18, 3) := by decide +kernel
theorem eX0_reverseRows_26 : dec cX0_reverseRows 26 (.getfield 18) 3 29 := ⟨dX0_reverseRows_26, rfl⟩
theorem dX0_reverseRows_29 : decode cX0_reverseRows 29 = .ok (.imul, 1) := by decide +kernel
theorem eX0_reverseRows_29 : dec cX0_reverseRows 29 .imul 1 30 := ⟨dX0_reverseRows_29, rfl⟩
theorem dX0_reverseRows_30 : decode cX0_reverseRows 30 = .ok (.iload_n 2, 1) := by decide +kernel
theorem eX0_reverseRows_30 : dec cX0_reverseRows 30 (.iload_n 2) 1 31 := ⟨dX0_reverseRows_30, rfl⟩
theorem dX0_reverseRows_31 : decode cX0_reverseRows 31 = .ok (.iadd, 1) := by decide +kernel
theorem eX0_reverseRows_31 : dec cX0_reverseRows 31 .iadd 1 32 := ⟨dX0_reverseRows_31, rfl⟩
theorem dX0_reverseRows_32 : decode cX0_reverseRows 32 = .ok (.aload_n 0, 1) := by decide +kernel
theorem eX0_reverseRows_32 : dec cX0_reverseRows 32 (.aload_n 0) 1 33 := ⟨dX0_reverseRows_32, rfl⟩
theorem dX0_reverseRows_33 : decode cX0_reverseRows 33 = .ok (.getfield 25, 3) := by decide +kernel
theorem eX0_reverseRows_33 : dec cX0_reverseRows 33 (.getfield 25) 3 36 := ⟨dX0_reverseRows_33, rfl⟩
theorem dX0_reverseRows_36 : decode cX0_reverseRows 36 = .ok (.aload_n 0, 1) := by decide +kernel
theorem eX0_reverseRows_36 : dec cX0_reverseRows 36 (.aload_n 0) 1 37 := ⟨dX0_reverseRows_36, rfl⟩
theorem dX0_reverseRows_37 : decode cX0_reverseRows 37 = .ok (.getfield 22, 3) := by decide +kernel
theorem eX0_reverseRows_37 : dec cX0_reverseRows 37 (.getfield 22) 3 40 := ⟨dX0_reverseRows_37, rfl⟩
theorem dX0_reverseRows_40 : decode cX0_reverseRows 40 = .ok (.iconst 1, 1) := by decide +kernel
theorem eX0_reverseRows_40 : dec cX0_reverseRows 40 (.iconst 1) 1 41 := ⟨dX0_reverseRows_40, rfl⟩
theorem dX0_reverseRows_41 : decode cX0_reverseRows 41 = .ok (.isub, 1) := by decide +kernel
theorem eX0_reverseRows_41 : dec cX0_reverseRows 41 .isub 1 42 := ⟨dX0_reverseRows_41, rfl⟩
theorem dX0_reverseRows_42 : decode cX0_reverseRows 42 = .ok (.iload_n 1, 1) := by decide +kernel
theorem eX0_reverseRows_42 : dec cX0_reverseRows 42 (.iload_n 1) 1 43 := ⟨dX0_reverseRows_42, rfl⟩
theorem dX0_reverseRows_43 : decode cX0_reverseRows 43 = .ok (.isub, 1) := by decide +kernel
theorem eX0_reverseRows_43 : dec cX0_reverseRows 43 .isub 1 44 := ⟨dX0_reverseRows_43, rfl⟩
theorem dX0_reverseRows_44 : decode cX0_reverseRows 44 = .ok (.aload_n 0, 1) := by decide +kernel
theorem eX0_reverseRows_44 : dec cX0_reverseRows 44 (.aload_n 0) 1 45 := ⟨dX0_reverseRows_44, rfl⟩
theorem dX0_reverseRows_45 : decode cX0_reverseRows 45 = .ok (.getfield 18, 3) := by decide +kernel
theorem eX0_reverseRows_45 : dec cX0_reverseRows 45 (.getfield 18) 3 48 := ⟨dX0_reverseRows_45, rfl⟩
theorem dX0_reverseRows_48 : decode cX0_reverseRows 48 = .ok (.imul, 1) := by decide +kernel
theorem eX0_reverseRows_48 : dec cX0_reverseRows 48 .imul 1 49 := ⟨dX0_reverseRows_48, rfl⟩
theorem dX0_reverseRows_49 : decode cX0_reverseRows 49 = .ok (.iload_n 2, 1) := by decide +kernel
theorem eX0_reverseRows_49 : dec cX0_reverseRows 49 (.iload_n 2) 1 50 := ⟨dX0_reverseRows_49, rfl⟩
theorem dX0_reverseRows_50 : decode cX0_reverseRows 50 = .ok (.iadd, 1) := by decide +kernel
theorem eX0_reverseRows_50 : dec cX0_reverseRows 50 .iadd 1 51 := ⟨dX0_reverseRows_50, rfl⟩
theorem dX0_reverseRows_51 : decode cX0_reverseRows 51 = .ok (.baload, 1) := by decide +kernel
theorem eX0_reverseRows_51 : dec cX0_reverseRows 51 .baload 1 52 := ⟨dX0_reverseRows_51, rfl⟩
theorem dX0_reverseRows_52 : decode cX0_reverseRows 52 = .ok (.bastore, 1) := by decide +kernel
theorem eX0_reverseRows_52 : dec cX0_reverseRows 52 .bastore 1 53 := ⟨dX0_reverseRows_52, rfl⟩
theorem dX0_reverseRows_53 : decode cX0_reverseRows 53 = .ok (.iinc 2 1, 3) := by decide +kernel
theorem eX0_reverseRows_53 : dec cX0_reverseRows 53 (.iinc 2 1) 3 56 := ⟨dX0_reverseRows_53, rfl⟩
theorem dX0_reverseRows_56 : decode cX0_reverseRows 56 = .ok (.goto (-44), 3) := by decide +kernel
theorem eX0_reverseRows_56 : dec cX0_reverseRows 56 (.goto (-44)) 3 59 := ⟨dX0_reverseRows_56, rfl⟩
theorem dX0_reverseRows_59 : decode cX0_reverseRows 59 = .ok (.iinc 1 1, 3) := by decide +kernel
theorem eX0_reverseRows_59 : dec cX0_reverseRows 59 (.iinc 1 1) 3 62 := ⟨dX0_reverseRows_59, rfl⟩
theorem dX0_reverseRows_62 : decode cX0_reverseRows 62 = .ok (.goto (-60), 3) := by decide +kernel
theorem eX0_reverseRows_62 : dec cX0_reverseRows 62 (.goto (-60)) 3 65 := ⟨dX0_reverseRows_62, rfl⟩
theorem dX0_reverseRows_65 : decode cX0_reverseRows 65 = .ok (.return_, 1) := by decide +kernel
theorem eX0_reverseRows_65 : dec cX0_reverseRows 65 .return_ 1 66 := ⟨dX0_reverseRows_65, rfl⟩
theorem dX0_invertGreys_0 : decode cX0_invertGreys 0 = .ok (.iconst 0, 1) := by decide +kernel
theorem eX0_invertGreys_0 : dec cX0_invertGreys 0 (.iconst 0) 1 1 := ⟨dX0_invertGreys_0, rfl⟩
theorem dX0_invertGreys_1 : decode cX0_invertGreys 1 = .ok (.istore_n 1, 1) := by decide +kernel
theorem eX0_invertGreys_1 : dec cX0_invertGreys 1 (.istore_n 1) 1 2 := ⟨dX0_invertGreys_1, rfl⟩
theorem dX0_invertGreys_2 : decode cX0_invertGreys 2 = .ok (.iload_n 1, 1) := by decide +kernel
theorem eX0_invertGreys_2 : dec cX0_invertGreys 2 (.iload_n 1) 1 3 := ⟨dX0_invertGreys_2, rfl⟩
theorem dX0_invertGreys_3 : decode cX0_invertGreys 3 = .ok (.aload_n 0, 1) := by decide +kernel
theorem eX0_invertGreys_3 : dec cX0_invertGreys 3 (.aload_n 0) 1 4 := ⟨dX0_invertGreys_3, rfl⟩
theorem dX0_invertGreys_4 : decode cX0_invertGreys 4 = .ok (.getfield 25, 3) := by decide +kernel
theorem eX0_invertGreys_4 : dec cX0_invertGreys 4 (.getfield 25) 3 7 := ⟨dX0_invertGreys_4, rfl⟩
theorem dX0_invertGreys_7 : decode cX0_invertGreys 7 = .ok (.arraylength, 1) := by decide +kernel
theorem eX0_invertGreys_7 : dec cX0_invertGreys 7 .arraylength 1 8 := ⟨dX0_invertGreys_7, rfl⟩
theorem dX0_invertGreys_8 : decode cX0_invertGreys 8 = .ok (.if_icmp .ge 30, 3) := by decide +kernel
theorem eX0_invertGreys_8 : dec cX0_invertGreys 8 (.if_icmp .ge 30) 3 11 := ⟨dX0_invertGreys_8, rfl⟩
theorem dX0_invertGreys_11 : decode cX0_invertGreys 11 = .ok (.aload_n 0, 1) := by decide +kernel
theorem eX0_invertGreys_11 : dec cX0_invertGreys 11 (.aload_n 0) 1 12 := ⟨dX0_invertGreys_11, rfl⟩
theorem dX0_invertGreys_12 : decode cX0_invertGreys 12 = .ok (.getfield 29, 3) := by decide +kernel
theorem eX0_invertGreys_12 : dec cX0_invertGreys 12 (.getfield 29) 3 15 := ⟨dX0_invertGreys_12, rfl⟩
theorem dX0_invertGreys_15 : decode cX0_invertGreys 15 = .ok (.iload_n 1, 1) := by decide +kernel
theorem eX0_invertGreys_15 : dec cX0_invertGreys 15 (.iload_n 1) 1 16 := ⟨dX0_invertGreys_15, rfl⟩
theorem dX0_invertGreys_16 : decode cX0_invertGreys 16 = .ok (.sipush 255, 3) := by decide +kernel
theorem eX0_invertGreys_16 : dec cX0_invertGreys 16 (.sipush 255) 3 19 := ⟨dX0_invertGreys_16, rfl⟩
theorem dX0_invertGreys_19 : decode cX0_invertGreys 19 = .ok (.aload_n 0, 1) := by decide +kernel
theorem eX0_invertGreys_19 : dec cX0_invertGreys 19 (.aload_n 0) 1 20 := ⟨dX0_invertGreys_19, rfl⟩
theorem dX0_invertGreys_20 : decode cX0_invertGreys 20 = .ok (.getfield 25, 3) := by decide +kernel
theorem eX0_invertGreys_20 : dec cX0_invertGreys 20 (.getfield 25) 3 23 := ⟨dX0_invertGreys_20, rfl⟩
theorem dX0_invertGreys_23 : decode cX0_invertGreys 23 = .ok (.iload_n 1, 1) := by decide +kernel
theorem eX0_invertGreys_23 : dec cX0_invertGreys 23 (.iload_n 1) 1 24 := ⟨dX0_invertGreys_23, rfl⟩
theorem dX0_invertGreys_24 : decode cX0_invertGreys 24 = .ok (.baload, 1) := by decide +kernel
theorem eX0_invertGreys_24 : dec cX0_invertGreys 24 .baload 1 25 := ⟨dX0_invertGreys_24, rfl⟩
theorem dX0_invertGreys_25 : decode cX0_invertGreys 25 = .ok (.sipush 255, 3) := by decide +kernel
theorem eX0_invertGreys_25 : dec cX0_invertGreys 25 (.sipush 255) 3 28 := ⟨dX0_invertGreys_25, rfl⟩
theorem dX0_invertGreys_28 : decode cX0_invertGreys 28 = .ok (.iand, 1) := by decide +kernel
theorem eX0_invertGreys_28 : dec cX0_invertGreys 28 .iand 1 29 := ⟨dX0_invertGreys_28, rfl⟩
theorem dX0_invertGreys_29 : decode cX0_invertGreys 29 = .ok (.isub, 1) := by decide +kernel
theorem eX0_invertGreys_29 : dec cX0_invertGreys 29 .isub 1 30 := ⟨dX0_invertGreys_29, rfl⟩
theorem dX0_invertGreys_30 : decode cX0_invertGreys 30 = .ok (.i2b, 1) := by decide +kernel
theorem eX0_invertGreys_30 : dec cX0_invertGreys 30 .i2b 1 31 := ⟨dX0_invertGreys_30, rfl⟩
theorem dX0_invertGreys_31 : decode cX0_invertGreys 31 = .ok (.bastore, 1) := by decide +kernel
theorem eX0_invertGreys_31 : dec cX0_invertGreys 31 .bastore 1 32 := ⟨dX0_invertGreys_31, rfl⟩
theorem dX0_invertGreys_32 : decode cX0_invertGreys 32 = .ok (.iinc 1 1, 3) := by decide +kernel
theorem eX0_invertGreys_32 : dec cX0_invertGreys 32 (.iinc 1 1) 3 35 := ⟨dX0_invertGreys_32, rfl⟩
theorem dX0_invertGreys_35 : decode cX0_invertGreys 35 = .ok (.goto (-33), 3) := by decide +kernel
theorem eX0_invertGreys_35 : dec cX0_invertGreys 35 (.goto (-33)) 3 38 := ⟨dX0_invertGreys_35, rfl⟩
theorem dX0_invertGreys_38 : decode cX0_invertGreys 38 = .ok (.return_, 1) := by decide +kernel
theorem eX0_invertGreys_38 : dec cX0_invertGreys 38 .return_ 1 39 := ⟨dX0_invertGreys_38, rfl⟩
set_option maxRecDepth 20000 in
theorem ggX0_halve_J7_fill_031fb : GoodIn wsX0_halve wsJ7_fill_031fb := goodIn_r _ [7] (by decide +kernel) (by decide +kernel)
set_option maxRecDepth 20000 in
theorem gX0_halve_J7_fill_031fb : GoodIn wsX0_halve (va_wsS RX0 58 yJ7_fill_031fb wsJ7_fill_031fb) := goodIn_app (goodIn_of _ (by decide +kernel)) ggX0_halve_J7_fill_031fb
set_option maxRecDepth 20000 in
theorem ggX0_halve_X0_meanOfFour : GoodIn wsX0_halve wsX0_meanOfFour := goodIn_r _ [12, 13, 3, 14, 15, 16, 17, 18, 19, 20, 21, 22, 23, 24, 25, 26, 27, 28, 29] (by decide +kernel) (by decide +kernel)
set_option maxRecDepth 20000 in
theorem gX0_halve_X0_meanOfFour : GoodIn wsX0_halve (wsV RX0 161 RX0 yX0_meanOfFour wsX0_meanOfFour) := goodIn_app (goodIn_of _ (by decide +kernel)) ggX0_halve_X0_meanOfFour
theorem dX0_halve_0 : decode cX0_halve 0 = .ok (.aload_n 0, 1) := by decide +kernel
theorem eX0_halve_0 : dec cX0_halve 0 (.aload_n 0) 1 1 := ⟨dX0_halve_0, rfl⟩
theorem dX0_halve_1 : decode cX0_halve 1 = .ok (.getfield 29, 3) := by decide +kernel
theorem eX0_halve_1 : dec cX0_halve 1 (.getfield 29) 3 4 := ⟨dX0_halve_1, rfl⟩
theorem dX0_halve_4 : decode cX0_halve 4 = .ok (.iconst (-1), 1) := by decide +kernel
theorem eX0_halve_4 : dec cX0_halve 4 (.iconst (-1)) 1 5 := ⟨dX0_halve_4, rfl⟩
theorem dX0_halve_5 : decode cX0_halve 5 = .ok (.invokestatic 58, 3) := by decide +kernel
theorem eX0_halve_5 : dec cX0_halve 5 (.invokestatic 58) 3 8 := ⟨dX0_halve_5, rfl⟩
theorem dX0_halve_8 : decode cX0_halve 8 = .ok (.iconst 0, 1) := by decide +kernel
theorem eX0_halve_8 : dec cX0_halve 8 (.iconst 0) 1 9 := ⟨dX0_halve_8, rfl⟩
theorem dX0_halve_9 : decode cX0_halve 9 = .ok (.istore_n 1, 1) := by decide +kernel
theorem eX0_halve_9 : dec cX0_halve 9 (.istore_n 1) 1 10 := ⟨dX0_halve_9, rfl⟩
theorem dX0_halve_10 : decode cX0_halve 10 = .ok (.iload_n 1, 1) := by decide +kernel
theorem eX0_halve_10 : dec cX0_halve 10 (.iload_n 1) 1 11 := ⟨dX0_halve_10, rfl⟩
theorem dX0_halve_11 : decode cX0_halve 11 = .ok (.aload_n 0, 1) := by decide +kernel
theorem eX0_halve_11 : dec cX0_halve 11 (.aload_n 0) 1 12 := ⟨dX0_halve_11, rfl⟩
theorem dX0_halve_12 : decode cX0_halve 12 = .ok (.getfield 22, 3) := by decide +kernel
theorem eX0_halve_12 : dec cX0_halve 12 (.getfield 22) 3 15 := ⟨dX0_halve_12, rfl⟩
theorem dX0_halve_15 : decode cX0_halve 15 = .ok (.iconst 2, 1) := by decide +kernel
theorem eX0_halve_15 : dec cX0_halve 15 (.iconst 2) 1 16 := ⟨dX0_halve_15, rfl⟩
theorem dX0_halve_16 : decode cX0_halve 16 = .ok (.idiv, 1) := by decide +kernel
theorem eX0_halve_16 : dec cX0_halve 16 .idiv 1 17 := ⟨dX0_halve_16, rfl⟩
theorem dX0_halve_17 : decode cX0_halve 17 = .ok (.if_icmp .ge 56, 3) := by decide +kernel
theorem eX0_halve_17 : dec cX0_halve 17 (.if_icmp .ge 56) 3 20 := ⟨dX0_halve_17, rfl⟩
theorem dX0_halve_20 : decode cX0_halve 20 = .ok (.iconst 0, 1) := by decide +kernel
theorem eX0_halve_20 : dec cX0_halve 20 (.iconst 0) 1 21 := ⟨dX0_halve_20, rfl⟩
theorem dX0_halve_21 : decode cX0_halve 21 = .ok (.istore_n 2, 1) := by decide +kernel
theorem eX0_halve_21 : dec cX0_halve 21 (.istore_n 2) 1 22 := ⟨dX0_halve_21, rfl⟩
theorem dX0_halve_22 : decode cX0_halve 22 = .ok (.iload_n 2, 1) := by decide +kernel
theorem eX0_halve_22 : dec cX0_halve 22 (.iload_n 2) 1 23 := ⟨dX0_halve_22, rfl⟩
theorem dX0_halve_23 : decode cX0_halve 23 = .ok (.aload_n 0, 1) := by decide +kernel
theorem eX0_halve_23 : dec cX0_halve 23 (.aload_n 0) 1 24 := ⟨dX0_halve_23, rfl⟩
theorem dX0_halve_24 : decode cX0_halve 24 = .ok (.getfield 18, 3) := by decide +kernel
theorem eX0_halve_24 : dec cX0_halve 24 (.getfield 18) 3 27 := ⟨dX0_halve_24, rfl⟩
theorem dX0_halve_27 : decode cX0_halve 27 = .ok (.iconst 2, 1) := by decide +kernel
theorem eX0_halve_27 : dec cX0_halve 27 (.iconst 2) 1 28 := ⟨dX0_halve_27, rfl⟩
theorem dX0_halve_28 : decode cX0_halve 28 = .ok (.idiv, 1) := by decide +kernel
theorem eX0_halve_28 : dec cX0_halve 28 .idiv 1 29 := ⟨dX0_halve_28, rfl⟩
theorem dX0_halve_29 : decode cX0_halve 29 = .ok (.if_icmp .ge 38, 3) := by decide +kernel
theorem eX0_halve_29 : dec cX0_halve 29 (.if_icmp .ge 38) 3 32 := ⟨dX0_halve_29, rfl⟩
theorem dX0_halve_32 : decode cX0_halve 32 = .ok (.aload_n 0, 1) := by decide +kernel
theorem eX0_halve_32 : dec cX0_halve 32 (.aload_n 0) 1 33 := ⟨dX0_halve_32, rfl⟩
theorem dX0_halve_33 : decode cX0_halve 33 = .ok (.getfield 29, 3) := by decide +kernel
theorem eX0_halve_33 : dec cX0_halve 33 (.getfield 29) 3 36 := ⟨dX0_halve_33, rfl⟩
theorem dX0_halve_36 : decode cX0_halve 36 = .ok (.iload_n 1, 1) := by decide +kernel
theorem eX0_halve_36 : dec cX0_halve 36 (.iload_n 1) 1 37 := ⟨dX0_halve_36, rfl⟩
theorem dX0_halve_37 : decode cX0_halve 37 = .ok (.aload_n 0, 1) := by decide +kernel
theorem eX0_halve_37 : dec cX0_halve 37 (.aload_n 0) 1 38 := ⟨dX0_halve_37, rfl⟩
theorem dX0_halve_38 : decode cX0_halve 38 = .ok (.getfield 18, 3) := by decide +kernel
theorem eX0_halve_38 : dec cX0_halve 38 (.getfield 18) 3 41 := ⟨dX0_halve_38, rfl⟩
theorem dX0_halve_41 : decode cX0_halve 41 = .ok (.imul, 1) := by decide +kernel
theorem eX0_halve_41 : dec cX0_halve 41 .imul 1 42 := ⟨dX0_halve_41, rfl⟩
theorem dX0_halve_42 : decode cX0_halve 42 = .ok (.iload_n 2, 1) := by decide +kernel
theorem eX0_halve_42 : dec cX0_halve 42 (.iload_n 2) 1 43 := ⟨dX0_halve_42, rfl⟩
theorem dX0_halve_43 : decode cX0_halve 43 = .ok (.iadd, 1) := by decide +kernel
theorem eX0_halve_43 : dec cX0_halve 43 .iadd 1 44 := ⟨dX0_halve_43, rfl⟩
theorem dX0_halve_44 : decode cX0_halve 44 = .ok (.aload_n 0, 1) := by decide +kernel
theorem eX0_halve_44 : dec cX0_halve 44 (.aload_n 0) 1 45 := ⟨dX0_halve_44, rfl⟩
theorem dX0_halve_45 : decode cX0_halve 45 = .ok (.iconst 2, 1) := by decide +kernel
theorem eX0_halve_45 : dec cX0_halve 45 (.iconst 2) 1 46 := ⟨dX0_halve_45, rfl⟩
theorem dX0_halve_46 : decode cX0_halve 46 = .ok (.iload_n 1, 1) := by decide +kernel
theorem eX0_halve_46 : dec cX0_halve 46 (.iload_n 1) 1 47 := ⟨dX0_halve_46, rfl⟩
theorem dX0_halve_47 : decode cX0_halve 47 = .ok (.imul, 1) := by decide +kernel
theorem eX0_halve_47 : dec cX0_halve 47 .imul 1 48 := ⟨dX0_halve_47, rfl⟩
theorem dX0_halve_48 : decode cX0_halve 48 = .ok (.aload_n 0, 1) := by decide +kernel
theorem eX0_halve_48 : dec cX0_halve 48 (.aload_n 0) 1 49 := ⟨dX0_halve_48, rfl⟩
theorem dX0_halve_49 : decode cX0_halve 49 = .ok (.getfield 18, 3) := by decide +kernel
theorem eX0_halve_49 : dec cX0_halve 49 (.getfield 18) 3 52 := ⟨dX0_halve_49, rfl⟩
theorem dX0_halve_52 : decode cX0_halve 52 = .ok (.imul, 1) := by decide +kernel
theorem eX0_halve_52 : dec cX0_halve 52 .imul 1 53 := ⟨dX0_halve_52, rfl⟩
theorem dX0_halve_53 : decode cX0_halve 53 = .ok (.iconst 2, 1) := by decide +kernel
theorem eX0_halve_53 : dec cX0_halve 53 (.iconst 2) 1 54 := ⟨dX0_halve_53, rfl⟩
theorem dX0_halve_54 : decode cX0_halve 54 = .ok (.iload_n 2, 1) := by decide +kernel
theorem eX0_halve_54 : dec cX0_halve 54 (.iload_n 2) 1 55 := ⟨dX0_halve_54, rfl⟩
theorem dX0_halve_55 : decode cX0_halve 55 = .ok (.imul, 1) := by decide +kernel
theorem eX0_halve_55 : dec cX0_halve 55 .imul 1 56 := ⟨dX0_halve_55, rfl⟩
theorem dX0_halve_56 : decode cX0_halve 56 = .ok (.iadd, 1) := by decide +kernel
theorem eX0_halve_56 : dec cX0_halve 56 .iadd 1 57 := ⟨dX0_halve_56, rfl⟩
theorem dX0_halve_57 : decode cX0_halve 57 = .ok (.invokevirtual 161, 3) := by decide +kernel
theorem eX0_halve_57 : dec cX0_halve 57 (.invokevirtual 161) 3 60 := ⟨dX0_halve_57, rfl⟩
theorem dX0_halve_60 : decode cX0_halve 60 = .ok (.bastore, 1) := by decide +kernel
theorem eX0_halve_60 : dec cX0_halve 60 .bastore 1 61 := ⟨dX0_halve_60, rfl⟩
theorem dX0_halve_61 : decode cX0_halve 61 = .ok (.iinc 2 1, 3) := by decide +kernel
theorem eX0_halve_61 : dec cX0_halve 61 (.iinc 2 1) 3 64 := ⟨dX0_halve_61, rfl⟩
theorem dX0_halve_64 : decode cX0_halve 64 = .ok (.goto (-42), 3) := by decide +kernel
theorem eX0_halve_64 : dec cX0_halve 64 (.goto (-42)) 3 67 := ⟨dX0_halve_64, rfl⟩
theorem dX0_halve_67 : decode cX0_halve 67 = .ok (.iinc 1 1, 3) := by decide +kernel
theorem eX0_halve_67 : dec cX0_halve 67 (.iinc 1 1) 3 70 := ⟨dX0_halve_67, rfl⟩
theorem dX0_halve_70 : decode cX0_halve 70 = .ok (.goto (-60), 3) := by decide +kernel
theorem eX0_halve_70 : dec cX0_halve 70 (.goto (-60)) 3 73 := ⟨dX0_halve_70, rfl⟩
theorem dX0_halve_73 : decode cX0_halve 73 = .ok (.return_, 1) := by decide +kernel
theorem eX0_halve_73 : dec cX0_halve 73 .return_ 1 74 := ⟨dX0_halve_73, rfl⟩
theorem dX0_meanOfFour_0 : decode cX0_meanOfFour 0 = .ok (.aload_n 0, 1) := by decide +kernel
theorem eX0_meanOfFour_0 : dec cX0_meanOfFour 0 (.aload_n 0) 1 1 := ⟨dX0_meanOfFour_0, rfl⟩
theorem dX0_meanOfFour_1 : decode cX0_meanOfFour 1 = .ok (.getfield 25, 3) := by decide +kernel
theorem eX0_meanOfFour_1 : dec cX0_meanOfFour 1 (.getfield 25) 3 4 := ⟨dX0_meanOfFour_1, rfl⟩
theorem dX0_meanOfFour_4 : decode cX0_meanOfFour 4 = .ok (.iload_n 1, 1) := by decide +kernel
theorem eX0_meanOfFour_4 : dec cX0_meanOfFour 4 (.iload_n 1) 1 5 := ⟨dX0_meanOfFour_4, rfl⟩
theorem dX0_meanOfFour_5 : decode cX0_meanOfFour 5 = .ok (.baload, 1) := by decide +kernel
theorem eX0_meanOfFour_5 : dec cX0_meanOfFour 5 .baload 1 6 := ⟨dX0_meanOfFour_5, rfl⟩
theorem dX0_meanOfFour_6 : decode cX0_meanOfFour 6 = .ok (.sipush 255, 3) := by decide +kernel
theorem eX0_meanOfFour_6 : dec cX0_meanOfFour 6 (.sipush 255) 3 9 := ⟨dX0_meanOfFour_6, rfl⟩
theorem dX0_meanOfFour_9 : decode cX0_meanOfFour 9 = .ok (.iand, 1) := by decide +kernel
theorem eX0_meanOfFour_9 : dec cX0_meanOfFour 9 .iand 1 10 := ⟨dX0_meanOfFour_9, rfl⟩
theorem dX0_meanOfFour_10 : decode cX0_meanOfFour 10 = .ok (.aload_n 0, 1) := by decide +kernel
theorem eX0_meanOfFour_10 : dec cX0_meanOfFour 10 (.aload_n 0) 1 11 := ⟨dX0_meanOfFour_10, rfl⟩
theorem dX0_meanOfFour_11 : decode cX0_meanOfFour 11 = .ok (.getfield 25, 3) := by decide +kernel
theorem eX0_meanOfFour_11 : dec cX0_meanOfFour 11 (.getfield 25) 3 14 := ⟨dX0_meanOfFour_11, rfl⟩
theorem dX0_meanOfFour_14 : decode cX0_meanOfFour 14 = .ok (.iload_n 1, 1) := by decide +kernel
theorem eX0_meanOfFour_14 : dec cX0_meanOfFour 14 (.iload_n 1) 1 15 := ⟨dX0_meanOfFour_14, rfl⟩
theorem dX0_meanOfFour_15 : decode cX0_meanOfFour 15 = .ok (.iconst 1, 1) := by decide +kernel
theorem eX0_meanOfFour_15 : dec cX0_meanOfFour 15 (.iconst 1) 1 16 := ⟨dX0_meanOfFour_15, rfl⟩
theorem dX0_meanOfFour_16 : decode cX0_meanOfFour 16 = .ok (.iadd, 1) := by decide +kernel
theorem eX0_meanOfFour_16 : dec cX0_meanOfFour 16 .iadd 1 17 := ⟨dX0_meanOfFour_16, rfl⟩
theorem dX0_meanOfFour_17 : decode cX0_meanOfFour 17 = .ok (.baload, 1) := by decide +kernel
theorem eX0_meanOfFour_17 : dec cX0_meanOfFour 17 .baload 1 18 := ⟨dX0_meanOfFour_17, rfl⟩
theorem dX0_meanOfFour_18 : decode cX0_meanOfFour 18 = .ok (.sipush 255, 3) := by decide +kernel
theorem eX0_meanOfFour_18 : dec cX0_meanOfFour 18 (.sipush 255) 3 21 := ⟨dX0_meanOfFour_18, rfl⟩
theorem dX0_meanOfFour_21 : decode cX0_meanOfFour 21 = .ok (.iand, 1) := by decide +kernel
theorem eX0_meanOfFour_21 : dec cX0_meanOfFour 21 .iand 1 22 := ⟨dX0_meanOfFour_21, rfl⟩
theorem dX0_meanOfFour_22 : decode cX0_meanOfFour 22 = .ok (.iadd, 1) := by decide +kernel
theorem eX0_meanOfFour_22 : dec cX0_meanOfFour 22 .iadd 1 23 := ⟨dX0_meanOfFour_22, rfl⟩
theorem dX0_meanOfFour_23 : decode cX0_meanOfFour 23 = .ok (.istore_n 2, 1) := by decide +kernel
theorem eX0_meanOfFour_23 : dec cX0_meanOfFour 23 (.istore_n 2) 1 24 := ⟨dX0_meanOfFour_23, rfl⟩
theorem dX0_meanOfFour_24 : decode cX0_meanOfFour 24 = .ok (.aload_n 0, 1) := by decide +kernel
theorem eX0_meanOfFour_24 : dec cX0_meanOfFour 24 (.aload_n 0) 1 25 := ⟨dX0_meanOfFour_24, rfl⟩
theorem dX0_meanOfFour_25 : decode cX0_meanOfFour 25 = .ok (.getfield 25, 3) := by decide +kernel
theorem eX0_meanOfFour_25 : dec cX0_meanOfFour 25 (.getfield 25) 3 28 := ⟨dX0_meanOfFour_25, rfl⟩
theorem dX0_meanOfFour_28 : decode cX0_meanOfFour 28 = .ok (.iload_n 1, 1) := by decide +kernel
theorem eX0_meanOfFour_28 : dec cX0_meanOfFour 28 (.iload_n 1) 1 29 := ⟨dX0_meanOfFour_28, rfl⟩
theorem dX0_meanOfFour_29 : decode cX0_meanOfFour 29 = .ok (.aload_n 0, 1) := by decide +kernel
theorem eX0_meanOfFour_29 : dec cX0_meanOfFour 29 (.aload_n 0) 1 30 := ⟨dX0_meanOfFour_29, rfl⟩
theorem dX0_meanOfFour_30 : decode cX0_meanOfFour 30 = .ok (.getfield 18, 3) := by decide +kernel
theorem eX0_meanOfFour_30 : dec cX0_meanOfFour 30 (.getfield 18) 3 33 := ⟨dX0_meanOfFour_30, rfl⟩
theorem dX0_meanOfFour_33 : decode cX0_meanOfFour 33 = .ok (.iadd, 1) := by decide +kernel
theorem eX0_meanOfFour_33 : dec cX0_meanOfFour 33 .iadd 1 34 := ⟨dX0_meanOfFour_33, rfl⟩
theorem dX0_meanOfFour_34 : decode cX0_meanOfFour 34 = .ok (.baload, 1) := by decide +kernel
theorem eX0_meanOfFour_34 : dec cX0_meanOfFour 34 .baload 1 35 := ⟨dX0_meanOfFour_34, rfl⟩
theorem dX0_meanOfFour_35 : decode cX0_meanOfFour 35 = .ok (.sipush 255, 3) := by decide +kernel
theorem eX0_meanOfFour_35 : dec cX0_meanOfFour 35 (.sipush 255) 3 38 := ⟨dX0_meanOfFour_35, rfl⟩
theorem dX0_meanOfFour_38 : decode cX0_meanOfFour 38 = .ok (.iand, 1) := by decide +kernel
theorem eX0_meanOfFour_38 : dec cX0_meanOfFour 38 .iand 1 39 := ⟨dX0_meanOfFour_38, rfl⟩
theorem dX0_meanOfFour_39 : decode cX0_meanOfFour 39 = .ok (.aload_n 0, 1) := by decide +kernel
theorem eX0_meanOfFour_39 : dec cX0_meanOfFour 39 (.aload_n 0) 1 40 := ⟨dX0_meanOfFour_39, rfl⟩
theorem dX0_meanOfFour_40 : decode cX0_meanOfFour 40 = .ok (.getfield 25, 3) := by decide +kernel
theorem eX0_meanOfFour_40 : dec cX0_meanOfFour 40 (.getfield 25) 3 43 := ⟨dX0_meanOfFour_40, rfl⟩
theorem dX0_meanOfFour_43 : decode cX0_meanOfFour 43 = .ok (.iload_n 1, 1) := by decide +kernel
theorem eX0_meanOfFour_43 : dec cX0_meanOfFour 43 (.iload_n 1) 1 44 := ⟨dX0_meanOfFour_43, rfl⟩
theorem dX0_meanOfFour_44 : decode cX0_meanOfFour 44 = .ok (.aload_n 0, 1) := by decide +kernel
theorem eX0_meanOfFour_44 : dec cX0_meanOfFour 44 (.aload_n 0) 1 45 := ⟨dX0_meanOfFour_44, rfl⟩
theorem dX0_meanOfFour_45 : decode cX0_meanOfFour 45 = .ok (.getfield 18, 3) := by decide +kernel
theorem eX0_meanOfFour_45 : dec cX0_meanOfFour 45 (.getfield 18) 3 48 := ⟨dX0_meanOfFour_45, rfl⟩
theorem dX0_meanOfFour_48 : decode cX0_meanOfFour 48 = .ok (.iadd, 1) := by decide +kernel
theorem eX0_meanOfFour_48 : dec cX0_meanOfFour 48 .iadd 1 49 := ⟨dX0_meanOfFour_48, rfl⟩
theorem dX0_meanOfFour_49 : decode cX0_meanOfFour 49 = .ok (.iconst 1, 1) := by decide +kernel
theorem eX0_meanOfFour_49 : dec cX0_meanOfFour 49 (.iconst 1) 1 50 := ⟨dX0_meanOfFour_49, rfl⟩
theorem dX0_meanOfFour_50 : decode cX0_meanOfFour 50 = .ok (.iadd, 1) := by decide +kernel
theorem eX0_meanOfFour_50 : dec cX0_meanOfFour 50 .iadd 1 51 := ⟨dX0_meanOfFour_50, rfl⟩
theorem dX0_meanOfFour_51 : decode cX0_meanOfFour 51 = .ok (.baload, 1) := by decide +kernel
theorem eX0_meanOfFour_51 : dec cX0_meanOfFour 51 .baload 1 52 := ⟨dX0_meanOfFour_51, rfl⟩
theorem dX0_meanOfFour_52 : decode cX0_meanOfFour 52 = .ok (.sipush 255, 3) := by decide +kernel
theorem eX0_meanOfFour_52 : dec cX0_meanOfFour 52 (.sipush 255) 3 55 := ⟨dX0_meanOfFour_52, rfl⟩
theorem dX0_meanOfFour_55 : decode cX0_meanOfFour 55 = .ok (.iand, 1) := by decide +kernel
theorem eX0_meanOfFour_55 : dec cX0_meanOfFour 55 .iand 1 56 := ⟨dX0_meanOfFour_55, rfl⟩
theorem dX0_meanOfFour_56 : decode cX0_meanOfFour 56 = .ok (.iadd, 1) := by decide +kernel
theorem eX0_meanOfFour_56 : dec cX0_meanOfFour 56 .iadd 1 57 := ⟨dX0_meanOfFour_56, rfl⟩
theorem dX0_meanOfFour_57 : decode cX0_meanOfFour 57 = .ok (.istore_n 3, 1) := by decide +kernel
theorem eX0_meanOfFour_57 : dec cX0_meanOfFour 57 (.istore_n 3) 1 58 := ⟨dX0_meanOfFour_57, rfl⟩
theorem dX0_meanOfFour_58 : decode cX0_meanOfFour 58 = .ok (.iload_n 2, 1) := by decide +kernel
theorem eX0_meanOfFour_58 : dec cX0_meanOfFour 58 (.iload_n 2) 1 59 := ⟨dX0_meanOfFour_58, rfl⟩
theorem dX0_meanOfFour_59 : decode cX0_meanOfFour 59 = .ok (.iload_n 3, 1) := by decide +kernel
theorem eX0_meanOfFour_59 : dec cX0_meanOfFour 59 (.iload_n 3) 1 60 := ⟨dX0_meanOfFour_59, rfl⟩
theorem dX0_meanOfFour_60 : decode cX0_meanOfFour 60 = .ok (.iadd, 1) := by decide +kernel
theorem eX0_meanOfFour_60 : dec cX0_meanOfFour 60 .iadd 1 61 := ⟨dX0_meanOfFour_60, rfl⟩
theorem dX0_meanOfFour_61 : decode cX0_meanOfFour 61 = .ok (.iconst 4, 1) := by decide +kernel
theorem eX0_meanOfFour_61 : dec cX0_meanOfFour 61 (.iconst 4) 1 62 := ⟨dX0_meanOfFour_61, rfl⟩
theorem dX0_meanOfFour_62 : decode cX0_meanOfFour 62 = .ok (.idiv, 1) := by decide +kernel
theorem eX0_meanOfFour_62 : dec cX0_meanOfFour 62 .idiv 1 63 := ⟨dX0_meanOfFour_62, rfl⟩
theorem dX0_meanOfFour_63 : decode cX0_meanOfFour 63 = .ok (.i2b, 1) := by decide +kernel
theorem eX0_meanOfFour_63 : dec cX0_meanOfFour 63 .i2b 1 64 := ⟨dX0_meanOfFour_63, rfl⟩
theorem dX0_meanOfFour_64 : decode cX0_meanOfFour 64 = .ok (.ireturn, 1) := by decide +kernel
theorem eX0_meanOfFour_64 : dec cX0_meanOfFour 64 .ireturn 1 65 := ⟨dX0_meanOfFour_64, rfl⟩
end
section
theorem dX1_init_0 : decode cX1_init 0 = .ok (.aload_n 0, 1) := by decide +kernel
theorem eX1_init_0 : dec cX1_init 0 (.aload_n 0) 1 1 := ⟨dX1_init_0, rfl⟩
theorem dX1_init_1 : decode cX1_init 1 = .ok (.invokespecial 1, 3) := by decide +kernel
theorem eX1_init_1 : dec cX1_init 1 (.invokespecial 1) 3 4 := ⟨dX1_init_1, rfl⟩
theorem dX1_init_4 : decode cX1_init 4 = .ok (.aload_n 0, 1) := by decide +kernel
theorem eX1_init_4 : dec cX1_init 4 (.aload_n 0) 1 5 := ⟨dX1_init_4, rfl⟩
theorem dX1_init_5 : decode cX1_init 5 = .ok (.sipush 2304, 3) := by decide +kernel
theorem eX1_init_5 : dec cX1_init 5 (.sipush 2304) 3 8 := ⟨dX1_init_5, rfl⟩
theorem dX1_init_8 : decode cX1_init 8 = .ok (.newarray .int, 2) := by decide +kernel
theorem eX1_init_8 : dec cX1_init 8 (.newarray .int) 2 10 := ⟨dX1_init_8, rfl⟩
theorem dX1_init_10 : decode cX1_init 10 = .ok (.putfield 7, 3) := by decide +kernel
theorem eX1_init_10 : dec cX1_init 10 (.putfield 7) 3 13 := ⟨dX1_init_10, rfl⟩
theorem dX1_init_13 : decode cX1_init 13 = .ok (.aload_n 0, 1) := by decide +kernel
theorem eX1_init_13 : dec cX1_init 13 (.aload_n 0) 1 14 := ⟨dX1_init_13, rfl⟩
theorem dX1_init_14 : decode cX1_init 14 = .ok (.sipush 2304, 3) := by decide +kernel
theorem eX1_init_14 : dec cX1_init 14 (.sipush 2304) 3 17 := ⟨dX1_init_14, rfl⟩
theorem dX1_init_17 : decode cX1_init 17 = .ok (.newarray .int, 2) := by decide +kernel
theorem eX1_init_17 : dec cX1_init 17 (.newarray .int) 2 19 := ⟨dX1_init_17, rfl⟩
theorem dX1_init_19 : decode cX1_init 19 = .ok (.putfield 13, 3) := by decide +kernel
theorem eX1_init_19 : dec cX1_init 19 (.putfield 13) 3 22 := ⟨dX1_init_19, rfl⟩
theorem dX1_init_22 : decode cX1_init 22 = .ok (.aload_n 0, 1) := by decide +kernel
theorem eX1_init_22 : dec cX1_init 22 (.aload_n 0) 1 23 := ⟨dX1_init_22, rfl⟩
theorem dX1_init_23 : decode cX1_init 23 = .ok (.sipush 256, 3) := by decide +kernel
theorem eX1_init_23 : dec cX1_init 23 (.sipush 256) 3 26 := ⟨dX1_init_23, rfl⟩
theorem dX1_init_26 : decode cX1_init 26 = .ok (.newarray .int, 2) := by decide +kernel
theorem eX1_init_26 : dec cX1_init 26 (.newarray .int) 2 28 := ⟨dX1_init_26, rfl⟩
theorem dX1_init_28 : decode cX1_init 28 = .ok (.putfield 16, 3) := by decide +kernel
theorem eX1_init_28 : dec cX1_init 28 (.putfield 16) 3 31 := ⟨dX1_init_28, rfl⟩
theorem dX1_init_31 : decode cX1_init 31 = .ok (.aload_n 0, 1) := by decide +kernel
theorem eX1_init_31 : dec cX1_init 31 (.aload_n 0) 1 32 := ⟨dX1_init_31, rfl⟩
theorem dX1_init_32 : decode cX1_init 32 = .ok (.sipush 2304, 3) := by decide +kernel
theorem eX1_init_32 : dec cX1_init 32 (.sipush 2304) 3 35 := ⟨dX1_init_32, rfl⟩
theorem dX1_init_35 : decode cX1_init 35 = .ok (.newarray .int, 2) := by decide +kernel
theorem eX1_init_35 : dec cX1_init 35 (.newarray .int) 2 37 := ⟨dX1_init_35, rfl⟩
theorem dX1_init_37 : decode cX1_init 37 = .ok (.putfield 19, 3) := by decide +kernel
theorem eX1_init_37 : dec cX1_init 37 (.putfield 19) 3 40 := ⟨dX1_init_37, rfl⟩
theorem dX1_init_40 : decode cX1_init 40 = .ok (.aload_n 0, 1) := by decide +kernel
theorem eX1_init_40 : dec cX1_init 40 (.aload_n 0) 1 41 := ⟨dX1_init_40, rfl⟩
theorem dX1_init_41 : decode cX1_init 41 = .ok (.sipush 2304, 3) := by decide +kernel
theorem eX1_init_41 : dec cX1_init 41 (.sipush 2304) 3 44 := ⟨dX1_init_41, rfl⟩
theorem dX1_init_44 : decode cX1_init 44 = .ok (.newarray .int, 2) := by decide +kernel
theorem eX1_init_44 : dec cX1_init 44 (.newarray .int) 2 46 := ⟨dX1_init_44, rfl⟩
theorem dX1_init_46 : decode cX1_init 46 = .ok (.putfield 22, 3) := by decide +kernel
theorem eX1_init_46 : dec cX1_init 46 (.putfield 22) 3 49 := ⟨dX1_init_46, rfl⟩
theorem dX1_init_49 : decode cX1_init 49 = .ok (.aload_n 0, 1) := by decide +kernel
theorem eX1_init_49 : dec cX1_init 49 (.aload_n 0) 1 50 := ⟨dX1_init_49, rfl⟩
theorem dX1_init_50 : decode cX1_init 50 = .ok (.sipush 16128, 3) := by decide +kernel
theorem eX1_init_50 : dec cX1_init 50 (.sipush 16128) 3 53 := ⟨dX1_init_50, rfl⟩
theorem dX1_init_53 : decode cX1_init 53 = .ok (.newarray .int, 2) := by decide +kernel
theorem eX1_init_53 : dec cX1_init 53 (.newarray .int) 2 55 := ⟨dX1_init_53, rfl⟩
theorem dX1_init_55 : decode cX1_init 55 = .ok (.putfield 25, 3) := by decide +kernel
theorem eX1_init_55 : dec cX1_init 55 (.putfield 25) 3 58 := ⟨dX1_init_55, rfl⟩
theorem dX1_init_58 : decode cX1_init 58 = .ok (.aload_n 0, 1) := by decide +kernel
theorem eX1_init_58 : dec cX1_init 58 (.aload_n 0) 1 59 := ⟨dX1_init_58, rfl⟩
theorem dX1_init_59 : decode cX1_init 59 = .ok (.sipush 4608, 3) := by decide +kernel
theorem eX1_init_59 : dec cX1_init 59 (.sipush 4608) 3 62 := ⟨dX1_init_59, rfl⟩
theorem dX1_init_62 : decode cX1_init 62 = .ok (.newarray .byte, 2) := by decide +kernel
theorem eX1_init_62 : dec cX1_init 62 (.newarray .byte) 2 64 := ⟨dX1_init_62, rfl⟩
theorem dX1_init_64 : decode cX1_init 64 = .ok (.putfield 28, 3) := by decide +kernel
theorem eX1_init_64 : dec cX1_init 64 (.putfield 28) 3 67 := ⟨dX1_init_64, rfl⟩
theorem dX1_init_67 : decode cX1_init 67 = .ok (.aload_n 0, 1) := by decide +kernel
theorem eX1_init_67 : dec cX1_init 67 (.aload_n 0) 1 68 := ⟨dX1_init_67, rfl⟩
theorem dX1_init_68 : decode cX1_init 68 = .ok (.sipush 5000, 3) := by decide +kernel
theorem eX1_init_68 : dec cX1_init 68 (.sipush 5000) 3 71 := ⟨dX1_init_68, rfl⟩
theorem dX1_init_71 : decode cX1_init 71 = .ok (.newarray .byte, 2) := by decide +kernel
theorem eX1_init_71 : dec cX1_init 71 (.newarray .byte) 2 73 := ⟨dX1_init_71, rfl⟩
theorem dX1_init_73 : decode cX1_init 73 = .ok (.putfield 32, 3) := by decide +kernel
theorem eX1_init_73 : dec cX1_init 73 (.putfield 32) 3 76 := ⟨dX1_init_73, rfl⟩
theorem dX1_init_76 : decode cX1_init 76 = .ok (.aload_n 0, 1) := by decide +kernel
theorem eX1_init_76 : dec cX1_init 76 (.aload_n 0) 1 77 := ⟨dX1_init_76, rfl⟩
theorem dX1_init_77 : decode cX1_init 77 = .ok (.iload_n 1, 1) := by decide +kernel
theorem eX1_init_77 : dec cX1_init 77 (.iload_n 1) 1 78 := ⟨dX1_init_77, rfl⟩
theorem dX1_init_78 : decode cX1_init 78 = .ok (.iconst 1, 1) := by decide +kernel
theorem eX1_init_78 : dec cX1_init 78 (.iconst 1) 1 79 := ⟨dX1_init_78, rfl⟩
theorem dX1_init_79 : decode cX1_init 79 = .ok (.if_icmp .ge 7, 3) := by decide +kernel
theorem eX1_init_79 : dec cX1_init 79 (.if_icmp .ge 7) 3 82 := ⟨dX1_init_79, rfl⟩
theorem dX1_init_82 : decode cX1_init 82 = .ok (.iconst 1, 1) := by decide +kernel
theorem eX1_init_82 : dec cX1_init 82 (.iconst 1) 1 83 := ⟨dX1_init_82, rfl⟩
theorem dX1_init_83 : decode cX1_init 83 = .ok (.goto 15, 3) := by decide +kernel
theorem eX1_init_83 : dec cX1_init 83 (.goto 15) 3 86 := ⟨dX1_init_83, rfl⟩
theorem dX1_init_86 : decode cX1_init 86 = .ok (.iload_n 1, 1) := by decide +kernel
theorem eX1_init_86 : dec cX1_init 86 (.iload_n 1) 1 87 := ⟨dX1_init_86, rfl⟩
theorem dX1_init_87 : decode cX1_init 87 = .ok (.bipush 48, 2) := by decide +kernel
theorem eX1_init_87 : dec cX1_init 87 (.bipush 48) 2 89 := ⟨dX1_init_87, rfl⟩
theorem dX1_init_89 : decode cX1_init 89 = .ok (.if_icmp .le 8, 3) := by decide +kernel
theorem eX1_init_89 : dec cX1_init 89 (.if_icmp .le 8) 3 92 := ⟨dX1_init_89, rfl⟩
theorem dX1_init_92 : decode cX1_init 92 = .ok (.bipush 48, 2) := by decide +kernel
theorem eX1_init_92 : dec cX1_init 92 (.bipush 48) 2 94 := ⟨dX1_init_92, rfl⟩
theorem dX1_init_94 : decode cX1_init 94 = .ok (.goto 4, 3) := by decide +kernel
theorem eX1_init_94 : dec cX1_init 94 (.goto 4) 3 97 := ⟨dX1_init_94, rfl⟩
theorem dX1_init_97 : decode cX1_init 97 = .ok (.iload_n 1, 1) := by decide +kernel
theorem eX1_init_97 : dec cX1_init 97 (.iload_n 1) 1 98 := ⟨dX1_init_97, rfl⟩
theorem dX1_init_98 : decode cX1_init 98 = .ok (.putfield 35, 3) := by decide +kernel
theorem eX1_init_98 : dec cX1_init 98 (.putfield 35) 3 101 := ⟨dX1_init_98, rfl⟩
theorem dX1_init_101 : decode cX1_init 101 = .ok (.aload_n 0, 1) := by decide +kernel
theorem eX1_init_101 : dec cX1_init 101 (.aload_n 0) 1 102 := ⟨dX1_init_101, rfl⟩
theorem dX1_init_102 : decode cX1_init 102 = .ok (.iload_n 2, 1) := by decide +kernel
theorem eX1_init_102 : dec cX1_init 102 (.iload_n 2) 1 103 := ⟨dX1_init_102, rfl⟩
theorem dX1_init_103 : decode cX1_init 103 = .ok (.iconst 1, 1) := by decide +kernel
theorem eX1_init_103 : dec cX1_init 103 (.iconst 1) 1 104 := ⟨dX1_init_103, rfl⟩
theorem dX1_init_104 : decode cX1_init 104 = .ok (.if_icmp .ge 7, 3) := by decide +kernel
theorem eX1_init_104 : dec cX1_init 104 (.if_icmp .ge 7) 3 107 := ⟨dX1_init_104, rfl⟩
theorem dX1_init_107 : decode cX1_init 107 = .ok (.iconst 1, 1) := by decide +kernel
theorem eX1_init_107 : dec cX1_init 107 (.iconst 1) 1 108 := ⟨dX1_init_107, rfl⟩
theorem dX1_init_108 : decode cX1_init 108 = .ok (.goto 15, 3) := by decide +kernel
theorem eX1_init_108 : dec cX1_init 108 (.goto 15) 3 111 := ⟨dX1_init_108, rfl⟩
theorem dX1_init_111 : decode cX1_init 111 = .ok (.iload_n 2, 1) := by decide +kernel
theorem eX1_init_111 : dec cX1_init 111 (.iload_n 2) 1 112 := ⟨dX1_init_111, rfl⟩
theorem dX1_init_112 : decode cX1_init 112 = .ok (.bipush 48, 2) := by decide +kernel
theorem eX1_init_112 : dec cX1_init 112 (.bipush 48) 2 114 := ⟨dX1_init_112, rfl⟩
theorem dX1_init_114 : decode cX1_init 114 = .ok (.if_icmp .le 8, 3) := by decide +kernel
theorem eX1_init_114 : dec cX1_init 114 (.if_icmp .le 8) 3 117 := ⟨dX1_init_114, rfl⟩
theorem dX1_init_117 : decode cX1_init 117 = .ok (.bipush 48, 2) := by decide +kernel
theorem eX1_init_117 : dec cX1_init 117 (.bipush 48) 2 119 := ⟨dX1_init_117, rfl⟩
theorem dX1_init_119 : decode cX1_init 119 = .ok (.goto 4, 3) := by decide +kernel
theorem eX1_init_119 : dec cX1_init 119 (.goto 4) 3 122 := ⟨dX1_init_119, rfl⟩
theorem dX1_init_122 : decode cX1_init 122 = .ok (.iload_n 2, 1) := by decide +kernel
theorem eX1_init_122 : dec cX1_init 122 (.iload_n 2) 1 123 := ⟨dX1_init_122, rfl⟩
theorem dX1_init_123 : decode cX1_init 123 = .ok (.putfield 39, 3) := by decide +kernel
theorem eX1_init_123 : dec cX1_init 123 (.putfield 39) 3 126 := ⟨dX1_init_123, rfl⟩
theorem dX1_init_126 : decode cX1_init 126 = .ok (.aload_n 0, 1) := by decide +kernel
theorem eX1_init_126 : dec cX1_init 126 (.aload_n 0) 1 127 := ⟨dX1_init_126, rfl⟩
theorem dX1_init_127 : decode cX1_init 127 = .ok (.aload_n 0, 1) := by decide +kernel
theorem eX1_init_127 : dec cX1_init 127 (.aload_n 0) 1 128 := ⟨dX1_init_127, rfl⟩
theorem dX1_init_128 : decode cX1_init 128 = .ok (.getfield 35, 3) := by decide +kernel
theorem eX1_init_128 : dec cX1_init 128 (.getfield 35) 3 131 := ⟨dX1_init_128, rfl⟩
theorem dX1_init_131 : decode cX1_init 131 = .ok (.aload_n 0, 1) := by decide +kernel
theorem eX1_init_131 : dec cX1_init 131 (.aload_n 0) 1 132 := ⟨dX1_init_131, rfl⟩
theorem dX1_init_132 : decode cX1_init 132 = .ok (.getfield 39, 3) := by decide +kernel
theorem eX1_init_132 : dec cX1_init 132 (.getfield 39) 3 135 := ⟨dX1_init_132, rfl⟩
theorem dX1_init_135 : decode cX1_init 135 = .ok (.imul, 1) := by decide +kernel
theorem eX1_init_135 : dec cX1_init 135 .imul 1 136 := ⟨dX1_init_135, rfl⟩
theorem dX1_init_136 : decode cX1_init 136 = .ok (.putfield 42, 3) := by decide +kernel
theorem eX1_init_136 : dec cX1_init 136 (.putfield 42) 3 139 := ⟨dX1_init_136, rfl⟩
theorem dX1_init_139 : decode cX1_init 139 = .ok (.iconst 0, 1) := by decide +kernel
theorem eX1_init_139 : dec cX1_init 139 (.iconst 0) 1 140 := ⟨dX1_init_139, rfl⟩
theorem dX1_init_140 : decode cX1_init 140 = .ok (.istore_n 3, 1) := by decide +kernel
theorem eX1_init_140 : dec cX1_init 140 (.istore_n 3) 1 141 := ⟨dX1_init_140, rfl⟩
theorem dX1_init_141 : decode cX1_init 141 = .ok (.iload_n 3, 1) := by decide +kernel
theorem eX1_init_141 : dec cX1_init 141 (.iload_n 3) 1 142 := ⟨dX1_init_141, rfl⟩
theorem dX1_init_142 : decode cX1_init 142 = .ok (.aload_n 0, 1) := by decide +kernel
theorem eX1_init_142 : dec cX1_init 142 (.aload_n 0) 1 143 := ⟨dX1_init_142, rfl⟩
theorem dX1_init_143 : decode cX1_init 143 = .ok (.getfield 42, 3) := by decide +kernel
theorem eX1_init_143 : dec cX1_init 143 (.getfield 42) 3 146 := ⟨dX1_init_143, rfl⟩
theorem dX1_init_146 : decode cX1_init 146 = .ok (.if_icmp .ge 18, 3) := by decide +kernel
theorem eX1_init_146 : dec cX1_init 146 (.if_icmp .ge 18) 3 149 := ⟨dX1_init_146, rfl⟩
theorem dX1_init_149 : decode cX1_init 149 = .ok (.aload_n 0, 1) := by decide +kernel
theorem eX1_init_149 : dec cX1_init 149 (.aload_n 0) 1 150 := ⟨dX1_init_149, rfl⟩
theorem dX1_init_150 : decode cX1_init 150 = .ok (.getfield 7, 3) := by decide +kernel
theorem eX1_init_150 : dec cX1_init 150 (.getfield 7) 3 153 := ⟨dX1_init_150, rfl⟩
theorem dX1_init_153 : decode cX1_init 153 = .ok (.iload_n 3, 1) := by decide +kernel
theorem eX1_init_153 : dec cX1_init 153 (.iload_n 3) 1 154 := ⟨dX1_init_153, rfl⟩
theorem dX1_init_154 : decode cX1_init 154 = .ok (.sipush 255, 3) := by decide +kernel
theorem eX1_init_154 : dec cX1_init 154 (.sipush 255) 3 157 := ⟨dX1_init_154, rfl⟩
theorem dX1_init_157 : decode cX1_init 157 = .ok (.iastore, 1) := by decide +kernel
theorem eX1_init_157 : dec cX1_init 157 .iastore 1 158 := ⟨dX1_init_157, rfl⟩
theorem dX1_init_158 : decode cX1_init 158 = .ok (.iinc 3 1, 3) := by decide +kernel
theorem eX1_init_158 : dec cX1_init 158 (.iinc 3 1) 3 161 := ⟨dX1_init_158, rfl⟩
theorem dX1_init_161 : decode cX1_init 161 = .ok (.goto (-20), 3) := by decide +kernel
theorem eX1_init_161 : dec cX1_init 161 (.goto (-20)) 3 164 := ⟨dX1_init_161, rfl⟩
theorem dX1_init_164 : decode cX1_init 164 = .ok (.return_, 1) := by decide +kernel
theorem eX1_init_164 : dec cX1_init 164 .return_ 1 165 := ⟨dX1_init_164, rfl⟩
theorem dX1_thrown_0 : decode cX1_thrown 0 = .ok (.aload_n 0, 1) := by decide +kernel
theorem eX1_thrown_0 : dec cX1_thrown 0 (.aload_n 0) 1 1 := ⟨dX1_thrown_0, rfl⟩
theorem dX1_thrown_1 : decode cX1_thrown 1 = .ok (.getfield 45, 3) := by decide +kernel
theorem eX1_thrown_1 : dec cX1_thrown 1 (.getfield 45) 3 4 := ⟨dX1_thrown_1, rfl⟩
theorem dX1_thrown_4 : decode cX1_thrown 4 = .ok (.ireturn, 1) := by decide +kernel
theorem eX1_thrown_4 : dec cX1_thrown 4 .ireturn 1 5 := ⟨dX1_thrown_4, rfl⟩
theorem dX1_refused_0 : decode cX1_refused 0 = .ok (.aload_n 0, 1) := by decide +kernel
theorem eX1_refused_0 : dec cX1_refused 0 (.aload_n 0) 1 1 := ⟨dX1_refused_0, rfl⟩
theorem dX1_refused_1 : decode cX1_refused 1 = .ok (.iload_n 1, 1) := by decide +kernel
theorem eX1_refused_1 : dec cX1_refused 1 (.iload_n 1) 1 2 := ⟨dX1_refused_1, rfl⟩
theorem dX1_refused_2 : decode cX1_refused 2 = .ok (.ifCond .eq 7, 3) := by decide +kernel
theorem eX1_refused_2 : dec cX1_refused 2 (.ifCond .eq 7) 3 5 := ⟨dX1_refused_2, rfl⟩
theorem dX1_refused_5 : decode cX1_refused 5 = .ok (.iconst 1, 1) := by decide +kernel
theorem eX1_refused_5 : dec cX1_refused 5 (.iconst 1) 1 6 := ⟨dX1_refused_5, rfl⟩
theorem dX1_refused_6 : decode cX1_refused 6 = .ok (.goto 4, 3) := by decide +kernel
theorem eX1_refused_6 : dec cX1_refused 6 (.goto 4) 3 9 := ⟨dX1_refused_6, rfl⟩
theorem dX1_refused_9 : decode cX1_refused 9 = .ok (.iconst 0, 1) := by decide +kernel
theorem eX1_refused_9 : dec cX1_refused 9 (.iconst 0) 1 10 := ⟨dX1_refused_9, rfl⟩
theorem dX1_refused_10 : decode cX1_refused 10 = .ok (.putfield 45, 3) := by decide +kernel
theorem eX1_refused_10 : dec cX1_refused 10 (.putfield 45) 3 13 := ⟨dX1_refused_10, rfl⟩
theorem dX1_refused_13 : decode cX1_refused 13 = .ok (.iload_n 1, 1) := by decide +kernel
theorem eX1_refused_13 : dec cX1_refused 13 (.iload_n 1) 1 14 := ⟨dX1_refused_13, rfl⟩
theorem dX1_refused_14 : decode cX1_refused 14 = .ok (.ireturn, 1) := by decide +kernel
theorem eX1_refused_14 : dec cX1_refused 14 .ireturn 1 15 := ⟨dX1_refused_14, rfl⟩
theorem dX1_isOn_0 : decode cX1_isOn 0 = .ok (.iload_n 1, 1) := by decide +kernel
theorem eX1_isOn_0 : dec cX1_isOn 0 (.iload_n 1) 1 1 := ⟨dX1_isOn_0, rfl⟩
theorem dX1_isOn_1 : decode cX1_isOn 1 = .ok (.ifCond .lt 27, 3) := by decide +kernel
theorem eX1_isOn_1 : dec cX1_isOn 1 (.ifCond .lt 27) 3 4 := ⟨dX1_isOn_1, rfl⟩
theorem dX1_isOn_4 : decode cX1_isOn 4 = .ok (.iload_n 1, 1) := by decide +kernel
theorem eX1_isOn_4 : dec cX1_isOn 4 (.iload_n 1) 1 5 := ⟨dX1_isOn_4, rfl⟩
theorem dX1_isOn_5 : decode cX1_isOn 5 = .ok (.aload_n 0, 1) := by decide +kernel
theorem eX1_isOn_5 : dec cX1_isOn 5 (.aload_n 0) 1 6 := ⟨dX1_isOn_5, rfl⟩
theorem dX1_isOn_6 : decode cX1_isOn 6 = .ok (.getfield 35, 3) := by decide +kernel
theorem eX1_isOn_6 : dec cX1_isOn 6 (.getfield 35) 3 9 := ⟨dX1_isOn_6, rfl⟩
theorem dX1_isOn_9 : decode cX1_isOn 9 = .ok (.if_icmp .ge 19, 3) := by decide +kernel
theorem eX1_isOn_9 : dec cX1_isOn 9 (.if_icmp .ge 19) 3 12 := ⟨dX1_isOn_9, rfl⟩
theorem dX1_isOn_12 : decode cX1_isOn 12 = .ok (.iload_n 2, 1) := by decide +kernel
theorem eX1_isOn_12 : dec cX1_isOn 12 (.iload_n 2) 1 13 := ⟨dX1_isOn_12, rfl⟩
theorem dX1_isOn_13 : decode cX1_isOn 13 = .ok (.ifCond .lt 15, 3) := by decide +kernel
theorem eX1_isOn_13 : dec cX1_isOn 13 (.ifCond .lt 15) 3 16 := ⟨dX1_isOn_13, rfl⟩
theorem dX1_isOn_16 : decode cX1_isOn 16 = .ok (.iload_n 2, 1) := by decide +kernel
theorem eX1_isOn_16 : dec cX1_isOn 16 (.iload_n 2) 1 17 := ⟨dX1_isOn_16, rfl⟩
theorem dX1_isOn_17 : decode cX1_isOn 17 = .ok (.aload_n 0, 1) := by decide +kernel
theorem eX1_isOn_17 : dec cX1_isOn 17 (.aload_n 0) 1 18 := ⟨dX1_isOn_17, rfl⟩
theorem dX1_isOn_18 : decode cX1_isOn 18 = .ok (.getfield 39, 3) := by decide +kernel
theorem eX1_isOn_18 : dec cX1_isOn 18 (.getfield 39) 3 21 := ⟨dX1_isOn_18, rfl⟩
theorem dX1_isOn_21 : decode cX1_isOn 21 = .ok (.if_icmp .ge 7, 3) := by decide +kernel
theorem eX1_isOn_21 : dec cX1_isOn 21 (.if_icmp .ge 7) 3 24 := ⟨dX1_isOn_21, rfl⟩
theorem dX1_isOn_24 : decode cX1_isOn 24 = .ok (.iconst 1, 1) := by decide +kernel
theorem eX1_isOn_24 : dec cX1_isOn 24 (.iconst 1) 1 25 := ⟨dX1_isOn_24, rfl⟩
theorem dX1_isOn_25 : decode cX1_isOn 25 = .ok (.goto 4, 3) := by decide +kernel
theorem eX1_isOn_25 : dec cX1_isOn 25 (.goto 4) 3 28 := ⟨dX1_isOn_25, rfl⟩
theorem dX1_isOn_28 : decode cX1_isOn 28 = .ok (.iconst 0, 1) := by decide +kernel
theorem eX1_isOn_28 : dec cX1_isOn 28 (.iconst 0) 1 29 := ⟨dX1_isOn_28, rfl⟩
theorem dX1_isOn_29 : decode cX1_isOn 29 = .ok (.ireturn, 1) := by decide +kernel
theorem eX1_isOn_29 : dec cX1_isOn 29 .ireturn 1 30 := ⟨dX1_isOn_29, rfl⟩
set_option maxRecDepth 20000 in
theorem ggX1_put_X1_isOn : GoodIn wsX1_put wsX1_isOn := goodIn_r _ [7, 2, 8, 14, 15, 16, 17, 18, 19, 20, 21, 22, 23, 24, 25, 26, 27, 28] (by decide +kernel) (by decide +kernel)
set_option maxRecDepth 20000 in
theorem gX1_put_X1_isOn : GoodIn wsX1_put (wsV RX1 48 RX1 yX1_isOn wsX1_isOn) := goodIn_app (goodIn_of _ (by decide +kernel)) ggX1_put_X1_isOn
set_option maxRecDepth 20000 in
theorem ggX1_put_X1_refused : GoodIn wsX1_put wsX1_refused := goodIn_r _ [12, 13, 14, 15, 16, 17, 18, 19, 20, 21, 22, 23, 24, 25, 26, 27, 28] (by decide +kernel) (by decide +kernel)
set_option maxRecDepth 20000 in
theorem gX1_put_X1_refused : GoodIn wsX1_put (wsV RX1 52 RX1 yX1_refused wsX1_refused) := goodIn_app (goodIn_of _ (by decide +kernel)) ggX1_put_X1_refused
theorem dX1_put_0 : decode cX1_put 0 = .ok (.aload_n 0, 1) := by decide +kernel
theorem eX1_put_0 : dec cX1_put 0 (.aload_n 0) 1 1 := ⟨dX1_put_0, rfl⟩
theorem dX1_put_1 : decode cX1_put 1 = .ok (.aload_n 0, 1) := by decide +kernel
theorem eX1_put_1 : dec cX1_put 1 (.aload_n 0) 1 2 := ⟨dX1_put_1, rfl⟩
theorem dX1_put_2 : decode cX1_put 2 = .ok (.iload_n 1, 1) := by decide +kernel
theorem eX1_put_2 : dec cX1_put 2 (.iload_n 1) 1 3 := ⟨dX1_put_2, rfl⟩
theorem dX1_put_3 : decode cX1_put 3 = .ok (.iload_n 2, 1) := by decide +kernel
theorem eX1_put_3 : dec cX1_put 3 (.iload_n 2) 1 4 := ⟨dX1_put_3, rfl⟩
theorem dX1_put_4 : decode cX1_put 4 = .ok (.invokevirtual 48, 3) := by decide +kernel
theorem eX1_put_4 : dec cX1_put 4 (.invokevirtual 48) 3 7 := ⟨dX1_put_4, rfl⟩
theorem dX1_put_7 : decode cX1_put 7 = .ok (.ifCond .ne 7, 3) := by decide +kernel
theorem eX1_put_7 : dec cX1_put 7 (.ifCond .ne 7) 3 10 := ⟨dX1_put_7, rfl⟩
theorem dX1_put_10 : decode cX1_put 10 = .ok (.iconst 1, 1) := by decide +kernel
theorem eX1_put_10 : dec cX1_put 10 (.iconst 1) 1 11 := ⟨dX1_put_10, rfl⟩
theorem dX1_put_11 : decode cX1_put 11 = .ok (.goto 4, 3) := by decide +kernel
theorem eX1_put_11 : dec cX1_put 11 (.goto 4) 3 14 := ⟨dX1_put_11, rfl⟩
theorem dX1_put_14 : decode cX1_put 14 = .ok (.iconst 0, 1) := by decide +kernel
theorem eX1_put_14 : dec cX1_put 14 (.iconst 0) 1 15 := ⟨dX1_put_14, rfl⟩
theorem dX1_put_15 : decode cX1_put 15 = .ok (.invokevirtual 52, 3) := by decide +kernel
theorem eX1_put_15 : dec cX1_put 15 (.invokevirtual 52) 3 18 := ⟨dX1_put_15, rfl⟩
theorem dX1_put_18 : decode cX1_put 18 = .ok (.ifCond .ne 21, 3) := by decide +kernel
theorem eX1_put_18 : dec cX1_put 18 (.ifCond .ne 21) 3 21 := ⟨dX1_put_18, rfl⟩
theorem dX1_put_21 : decode cX1_put 21 = .ok (.aload_n 0, 1) := by decide +kernel
theorem eX1_put_21 : dec cX1_put 21 (.aload_n 0) 1 22 := ⟨dX1_put_21, rfl⟩
theorem dX1_put_22 : decode cX1_put 22 = .ok (.getfield 7, 3) := by decide +kernel
theorem eX1_put_22 : dec cX1_put 22 (.getfield 7) 3 25 := ⟨dX1_put_22, rfl⟩
theorem dX1_put_25 : decode cX1_put 25 = .ok (.aload_n 0, 1) := by decide +kernel
theorem eX1_put_25 : dec cX1_put 25 (.aload_n 0) 1 26 := ⟨dX1_put_25, rfl⟩
theorem dX1_put_26 : decode cX1_put 26 = .ok (.getfield 35, 3) := by decide +kernel
theorem eX1_put_26 : dec cX1_put 26 (.getfield 35) 3 29 := ⟨dX1_put_26, rfl⟩
theorem dX1_put_29 : decode cX1_put 29 = .ok (.iload_n 2, 1) := by decide +kernel
theorem eX1_put_29 : dec cX1_put 29 (.iload_n 2) 1 30 := ⟨dX1_put_29, rfl⟩
theorem dX1_put_30 : decode cX1_put 30 = .ok (.imul, 1) := by decide +kernel
theorem eX1_put_30 : dec cX1_put 30 .imul 1 31 := ⟨dX1_put_30, rfl⟩
theorem dX1_put_31 : decode cX1_put 31 = .ok (.iload_n 1, 1) := by decide +kernel
theorem eX1_put_31 : dec cX1_put 31 (.iload_n 1) 1 32 := ⟨dX1_put_31, rfl⟩
theorem dX1_put_32 : decode cX1_put 32 = .ok (.iadd, 1) := by decide +kernel
theorem eX1_put_32 : dec cX1_put 32 .iadd 1 33 := ⟨dX1_put_32, rfl⟩
theorem dX1_put_33 : decode cX1_put 33 = .ok (.iload_n 3, 1) := by decide +kernel
theorem eX1_put_33 : dec cX1_put 33 (.iload_n 3) 1 34 := ⟨dX1_put_33, rfl⟩
theorem dX1_put_34 : decode cX1_put 34 = .ok (.sipush 255, 3) := by decide +kernel
theorem eX1_put_34 : dec cX1_put 34 (.sipush 255) 3 37 := ⟨dX1_put_34, rfl⟩
theorem dX1_put_37 : decode cX1_put 37 = .ok (.iand, 1) := by decide +kernel
theorem eX1_put_37 : dec cX1_put 37 .iand 1 38 := ⟨dX1_put_37, rfl⟩
theorem dX1_put_38 : decode cX1_put 38 = .ok (.iastore, 1) := by decide +kernel
theorem eX1_put_38 : dec cX1_put 38 .iastore 1 39 := ⟨dX1_put_38, rfl⟩
theorem dX1_put_39 : decode cX1_put 39 = .ok (.return_, 1) := by decide +kernel
theorem eX1_put_39 : dec cX1_put 39 .return_ 1 40 := ⟨dX1_put_39, rfl⟩
set_option maxRecDepth 20000 in
theorem ggX1_grey_X1_isOn : GoodIn wsX1_grey wsX1_isOn := goodIn_r _ [7, 2, 8, 14, 15, 16, 17, 18, 19, 20, 21, 22, 23, 24, 25, 26, 27, 28] (by decide +kernel) (by decide +kernel)
set_option maxRecDepth 20000 in
theorem gX1_grey_X1_isOn : GoodIn wsX1_grey (wsV RX1 48 RX1 yX1_isOn wsX1_isOn) := goodIn_app (goodIn_of _ (by decide +kernel)) ggX1_grey_X1_isOn
set_option maxRecDepth 20000 in
theorem ggX1_grey_X1_refused : GoodIn wsX1_grey wsX1_refused := goodIn_r _ [12, 13, 14, 15, 16, 17, 18, 19, 20, 21, 22, 23, 24, 25, 26, 27, 28] (by decide +kernel) (by decide +kernel)
set_option maxRecDepth 20000 in
theorem gX1_grey_X1_refused : GoodIn wsX1_grey (wsV RX1 52 RX1 yX1_refused wsX1_refused) := goodIn_app (goodIn_of _ (by decide +kernel)) ggX1_grey_X1_refused
theorem dX1_grey_0 : decode cX1_grey 0 = .ok (.aload_n 0, 1) := by decide +kernel
theorem eX1_grey_0 : dec cX1_grey 0 (.aload_n 0) 1 1 := ⟨dX1_grey_0, rfl⟩
theorem dX1_grey_1 : decode cX1_grey 1 = .ok (.aload_n 0, 1) := by decide +kernel
theorem eX1_grey_1 : dec cX1_grey 1 (.aload_n 0) 1 2 := ⟨dX1_grey_1, rfl⟩
theorem dX1_grey_2 : decode cX1_grey 2 = .ok (.iload_n 1, 1) := by decide +kernel
theorem eX1_grey_2 : dec cX1_grey 2 (.iload_n 1) 1 3 := ⟨dX1_grey_2, rfl⟩
theorem dX1_grey_3 : decode cX1_grey 3 = .ok (.iload_n 2, 1) := by decide +kernel
theorem eX1_grey_3 : dec cX1_grey 3 (.iload_n 2) 1 4 := ⟨dX1_grey_3, rfl⟩
theorem dX1_grey_4 : decode cX1_grey 4 = .ok (.invokevirtual 48, 3) := by decide +kernel
theorem eX1_grey_4 : dec cX1_grey 4 (.invokevirtual 48) 3 7 := ⟨dX1_grey_4, rfl⟩
theorem dX1_grey_7 : decode cX1_grey 7 = .ok (.ifCond .ne 7, 3) := by decide +kernel
theorem eX1_grey_7 : dec cX1_grey 7 (.ifCond .ne 7) 3 10 := ⟨dX1_grey_7, rfl⟩
theorem dX1_grey_10 : decode cX1_grey 10 = .ok (.iconst 1, 1) := by decide +kernel
theorem eX1_grey_10 : dec cX1_grey 10 (.iconst 1) 1 11 := ⟨dX1_grey_10, rfl⟩
theorem dX1_grey_11 : decode cX1_grey 11 = .ok (.goto 4, 3) := by decide +kernel
theorem eX1_grey_11 : dec cX1_grey 11 (.goto 4) 3 14 := ⟨dX1_grey_11, rfl⟩
theorem dX1_grey_14 : decode cX1_grey 14 = .ok (.iconst 0, 1) := by decide +kernel
theorem eX1_grey_14 : dec cX1_grey 14 (.iconst 0) 1 15 := ⟨dX1_grey_14, rfl⟩
theorem dX1_grey_15 : decode cX1_grey 15 = .ok (.invokevirtual 52, 3) := by decide +kernel
theorem eX1_grey_15 : dec cX1_grey 15 (.invokevirtual 52) 3 18 := ⟨dX1_grey_15, rfl⟩
theorem dX1_grey_18 : decode cX1_grey 18 = .ok (.ifCond .eq 7, 3) := by decide +kernel
theorem eX1_grey_18 : dec cX1_grey 18 (.ifCond .eq 7) 3 21 := ⟨dX1_grey_18, rfl⟩
theorem dX1_grey_21 : decode cX1_grey 21 = .ok (.iconst 0, 1) := by decide +kernel
theorem eX1_grey_21 : dec cX1_grey 21 (.iconst 0) 1 22 := ⟨dX1_grey_21, rfl⟩
theorem dX1_grey_22 : decode cX1_grey 22 = .ok (.goto 16, 3) := by decide +kernel
theorem eX1_grey_22 : dec cX1_grey 22 (.goto 16) 3 25 := ⟨dX1_grey_22, rfl⟩
theorem dX1_grey_25 : decode cX1_grey 25 = .ok (.aload_n 0, 1) := by decide +kernel
theorem eX1_grey_25 : dec cX1_grey 25 (.aload_n 0) 1 26 := ⟨dX1_grey_25, rfl⟩
theorem dX1_grey_26 : decode cX1_grey 26 = .ok (.getfield 7, 3) := by decide +kernel
theorem eX1_grey_26 : dec cX1_grey 26 (.getfield 7) 3 29 := ⟨dX1_grey_26, rfl⟩
theorem dX1_grey_29 : decode cX1_grey 29 = .ok (.aload_n 0, 1) := by decide +kernel
theorem eX1_grey_29 : dec cX1_grey 29 (.aload_n 0) 1 30 := ⟨dX1_grey_29, rfl⟩
theorem dX1_grey_30 : decode cX1_grey 30 = .ok (.getfield 35, 3) := by decide +kernel
theorem eX1_grey_30 : dec cX1_grey 30 (.getfield 35) 3 33 := ⟨dX1_grey_30, rfl⟩
theorem dX1_grey_33 : decode cX1_grey 33 = .ok (.iload_n 2, 1) := by decide +kernel
theorem eX1_grey_33 : dec cX1_grey 33 (.iload_n 2) 1 34 := ⟨dX1_grey_33, rfl⟩
theorem dX1_grey_34 : decode cX1_grey 34 = .ok (.imul, 1) := by decide +kernel
theorem eX1_grey_34 : dec cX1_grey 34 .imul 1 35 := ⟨dX1_grey_34, rfl⟩
theorem dX1_grey_35 : decode cX1_grey 35 = .ok (.iload_n 1, 1) := by decide +kernel
theorem eX1_grey_35 : dec cX1_grey 35 (.iload_n 1) 1 36 := ⟨dX1_grey_35, rfl⟩
theorem dX1_grey_36 : decode cX1_grey 36 = .ok (.iadd, 1) := by decide +kernel
theorem eX1_grey_36 : dec cX1_grey 36 .iadd 1 37 := ⟨dX1_grey_36, rfl⟩
theorem dX1_grey_37 : decode cX1_grey 37 = .ok (.iaload, 1) := by decide +kernel
theorem eX1_grey_37 : dec cX1_grey 37 .iaload 1 38 := ⟨dX1_grey_37, rfl⟩
theorem dX1_grey_38 : decode cX1_grey 38 = .ok (.ireturn, 1) := by decide +kernel
theorem eX1_grey_38 : dec cX1_grey 38 .ireturn 1 39 := ⟨dX1_grey_38, rfl⟩
theorem dX1_spread_0 : decode cX1_spread 0 = .ok (.iconst 0, 1) := by decide +kernel
theorem eX1_spread_0 : dec cX1_spread 0 (.iconst 0) 1 1 := ⟨dX1_spread_0, rfl⟩
theorem dX1_spread_1 : decode cX1_spread 1 = .ok (.istore_n 3, 1) := by decide +kernel
theorem eX1_spread_1 : dec cX1_spread 1 (.istore_n 3) 1 2 := ⟨dX1_spread_1, rfl⟩
theorem dX1_spread_2 : decode cX1_spread 2 = .ok (.iconst 0, 1) := by decide +kernel
theorem eX1_spread_2 : dec cX1_spread 2 (.iconst 0) 1 3 := ⟨dX1_spread_2, rfl⟩
theorem dX1_spread_3 : decode cX1_spread 3 = .ok (.istore 4, 2) := by decide +kernel
theorem eX1_spread_3 : dec cX1_spread 3 (.istore 4) 2 5 := ⟨dX1_spread_3, rfl⟩
theorem dX1_spread_5 : decode cX1_spread 5 = .ok (.iload_n 1, 1) := by decide +kernel
theorem eX1_spread_5 : dec cX1_spread 5 (.iload_n 1) 1 6 := ⟨dX1_spread_5, rfl⟩
theorem dX1_spread_6 : decode cX1_spread 6 = .ok (.istore 5, 2) := by decide +kernel
theorem eX1_spread_6 : dec cX1_spread 6 (.istore 5) 2 8 := ⟨dX1_spread_6, rfl⟩
theorem dX1_spread_8 : decode cX1_spread 8 = .ok (.iload 5, 2) := by decide +kernel
theorem eX1_spread_8 : dec cX1_spread 8 (.iload 5) 2 10 := ⟨dX1_spread_8, rfl⟩
theorem dX1_spread_10 : decode cX1_spread 10 = .ok (.iload_n 2, 1) := by decide +kernel
theorem eX1_spread_10 : dec cX1_spread 10 (.iload_n 2) 1 11 := ⟨dX1_spread_10, rfl⟩
theorem dX1_spread_11 : decode cX1_spread 11 = .ok (.if_icmp .gt 34, 3) := by decide +kernel
theorem eX1_spread_11 : dec cX1_spread 11 (.if_icmp .gt 34) 3 14 := ⟨dX1_spread_11, rfl⟩
theorem dX1_spread_14 : decode cX1_spread 14 = .ok (.iload_n 3, 1) := by decide +kernel
theorem eX1_spread_14 : dec cX1_spread 14 (.iload_n 3) 1 15 := ⟨dX1_spread_14, rfl⟩
theorem dX1_spread_15 : decode cX1_spread 15 = .ok (.aload_n 0, 1) := by decide +kernel
theorem eX1_spread_15 : dec cX1_spread 15 (.aload_n 0) 1 16 := ⟨dX1_spread_15, rfl⟩
theorem dX1_spread_16 : decode cX1_spread 16 = .ok (.getfield 16, 3) := by decide +kernel
theorem eX1_spread_16 : dec cX1_spread 16 (.getfield 16) 3 19 := ⟨dX1_spread_16, rfl⟩
theorem dX1_spread_19 : decode cX1_spread 19 = .ok (.iload 5, 2) := by decide +kernel
theorem eX1_spread_19 : dec cX1_spread 19 (.iload 5) 2 21 := ⟨dX1_spread_19, rfl⟩
theorem dX1_spread_21 : decode cX1_spread 21 = .ok (.iaload, 1) := by decide +kernel
theorem eX1_spread_21 : dec cX1_spread 21 .iaload 1 22 := ⟨dX1_spread_21, rfl⟩
theorem dX1_spread_22 : decode cX1_spread 22 = .ok (.iadd, 1) := by decide +kernel
theorem eX1_spread_22 : dec cX1_spread 22 .iadd 1 23 := ⟨dX1_spread_22, rfl⟩
theorem dX1_spread_23 : decode cX1_spread 23 = .ok (.istore_n 3, 1) := by decide +kernel
theorem eX1_spread_23 : dec cX1_spread 23 (.istore_n 3) 1 24 := ⟨dX1_spread_23, rfl⟩
theorem dX1_spread_24 : decode cX1_spread 24 = .ok (.iload 4, 2) := by decide +kernel
theorem eX1_spread_24 : dec cX1_spread 24 (.iload 4) 2 26 := ⟨dX1_spread_24, rfl⟩
theorem dX1_spread_26 : decode cX1_spread 26 = .ok (.iload 5, 2) := by decide +kernel
theorem eX1_spread_26 : dec cX1_spread 26 (.iload 5) 2 28 := ⟨dX1_spread_26, rfl⟩
theorem dX1_spread_28 : decode cX1_spread 28 = .ok (.aload_n 0, 1) := by decide +kernel
theorem eX1_spread_28 : dec cX1_spread 28 (.aload_n 0) 1 29 := ⟨dX1_spread_28, rfl⟩
theorem dX1_spread_29 : decode cX1_spread 29 = .ok (.getfield 16, 3) := by decide +kernel
theorem eX1_spread_29 : dec cX1_spread 29 (.getfield 16) 3 32 := ⟨dX1_spread_29, rfl⟩
theorem dX1_spread_32 : decode cX1_spread 32 = .ok (.iload 5, 2) := by decide +kernel
theorem eX1_spread_32 : dec cX1_spread 32 (.iload 5) 2 34 := ⟨dX1_spread_32, rfl⟩
theorem dX1_spread_34 : decode cX1_spread 34 = .ok (.iaload, 1) := by decide +kernel
theorem eX1_spread_34 : dec cX1_spread 34 .iaload 1 35 := ⟨dX1_spread_34, rfl⟩
theorem dX1_spread_35 : decode cX1_spread 35 = .ok (.imul, 1) := by decide +kernel
theorem eX1_spread_35 : dec cX1_spread 35 .imul 1 36 := ⟨dX1_spread_35, rfl⟩
theorem dX1_spread_36 : decode cX1_spread 36 = .ok (.iadd, 1) := by decide +kernel
theorem eX1_spread_36 : dec cX1_spread 36 .iadd 1 37 := ⟨dX1_spread_36, rfl⟩
theorem dX1_spread_37 : decode cX1_spread 37 = .ok (.istore 4, 2) := by decide +kernel
theorem eX1_spread_37 : dec cX1_spread 37 (.istore 4) 2 39 := ⟨dX1_spread_37, rfl⟩
theorem dX1_spread_39 : decode cX1_spread 39 = .ok (.iinc 5 1, 3) := by decide +kernel
theorem eX1_spread_39 : dec cX1_spread 39 (.iinc 5 1) 3 42 := ⟨dX1_spread_39, rfl⟩
theorem dX1_spread_42 : decode cX1_spread 42 = .ok (.goto (-34), 3) := by decide +kernel
theorem eX1_spread_42 : dec cX1_spread 42 (.goto (-34)) 3 45 := ⟨dX1_spread_42, rfl⟩
theorem dX1_spread_45 : decode cX1_spread 45 = .ok (.iload_n 3, 1) := by decide +kernel
theorem eX1_spread_45 : dec cX1_spread 45 (.iload_n 3) 1 46 := ⟨dX1_spread_45, rfl⟩
theorem dX1_spread_46 : decode cX1_spread 46 = .ok (.ifCond .ne 7, 3) := by decide +kernel
theorem eX1_spread_46 : dec cX1_spread 46 (.ifCond .ne 7) 3 49 := ⟨dX1_spread_46, rfl⟩
theorem dX1_spread_49 : decode cX1_spread 49 = .ok (.iconst 0, 1) := by decide +kernel
theorem eX1_spread_49 : dec cX1_spread 49 (.iconst 0) 1 50 := ⟨dX1_spread_49, rfl⟩
theorem dX1_spread_50 : decode cX1_spread 50 = .ok (.goto 7, 3) := by decide +kernel
theorem eX1_spread_50 : dec cX1_spread 50 (.goto 7) 3 53 := ⟨dX1_spread_50, rfl⟩
theorem dX1_spread_53 : decode cX1_spread 53 = .ok (.iload 4, 2) := by decide +kernel
theorem eX1_spread_53 : dec cX1_spread 53 (.iload 4) 2 55 := ⟨dX1_spread_53, rfl⟩
theorem dX1_spread_55 : decode cX1_spread 55 = .ok (.iload_n 3, 1) := by decide +kernel
theorem eX1_spread_55 : dec cX1_spread 55 (.iload_n 3) 1 56 := ⟨dX1_spread_55, rfl⟩
theorem dX1_spread_56 : decode cX1_spread 56 = .ok (.idiv, 1) := by decide +kernel
theorem eX1_spread_56 : dec cX1_spread 56 .idiv 1 57 := ⟨dX1_spread_56, rfl⟩
theorem dX1_spread_57 : decode cX1_spread 57 = .ok (.istore 5, 2) := by decide +kernel
theorem eX1_spread_57 : dec cX1_spread 57 (.istore 5) 2 59 := ⟨dX1_spread_57, rfl⟩
theorem dX1_spread_59 : decode cX1_spread 59 = .ok (.iconst 0, 1) := by decide +kernel
theorem eX1_spread_59 : dec cX1_spread 59 (.iconst 0) 1 60 := ⟨dX1_spread_59, rfl⟩
theorem dX1_spread_60 : decode cX1_spread 60 = .ok (.istore 6, 2) := by decide +kernel
theorem eX1_spread_60 : dec cX1_spread 60 (.istore 6) 2 62 := ⟨dX1_spread_60, rfl⟩
theorem dX1_spread_62 : decode cX1_spread 62 = .ok (.iload_n 1, 1) := by decide +kernel
theorem eX1_spread_62 : dec cX1_spread 62 (.iload_n 1) 1 63 := ⟨dX1_spread_62, rfl⟩
theorem dX1_spread_63 : decode cX1_spread 63 = .ok (.istore 7, 2) := by decide +kernel
theorem eX1_spread_63 : dec cX1_spread 63 (.istore 7) 2 65 := ⟨dX1_spread_63, rfl⟩
theorem dX1_spread_65 : decode cX1_spread 65 = .ok (.iload 7, 2) := by decide +kernel
theorem eX1_spread_65 : dec cX1_spread 65 (.iload 7) 2 67 := ⟨dX1_spread_65, rfl⟩
theorem dX1_spread_67 : decode cX1_spread 67 = .ok (.iload_n 2, 1) := by decide +kernel
theorem eX1_spread_67 : dec cX1_spread 67 (.iload_n 2) 1 68 := ⟨dX1_spread_67, rfl⟩
theorem dX1_spread_68 : decode cX1_spread 68 = .ok (.if_icmp .gt 42, 3) := by decide +kernel
theorem eX1_spread_68 : dec cX1_spread 68 (.if_icmp .gt 42) 3 71 := ⟨dX1_spread_68, rfl⟩
theorem dX1_spread_71 : decode cX1_spread 71 = .ok (.iload 6, 2) := by decide +kernel
theorem eX1_spread_71 : dec cX1_spread 71 (.iload 6) 2 73 := ⟨dX1_spread_71, rfl⟩
theorem dX1_spread_73 : decode cX1_spread 73 = .ok (.aload_n 0, 1) := by decide +kernel
theorem eX1_spread_73 : dec cX1_spread 73 (.aload_n 0) 1 74 := ⟨dX1_spread_73, rfl⟩
theorem dX1_spread_74 : decode cX1_spread 74 = .ok (.getfield 16, 3) := by decide +kernel
theorem eX1_spread_74 : dec cX1_spread 74 (.getfield 16) 3 77 := ⟨dX1_spread_74, rfl⟩
theorem dX1_spread_77 : decode cX1_spread 77 = .ok (.iload 7, 2) := by decide +kernel
theorem eX1_spread_77 : dec cX1_spread 77 (.iload 7) 2 79 := ⟨dX1_spread_77, rfl⟩
theorem dX1_spread_79 : decode cX1_spread 79 = .ok (.iaload, 1) := by decide +kernel
theorem eX1_spread_79 : dec cX1_spread 79 .iaload 1 80 := ⟨dX1_spread_79, rfl⟩
theorem dX1_spread_80 : decode cX1_spread 80 = .ok (.iload 7, 2) := by decide +kernel
theorem eX1_spread_80 : dec cX1_spread 80 (.iload 7) 2 82 := ⟨dX1_spread_80, rfl⟩
theorem dX1_spread_82 : decode cX1_spread 82 = .ok (.iload 5, 2) := by decide +kernel
theorem eX1_spread_82 : dec cX1_spread 82 (.iload 5) 2 84 := ⟨dX1_spread_82, rfl⟩
theorem dX1_spread_84 : decode cX1_spread 84 = .ok (.if_icmp .ge 11, 3) := by decide +kernel
theorem eX1_spread_84 : dec cX1_spread 84 (.if_icmp .ge 11) 3 87 := ⟨dX1_spread_84, rfl⟩
theorem dX1_spread_87 : decode cX1_spread 87 = .ok (.iload 5, 2) := by decide +kernel
theorem eX1_spread_87 : dec cX1_spread 87 (.iload 5) 2 89 := ⟨dX1_spread_87, rfl⟩
theorem dX1_spread_89 : decode cX1_spread 89 = .ok (.iload 7, 2) := by decide +kernel
theorem eX1_spread_89 : dec cX1_spread 89 (.iload 7) 2 91 := ⟨dX1_spread_89, rfl⟩
theorem dX1_spread_91 : decode cX1_spread 91 = .ok (.isub, 1) := by decide +kernel
theorem eX1_spread_91 : dec cX1_spread 91 .isub 1 92 := ⟨dX1_spread_91, rfl⟩
theorem dX1_spread_92 : decode cX1_spread 92 = .ok (.goto 8, 3) := by decide +kernel
theorem eX1_spread_92 : dec cX1_spread 92 (.goto 8) 3 95 := ⟨dX1_spread_92, rfl⟩
theorem dX1_spread_95 : decode cX1_spread 95 = .ok (.iload 7, 2) := by decide +kernel
theorem eX1_spread_95 : dec cX1_spread 95 (.iload 7) 2 97 := ⟨dX1_spread_95, rfl⟩
theorem dX1_spread_97 : decode cX1_spread 97 = .ok (.iload 5, 2) := by decide +kernel
theorem eX1_spread_97 : dec cX1_spread 97 (.iload 5) 2 99 := ⟨dX1_spread_97, rfl⟩
theorem dX1_spread_99 : decode cX1_spread 99 = .ok (.isub, 1) := by decide +kernel
theorem eX1_spread_99 : dec cX1_spread 99 .isub 1 100 := ⟨dX1_spread_99, rfl⟩
theorem dX1_spread_100 : decode cX1_spread 100 = .ok (.imul, 1) := by decide +kernel
theorem eX1_spread_100 : dec cX1_spread 100 .imul 1 101 := ⟨dX1_spread_100, rfl⟩
theorem dX1_spread_101 : decode cX1_spread 101 = .ok (.iadd, 1) := by decide +kernel
theorem eX1_spread_101 : dec cX1_spread 101 .iadd 1 102 := ⟨dX1_spread_101, rfl⟩
theorem dX1_spread_102 : decode cX1_spread 102 = .ok (.istore 6, 2) := by decide +kernel
theorem eX1_spread_102 : dec cX1_spread 102 (.istore 6) 2 104 := ⟨dX1_spread_102, rfl⟩
theorem dX1_spread_104 : decode cX1_spread 104 = .ok (.iinc 7 1, 3) := by decide +kernel
theorem eX1_spread_104 : dec cX1_spread 104 (.iinc 7 1) 3 107 := ⟨dX1_spread_104, rfl⟩
theorem dX1_spread_107 : decode cX1_spread 107 = .ok (.goto (-42), 3) := by decide +kernel
theorem eX1_spread_107 : dec cX1_spread 107 (.goto (-42)) 3 110 := ⟨dX1_spread_107, rfl⟩
theorem dX1_spread_110 : decode cX1_spread 110 = .ok (.iload 6, 2) := by decide +kernel
theorem eX1_spread_110 : dec cX1_spread 110 (.iload 6) 2 112 := ⟨dX1_spread_110, rfl⟩
theorem dX1_spread_112 : decode cX1_spread 112 = .ok (.ireturn, 1) := by decide +kernel
theorem eX1_spread_112 : dec cX1_spread 112 .ireturn 1 113 := ⟨dX1_spread_112, rfl⟩
set_option maxRecDepth 20000 in
theorem ggX1_thresholdNow_X1_spread : GoodIn wsX1_thresholdNow wsX1_spread := goodIn_r _ [8, 1, 9, 10, 11, 12, 13, 14, 15, 16, 17, 18, 19, 20, 21, 22, 23] (by decide +kernel) (by decide +kernel)
set_option maxRecDepth 20000 in
theorem gX1_thresholdNow_X1_spread : GoodIn wsX1_thresholdNow (wsV RX1 56 RX1 yX1_spread wsX1_spread) := goodIn_app (goodIn_of _ (by decide +kernel)) ggX1_thresholdNow_X1_spread
theorem dX1_thresholdNow_0 : decode cX1_thresholdNow 0 = .ok (.iconst 0, 1) := by decide +kernel
theorem eX1_thresholdNow_0 : dec cX1_thresholdNow 0 (.iconst 0) 1 1 := ⟨dX1_thresholdNow_0, rfl⟩
theorem dX1_thresholdNow_1 : decode cX1_thresholdNow 1 = .ok (.istore_n 1, 1) := by decide +kernel
theorem eX1_thresholdNow_1 : dec cX1_thresholdNow 1 (.istore_n 1) 1 2 := ⟨dX1_thresholdNow_1, rfl⟩
theorem dX1_thresholdNow_2 : decode cX1_thresholdNow 2 = .ok (.iload_n 1, 1) := by decide +kernel
theorem eX1_thresholdNow_2 : dec cX1_thresholdNow 2 (.iload_n 1) 1 3 := ⟨dX1_thresholdNow_2, rfl⟩
theorem dX1_thresholdNow_3 : decode cX1_thresholdNow 3 = .ok (.sipush 256, 3) := by decide +kernel
theorem eX1_thresholdNow_3 : dec cX1_thresholdNow 3 (.sipush 256) 3 6 := ⟨dX1_thresholdNow_3, rfl⟩
theorem dX1_thresholdNow_6 : decode cX1_thresholdNow 6 = .ok (.if_icmp .ge 16, 3) := by decide +kernel
theorem eX1_thresholdNow_6 : dec cX1_thresholdNow 6 (.if_icmp .ge 16) 3 9 := ⟨dX1_thresholdNow_6, rfl⟩
theorem dX1_thresholdNow_9 : decode cX1_thresholdNow 9 = .ok (.aload_n 0, 1) := by decide +kernel
theorem eX1_thresholdNow_9 : dec cX1_thresholdNow 9 (.aload_n 0) 1 10 := ⟨dX1_thresholdNow_9, rfl⟩
theorem dX1_thresholdNow_10 : decode cX1_thresholdNow 10 = .ok (.getfield 16, 3) := by decide +kernel
theorem eX1_thresholdNow_10 : dec cX1_thresholdNow 10 (.getfield 16) 3 13 := ⟨dX1_thresholdNow_10, rfl⟩
theorem dX1_thresholdNow_13 : decode cX1_thresholdNow 13 = .ok (.iload_n 1, 1) := by decide +kernel
theorem eX1_thresholdNow_13 : dec cX1_thresholdNow 13 (.iload_n 1) 1 14 := ⟨dX1_thresholdNow_13, rfl⟩
theorem dX1_thresholdNow_14 : decode cX1_thresholdNow 14 = .ok (.iconst 0, 1) := by decide +kernel
theorem eX1_thresholdNow_14 : dec cX1_thresholdNow 14 (.iconst 0) 1 15 := ⟨dX1_thresholdNow_14, rfl⟩
theorem dX1_thresholdNow_15 : decode cX1_thresholdNow 15 = .ok (.iastore, 1) := by decide +kernel
theorem eX1_thresholdNow_15 : dec cX1_thresholdNow 15 .iastore 1 16 := ⟨dX1_thresholdNow_15, rfl⟩
theorem dX1_thresholdNow_16 : decode cX1_thresholdNow 16 = .ok (.iinc 1 1, 3) := by decide +kernel
theorem eX1_thresholdNow_16 : dec cX1_thresholdNow 16 (.iinc 1 1) 3 19 := ⟨dX1_thresholdNow_16, rfl⟩
theorem dX1_thresholdNow_19 : decode cX1_thresholdNow 19 = .ok (.goto (-17), 3) := by decide +kernel
theorem eX1_thresholdNow_19 : dec cX1_thresholdNow 19 (.goto (-17)) 3 22 := ⟨dX1_thresholdNow_19, rfl⟩
theorem dX1_thresholdNow_22 : decode cX1_thresholdNow 22 = .ok (.iconst 0, 1) := by decide +kernel
theorem eX1_thresholdNow_22 : dec cX1_thresholdNow 22 (.iconst 0) 1 23 := ⟨dX1_thresholdNow_22, rfl⟩
theorem dX1_thresholdNow_23 : decode cX1_thresholdNow 23 = .ok (.istore_n 1, 1) := by decide +kernel
theorem eX1_thresholdNow_23 : dec cX1_thresholdNow 23 (.istore_n 1) 1 24 := ⟨dX1_thresholdNow_23, rfl⟩
theorem dX1_thresholdNow_24 : decode cX1_thresholdNow 24 = .ok (.iload_n 1, 1) := by decide +kernel
theorem eX1_thresholdNow_24 : dec cX1_thresholdNow 24 (.iload_n 1) 1 25 := ⟨dX1_thresholdNow_24, rfl⟩
theorem dX1_thresholdNow_25 : decode cX1_thresholdNow 25 = .ok (.aload_n 0, 1) := by decide +kernel
theorem eX1_thresholdNow_25 : dec cX1_thresholdNow 25 (.aload_n 0) 1 26 := ⟨dX1_thresholdNow_25, rfl⟩
theorem dX1_thresholdNow_26 : decode cX1_thresholdNow 26 = .ok (.getfield 42, 3) := by decide +kernel
theorem eX1_thresholdNow_26 : dec cX1_thresholdNow 26 (.getfield 42) 3 29 := ⟨dX1_thresholdNow_26, rfl⟩
theorem dX1_thresholdNow_29 : decode cX1_thresholdNow 29 = .ok (.if_icmp .ge 24, 3) := by decide +kernel
theorem eX1_thresholdNow_29 : dec cX1_thresholdNow 29 (.if_icmp .ge 24) 3 32 := ⟨dX1_thresholdNow_29, rfl⟩
theorem dX1_thresholdNow_32 : decode cX1_thresholdNow 32 = .ok (.aload_n 0, 1) := by decide +kernel
theorem eX1_thresholdNow_32 : dec cX1_thresholdNow 32 (.aload_n 0) 1 33 := ⟨dX1_thresholdNow_32, rfl⟩
theorem dX1_thresholdNow_33 : decode cX1_thresholdNow 33 = .ok (.getfield 16, 3) := by decide +kernel
theorem eX1_thresholdNow_33 : dec cX1_thresholdNow 33 (.getfield 16) 3 36 := ⟨dX1_thresholdNow_33, rfl⟩
theorem dX1_thresholdNow_36 : decode cX1_thresholdNow 36 = .ok (.aload_n 0, 1) := by decide +kernel
theorem eX1_thresholdNow_36 : dec cX1_thresholdNow 36 (.aload_n 0) 1 37 := ⟨dX1_thresholdNow_36, rfl⟩
theorem dX1_thresholdNow_37 : decode cX1_thresholdNow 37 = .ok (.getfield 7, 3) := by decide +kernel
theorem eX1_thresholdNow_37 : dec cX1_thresholdNow 37 (.getfield 7) 3 40 := ⟨dX1_thresholdNow_37, rfl⟩
theorem dX1_thresholdNow_40 : decode cX1_thresholdNow 40 = .ok (.iload_n 1, 1) := by decide +kernel
theorem eX1_thresholdNow_40 : dec cX1_thresholdNow 40 (.iload_n 1) 1 41 := ⟨dX1_thresholdNow_40, rfl⟩
theorem dX1_thresholdNow_41 : decode cX1_thresholdNow 41 = .ok (.iaload, 1) := by decide +kernel
theorem eX1_thresholdNow_41 : dec cX1_thresholdNow 41 .iaload 1 42 := ⟨dX1_thresholdNow_41, rfl⟩
theorem dX1_thresholdNow_42 : decode cX1_thresholdNow 42 = .ok (.dup2, 1) := by decide +kernel
theorem eX1_thresholdNow_42 : dec cX1_thresholdNow 42 .dup2 1 43 := ⟨dX1_thresholdNow_42, rfl⟩
theorem dX1_thresholdNow_43 : decode cX1_thresholdNow 43 = .ok (.iaload, 1) := by decide +kernel
theorem eX1_thresholdNow_43 : dec cX1_thresholdNow 43 .iaload 1 44 := ⟨dX1_thresholdNow_43, rfl⟩
theorem dX1_thresholdNow_44 : decode cX1_thresholdNow 44 = .ok (.iconst 1, 1) := by decide +kernel
theorem eX1_thresholdNow_44 : dec cX1_thresholdNow 44 (.iconst 1) 1 45 := ⟨dX1_thresholdNow_44, rfl⟩
theorem dX1_thresholdNow_45 : decode cX1_thresholdNow 45 = .ok (.iadd, 1) := by decide +kernel
theorem eX1_thresholdNow_45 : dec cX1_thresholdNow 45 .iadd 1 46 := ⟨dX1_thresholdNow_45, rfl⟩
theorem dX1_thresholdNow_46 : decode cX1_thresholdNow 46 = .ok (.iastore, 1) := by decide +kernel
theorem eX1_thresholdNow_46 : dec cX1_thresholdNow 46 .iastore 1 47 := ⟨dX1_thresholdNow_46, rfl⟩
theorem dX1_thresholdNow_47 : decode cX1_thresholdNow 47 = .ok (.iinc 1 1, 3) := by decide +kernel
theorem eX1_thresholdNow_47 : dec cX1_thresholdNow 47 (.iinc 1 1) 3 50 := ⟨dX1_thresholdNow_47, rfl⟩
theorem dX1_thresholdNow_50 : decode cX1_thresholdNow 50 = .ok (.goto (-26), 3) := by decide +kernel
theorem eX1_thresholdNow_50 : dec cX1_thresholdNow 50 (.goto (-26)) 3 53 := ⟨dX1_thresholdNow_50, rfl⟩
theorem dX1_thresholdNow_53 : decode cX1_thresholdNow 53 = .ok (.iconst 0, 1) := by decide +kernel
theorem eX1_thresholdNow_53 : dec cX1_thresholdNow 53 (.iconst 0) 1 54 := ⟨dX1_thresholdNow_53, rfl⟩
theorem dX1_thresholdNow_54 : decode cX1_thresholdNow 54 = .ok (.istore_n 1, 1) := by decide +kernel
theorem eX1_thresholdNow_54 : dec cX1_thresholdNow 54 (.istore_n 1) 1 55 := ⟨dX1_thresholdNow_54, rfl⟩
theorem dX1_thresholdNow_55 : decode cX1_thresholdNow 55 = .ok (.aload_n 0, 1) := by decide +kernel
theorem eX1_thresholdNow_55 : dec cX1_thresholdNow 55 (.aload_n 0) 1 56 := ⟨dX1_thresholdNow_55, rfl⟩
theorem dX1_thresholdNow_56 : decode cX1_thresholdNow 56 = .ok (.iconst 0, 1) := by decide +kernel
theorem eX1_thresholdNow_56 : dec cX1_thresholdNow 56 (.iconst 0) 1 57 := ⟨dX1_thresholdNow_56, rfl⟩
theorem dX1_thresholdNow_57 : decode cX1_thresholdNow 57 = .ok (.iconst 0, 1) := by decide +kernel
theorem eX1_thresholdNow_57 : dec cX1_thresholdNow 57 (.iconst 0) 1 58 := ⟨dX1_thresholdNow_57, rfl⟩
theorem dX1_thresholdNow_58 : decode cX1_thresholdNow 58 = .ok (.invokevirtual 56, 3) := by decide +kernel
theorem eX1_thresholdNow_58 : dec cX1_thresholdNow 58 (.invokevirtual 56) 3 61 := ⟨dX1_thresholdNow_58, rfl⟩
theorem dX1_thresholdNow_61 : decode cX1_thresholdNow 61 = .ok (.aload_n 0, 1) := by decide +kernel
theorem eX1_thresholdNow_61 : dec cX1_thresholdNow 61 (.aload_n 0) 1 62 := ⟨dX1_thresholdNow_61, rfl⟩
theorem dX1_thresholdNow_62 : decode cX1_thresholdNow 62 = .ok (.iconst 1, 1) := by decide +kernel
theorem eX1_thresholdNow_62 : dec cX1_thresholdNow 62 (.iconst 1) 1 63 := ⟨dX1_thresholdNow_62, rfl⟩
theorem dX1_thresholdNow_63 : decode cX1_thresholdNow 63 = .ok (.sipush 255, 3) := by decide +kernel
theorem eX1_thresholdNow_63 : dec cX1_thresholdNow 63 (.sipush 255) 3 66 := ⟨dX1_thresholdNow_63, rfl⟩
theorem dX1_thresholdNow_66 : decode cX1_thresholdNow 66 = .ok (.invokevirtual 56, 3) := by decide +kernel
theorem eX1_thresholdNow_66 : dec cX1_thresholdNow 66 (.invokevirtual 56) 3 69 := ⟨dX1_thresholdNow_66, rfl⟩
theorem dX1_thresholdNow_69 : decode cX1_thresholdNow 69 = .ok (.iadd, 1) := by decide +kernel
theorem eX1_thresholdNow_69 : dec cX1_thresholdNow 69 .iadd 1 70 := ⟨dX1_thresholdNow_69, rfl⟩
theorem dX1_thresholdNow_70 : decode cX1_thresholdNow 70 = .ok (.istore_n 2, 1) := by decide +kernel
theorem eX1_thresholdNow_70 : dec cX1_thresholdNow 70 (.istore_n 2) 1 71 := ⟨dX1_thresholdNow_70, rfl⟩
theorem dX1_thresholdNow_71 : decode cX1_thresholdNow 71 = .ok (.iconst 1, 1) := by decide +kernel
theorem eX1_thresholdNow_71 : dec cX1_thresholdNow 71 (.iconst 1) 1 72 := ⟨dX1_thresholdNow_71, rfl⟩
theorem dX1_thresholdNow_72 : decode cX1_thresholdNow 72 = .ok (.istore_n 3, 1) := by decide +kernel
theorem eX1_thresholdNow_72 : dec cX1_thresholdNow 72 (.istore_n 3) 1 73 := ⟨dX1_thresholdNow_72, rfl⟩
theorem dX1_thresholdNow_73 : decode cX1_thresholdNow 73 = .ok (.iload_n 3, 1) := by decide +kernel
theorem eX1_thresholdNow_73 : dec cX1_thresholdNow 73 (.iload_n 3) 1 74 := ⟨dX1_thresholdNow_73, rfl⟩
theorem dX1_thresholdNow_74 : decode cX1_thresholdNow 74 = .ok (.sipush 255, 3) := by decide +kernel
theorem eX1_thresholdNow_74 : dec cX1_thresholdNow 74 (.sipush 255) 3 77 := ⟨dX1_thresholdNow_74, rfl⟩
theorem dX1_thresholdNow_77 : decode cX1_thresholdNow 77 = .ok (.if_icmp .ge 53, 3) := by decide +kernel
theorem eX1_thresholdNow_77 : dec cX1_thresholdNow 77 (.if_icmp .ge 53) 3 80 := ⟨dX1_thresholdNow_77, rfl⟩
theorem dX1_thresholdNow_80 : decode cX1_thresholdNow 80 = .ok (.aload_n 0, 1) := by decide +kernel
theorem eX1_thresholdNow_80 : dec cX1_thresholdNow 80 (.aload_n 0) 1 81 := ⟨dX1_thresholdNow_80, rfl⟩
theorem dX1_thresholdNow_81 : decode cX1_thresholdNow 81 = .ok (.iconst 0, 1) := by decide +kernel
theorem eX1_thresholdNow_81 : dec cX1_thresholdNow 81 (.iconst 0) 1 82 := ⟨dX1_thresholdNow_81, rfl⟩
theorem dX1_thresholdNow_82 : decode cX1_thresholdNow 82 = .ok (.iload_n 3, 1) := by decide +kernel
theorem eX1_thresholdNow_82 : dec cX1_thresholdNow 82 (.iload_n 3) 1 83 := ⟨dX1_thresholdNow_82, rfl⟩
theorem dX1_thresholdNow_83 : decode cX1_thresholdNow 83 = .ok (.invokevirtual 56, 3) := by decide +kernel
theorem eX1_thresholdNow_83 : dec cX1_thresholdNow 83 (.invokevirtual 56) 3 86 := ⟨dX1_thresholdNow_83, rfl⟩
theorem dX1_thresholdNow_86 : decode cX1_thresholdNow 86 = .ok (.aload_n 0, 1) := by decide +kernel
theorem eX1_thresholdNow_86 : dec cX1_thresholdNow 86 (.aload_n 0) 1 87 := ⟨dX1_thresholdNow_86, rfl⟩
theorem dX1_thresholdNow_87 : decode cX1_thresholdNow 87 = .ok (.iload_n 3, 1) := by decide +kernel
theorem eX1_thresholdNow_87 : dec cX1_thresholdNow 87 (.iload_n 3) 1 88 := ⟨dX1_thresholdNow_87, rfl⟩
theorem dX1_thresholdNow_88 : decode cX1_thresholdNow 88 = .ok (.iconst 1, 1) := by decide +kernel
theorem eX1_thresholdNow_88 : dec cX1_thresholdNow 88 (.iconst 1) 1 89 := ⟨dX1_thresholdNow_88, rfl⟩
theorem dX1_thresholdNow_89 : decode cX1_thresholdNow 89 = .ok (.iadd, 1) := by decide +kernel
theorem eX1_thresholdNow_89 : dec cX1_thresholdNow 89 .iadd 1 90 := ⟨dX1_thresholdNow_89, rfl⟩
theorem dX1_thresholdNow_90 : decode cX1_thresholdNow 90 = .ok (.sipush 255, 3) := by decide +kernel
theorem eX1_thresholdNow_90 : dec cX1_thresholdNow 90 (.sipush 255) 3 93 := ⟨dX1_thresholdNow_90, rfl⟩
theorem dX1_thresholdNow_93 : decode cX1_thresholdNow 93 = .ok (.invokevirtual 56, 3) := by decide +kernel
theorem eX1_thresholdNow_93 : dec cX1_thresholdNow 93 (.invokevirtual 56) 3 96 := ⟨dX1_thresholdNow_93, rfl⟩
theorem dX1_thresholdNow_96 : decode cX1_thresholdNow 96 = .ok (.iadd, 1) := by decide +kernel
theorem eX1_thresholdNow_96 : dec cX1_thresholdNow 96 .iadd 1 97 := ⟨dX1_thresholdNow_96, rfl⟩
theorem dX1_thresholdNow_97 : decode cX1_thresholdNow 97 = .ok (.istore 4, 2) := by decide +kernel
theorem eX1_thresholdNow_97 : dec cX1_thresholdNow 97 (.istore 4) 2 99 := ⟨dX1_thresholdNow_97, rfl⟩
theorem dX1_thresholdNow_99 : decode cX1_thresholdNow 99 = .ok (.iload 4, 2) := by decide +kernel
theorem eX1_thresholdNow_99 : dec cX1_thresholdNow 99 (.iload 4) 2 101 := ⟨dX1_thresholdNow_99, rfl⟩
theorem dX1_thresholdNow_101 : decode cX1_thresholdNow 101 = .ok (.iload_n 2, 1) := by decide +kernel
theorem eX1_thresholdNow_101 : dec cX1_thresholdNow 101 (.iload_n 2) 1 102 := ⟨dX1_thresholdNow_101, rfl⟩
theorem dX1_thresholdNow_102 : decode cX1_thresholdNow 102 = .ok (.if_icmp .ge 7, 3) := by decide +kernel
theorem eX1_thresholdNow_102 : dec cX1_thresholdNow 102 (.if_icmp .ge 7) 3 105 := ⟨dX1_thresholdNow_102, rfl⟩
theorem dX1_thresholdNow_105 : decode cX1_thresholdNow 105 = .ok (.iload_n 3, 1) := by decide +kernel
theorem eX1_thresholdNow_105 : dec cX1_thresholdNow 105 (.iload_n 3) 1 106 := ⟨dX1_thresholdNow_105, rfl⟩
theorem dX1_thresholdNow_106 : decode cX1_thresholdNow 106 = .ok (.goto 4, 3) := by decide +kernel
theorem eX1_thresholdNow_106 : dec cX1_thresholdNow 106 (.goto 4) 3 109 := ⟨dX1_thresholdNow_106, rfl⟩
theorem dX1_thresholdNow_109 : decode cX1_thresholdNow 109 = .ok (.iload_n 1, 1) := by decide +kernel
theorem eX1_thresholdNow_109 : dec cX1_thresholdNow 109 (.iload_n 1) 1 110 := ⟨dX1_thresholdNow_109, rfl⟩
theorem dX1_thresholdNow_110 : decode cX1_thresholdNow 110 = .ok (.istore_n 1, 1) := by decide +kernel
theorem eX1_thresholdNow_110 : dec cX1_thresholdNow 110 (.istore_n 1) 1 111 := ⟨dX1_thresholdNow_110, rfl⟩
theorem dX1_thresholdNow_111 : decode cX1_thresholdNow 111 = .ok (.iload 4, 2) := by decide +kernel
theorem eX1_thresholdNow_111 : dec cX1_thresholdNow 111 (.iload 4) 2 113 := ⟨dX1_thresholdNow_111, rfl⟩
theorem dX1_thresholdNow_113 : decode cX1_thresholdNow 113 = .ok (.iload_n 2, 1) := by decide +kernel
theorem eX1_thresholdNow_113 : dec cX1_thresholdNow 113 (.iload_n 2) 1 114 := ⟨dX1_thresholdNow_113, rfl⟩
theorem dX1_thresholdNow_114 : decode cX1_thresholdNow 114 = .ok (.if_icmp .ge 8, 3) := by decide +kernel
theorem eX1_thresholdNow_114 : dec cX1_thresholdNow 114 (.if_icmp .ge 8) 3 117 := ⟨dX1_thresholdNow_114, rfl⟩
theorem dX1_thresholdNow_117 : decode cX1_thresholdNow 117 = .ok (.iload 4, 2) := by decide +kernel
theorem eX1_thresholdNow_117 : dec cX1_thresholdNow 117 (.iload 4) 2 119 := ⟨dX1_thresholdNow_117, rfl⟩
theorem dX1_thresholdNow_119 : decode cX1_thresholdNow 119 = .ok (.goto 4, 3) := by decide +kernel
theorem eX1_thresholdNow_119 : dec cX1_thresholdNow 119 (.goto 4) 3 122 := ⟨dX1_thresholdNow_119, rfl⟩
theorem dX1_thresholdNow_122 : decode cX1_thresholdNow 122 = .ok (.iload_n 2, 1) := by decide +kernel
theorem eX1_thresholdNow_122 : dec cX1_thresholdNow 122 (.iload_n 2) 1 123 := ⟨dX1_thresholdNow_122, rfl⟩
theorem dX1_thresholdNow_123 : decode cX1_thresholdNow 123 = .ok (.istore_n 2, 1) := by decide +kernel
theorem eX1_thresholdNow_123 : dec cX1_thresholdNow 123 (.istore_n 2) 1 124 := ⟨dX1_thresholdNow_123, rfl⟩
theorem dX1_thresholdNow_124 : decode cX1_thresholdNow 124 = .ok (.iinc 3 1, 3) := by decide +kernel
theorem eX1_thresholdNow_124 : dec cX1_thresholdNow 124 (.iinc 3 1) 3 127 := ⟨dX1_thresholdNow_124, rfl⟩
theorem dX1_thresholdNow_127 : decode cX1_thresholdNow 127 = .ok (.goto (-54), 3) := by decide +kernel
theorem eX1_thresholdNow_127 : dec cX1_thresholdNow 127 (.goto (-54)) 3 130 := ⟨dX1_thresholdNow_127, rfl⟩
theorem dX1_thresholdNow_130 : decode cX1_thresholdNow 130 = .ok (.iload_n 1, 1) := by decide +kernel
theorem eX1_thresholdNow_130 : dec cX1_thresholdNow 130 (.iload_n 1) 1 131 := ⟨dX1_thresholdNow_130, rfl⟩
theorem dX1_thresholdNow_131 : decode cX1_thresholdNow 131 = .ok (.ireturn, 1) := by decide +kernel
theorem eX1_thresholdNow_131 : dec cX1_thresholdNow 131 .ireturn 1 132 := ⟨dX1_thresholdNow_131, rfl⟩
set_option maxRecDepth 20000 in
theorem ggX1_threshold_X1_thresholdNow : GoodIn wsX1_threshold wsX1_thresholdNow := goodIn_r _ [6, 7, 8, 9, 10, 11, 12, 5, 13, 14, 15, 16, 17, 18, 19, 20, 21, 22, 23, 24, 25, 26, 27, 28] (by decide +kernel) (by decide +kernel)
set_option maxRecDepth 20000 in
theorem gX1_threshold_X1_thresholdNow : GoodIn wsX1_threshold (wsV RX1 60 RX1 yX1_thresholdNow wsX1_thresholdNow) := goodIn_app (goodIn_of _ (by decide +kernel)) ggX1_threshold_X1_thresholdNow
theorem dX1_threshold_0 : decode cX1_threshold 0 = .ok (.aload_n 0, 1) := by decide +kernel
theorem eX1_threshold_0 : dec cX1_threshold 0 (.aload_n 0) 1 1 := ⟨dX1_threshold_0, rfl⟩
theorem dX1_threshold_1 : decode cX1_threshold 1 = .ok (.iconst 0, 1) := by decide +kernel
theorem eX1_threshold_1 : dec cX1_threshold 1 (.iconst 0) 1 2 := ⟨dX1_threshold_1, rfl⟩
theorem dX1_threshold_2 : decode cX1_threshold 2 = .ok (.putfield 45, 3) := by decide +kernel
theorem eX1_threshold_2 : dec cX1_threshold 2 (.putfield 45) 3 5 := ⟨dX1_threshold_2, rfl⟩
theorem dX1_threshold_5 : decode cX1_threshold 5 = .ok (.aload_n 0, 1) := by decide +kernel
theorem eX1_threshold_5 : dec cX1_threshold 5 (.aload_n 0) 1 6 := ⟨dX1_threshold_5, rfl⟩
theorem dX1_threshold_6 : decode cX1_threshold 6 = .ok (.invokevirtual 60, 3) := by decide +kernel
theorem eX1_threshold_6 : dec cX1_threshold 6 (.invokevirtual 60) 3 9 := ⟨dX1_threshold_6, rfl⟩
theorem dX1_threshold_9 : decode cX1_threshold 9 = .ok (.ireturn, 1) := by decide +kernel
theorem eX1_threshold_9 : dec cX1_threshold 9 .ireturn 1 10 := ⟨dX1_threshold_9, rfl⟩
theorem dX1_isInverted_0 : decode cX1_isInverted 0 = .ok (.iconst 0, 1) := by decide +kernel
theorem eX1_isInverted_0 : dec cX1_isInverted 0 (.iconst 0) 1 1 := ⟨dX1_isInverted_0, rfl⟩
theorem dX1_isInverted_1 : decode cX1_isInverted 1 = .ok (.istore_n 2, 1) := by decide +kernel
theorem eX1_isInverted_1 : dec cX1_isInverted 1 (.istore_n 2) 1 2 := ⟨dX1_isInverted_1, rfl⟩
theorem dX1_isInverted_2 : decode cX1_isInverted 2 = .ok (.iconst 0, 1) := by decide +kernel
theorem eX1_isInverted_2 : dec cX1_isInverted 2 (.iconst 0) 1 3 := ⟨dX1_isInverted_2, rfl⟩
theorem dX1_isInverted_3 : decode cX1_isInverted 3 = .ok (.istore_n 3, 1) := by decide +kernel
theorem eX1_isInverted_3 : dec cX1_isInverted 3 (.istore_n 3) 1 4 := ⟨dX1_isInverted_3, rfl⟩
theorem dX1_isInverted_4 : decode cX1_isInverted 4 = .ok (.iload_n 3, 1) := by decide +kernel
theorem eX1_isInverted_4 : dec cX1_isInverted 4 (.iload_n 3) 1 5 := ⟨dX1_isInverted_4, rfl⟩
theorem dX1_isInverted_5 : decode cX1_isInverted 5 = .ok (.aload_n 0, 1) := by decide +kernel
theorem eX1_isInverted_5 : dec cX1_isInverted 5 (.aload_n 0) 1 6 := ⟨dX1_isInverted_5, rfl⟩
theorem dX1_isInverted_6 : decode cX1_isInverted 6 = .ok (.getfield 42, 3) := by decide +kernel
theorem eX1_isInverted_6 : dec cX1_isInverted 6 (.getfield 42) 3 9 := ⟨dX1_isInverted_6, rfl⟩
theorem dX1_isInverted_9 : decode cX1_isInverted 9 = .ok (.if_icmp .ge 27, 3) := by decide +kernel
theorem eX1_isInverted_9 : dec cX1_isInverted 9 (.if_icmp .ge 27) 3 12 := ⟨dX1_isInverted_9, rfl⟩
theorem dX1_isInverted_12 : decode cX1_isInverted 12 = .ok (.aload_n 0, 1) := by decide +kernel
theorem eX1_isInverted_12 : dec cX1_isInverted 12 (.aload_n 0) 1 13 := ⟨dX1_isInverted_12, rfl⟩
theorem dX1_isInverted_13 : decode cX1_isInverted 13 = .ok (.getfield 7, 3) := by decide +kernel
theorem eX1_isInverted_13 : dec cX1_isInverted 13 (.getfield 7) 3 16 := ⟨dX1_isInverted_13, rfl⟩
theorem dX1_isInverted_16 : decode cX1_isInverted 16 = .ok (.iload_n 3, 1) := by decide +kernel
theorem eX1_isInverted_16 : dec cX1_isInverted 16 (.iload_n 3) 1 17 := ⟨dX1_isInverted_16, rfl⟩
theorem dX1_isInverted_17 : decode cX1_isInverted 17 = .ok (.iaload, 1) := by decide +kernel
theorem eX1_isInverted_17 : dec cX1_isInverted 17 .iaload 1 18 := ⟨dX1_isInverted_17, rfl⟩
theorem dX1_isInverted_18 : decode cX1_isInverted 18 = .ok (.iload_n 1, 1) := by decide +kernel
theorem eX1_isInverted_18 : dec cX1_isInverted 18 (.iload_n 1) 1 19 := ⟨dX1_isInverted_18, rfl⟩
theorem dX1_isInverted_19 : decode cX1_isInverted 19 = .ok (.if_icmp .gt 9, 3) := by decide +kernel
theorem eX1_isInverted_19 : dec cX1_isInverted 19 (.if_icmp .gt 9) 3 22 := ⟨dX1_isInverted_19, rfl⟩
theorem dX1_isInverted_22 : decode cX1_isInverted 22 = .ok (.iload_n 2, 1) := by decide +kernel
theorem eX1_isInverted_22 : dec cX1_isInverted 22 (.iload_n 2) 1 23 := ⟨dX1_isInverted_22, rfl⟩
theorem dX1_isInverted_23 : decode cX1_isInverted 23 = .ok (.iconst 1, 1) := by decide +kernel
theorem eX1_isInverted_23 : dec cX1_isInverted 23 (.iconst 1) 1 24 := ⟨dX1_isInverted_23, rfl⟩
theorem dX1_isInverted_24 : decode cX1_isInverted 24 = .ok (.iadd, 1) := by decide +kernel
theorem eX1_isInverted_24 : dec cX1_isInverted 24 .iadd 1 25 := ⟨dX1_isInverted_24, rfl⟩
theorem dX1_isInverted_25 : decode cX1_isInverted 25 = .ok (.goto 4, 3) := by decide +kernel
theorem eX1_isInverted_25 : dec cX1_isInverted 25 (.goto 4) 3 28 := ⟨dX1_isInverted_25, rfl⟩
theorem dX1_isInverted_28 : decode cX1_isInverted 28 = .ok (.iload_n 2, 1) := by decide +kernel
theorem eX1_isInverted_28 : dec cX1_isInverted 28 (.iload_n 2) 1 29 := ⟨dX1_isInverted_28, rfl⟩
theorem dX1_isInverted_29 : decode cX1_isInverted 29 = .ok (.istore_n 2, 1) := by decide +kernel
theorem eX1_isInverted_29 : dec cX1_isInverted 29 (.istore_n 2) 1 30 := ⟨dX1_isInverted_29, rfl⟩
theorem dX1_isInverted_30 : decode cX1_isInverted 30 = .ok (.iinc 3 1, 3) := by decide +kernel
theorem eX1_isInverted_30 : dec cX1_isInverted 30 (.iinc 3 1) 3 33 := ⟨dX1_isInverted_30, rfl⟩
theorem dX1_isInverted_33 : decode cX1_isInverted 33 = .ok (.goto (-29), 3) := by decide +kernel
theorem eX1_isInverted_33 : dec cX1_isInverted 33 (.goto (-29)) 3 36 := ⟨dX1_isInverted_33, rfl⟩
theorem dX1_isInverted_36 : decode cX1_isInverted 36 = .ok (.iconst 2, 1) := by decide +kernel
theorem eX1_isInverted_36 : dec cX1_isInverted 36 (.iconst 2) 1 37 := ⟨dX1_isInverted_36, rfl⟩
theorem dX1_isInverted_37 : decode cX1_isInverted 37 = .ok (.iload_n 2, 1) := by decide +kernel
theorem eX1_isInverted_37 : dec cX1_isInverted 37 (.iload_n 2) 1 38 := ⟨dX1_isInverted_37, rfl⟩
theorem dX1_isInverted_38 : decode cX1_isInverted 38 = .ok (.imul, 1) := by decide +kernel
theorem eX1_isInverted_38 : dec cX1_isInverted 38 .imul 1 39 := ⟨dX1_isInverted_38, rfl⟩
theorem dX1_isInverted_39 : decode cX1_isInverted 39 = .ok (.aload_n 0, 1) := by decide +kernel
theorem eX1_isInverted_39 : dec cX1_isInverted 39 (.aload_n 0) 1 40 := ⟨dX1_isInverted_39, rfl⟩
theorem dX1_isInverted_40 : decode cX1_isInverted 40 = .ok (.getfield 42, 3) := by decide +kernel
theorem eX1_isInverted_40 : dec cX1_isInverted 40 (.getfield 42) 3 43 := ⟨dX1_isInverted_40, rfl⟩
theorem dX1_isInverted_43 : decode cX1_isInverted 43 = .ok (.if_icmp .le 7, 3) := by decide +kernel
theorem eX1_isInverted_43 : dec cX1_isInverted 43 (.if_icmp .le 7) 3 46 := ⟨dX1_isInverted_43, rfl⟩
theorem dX1_isInverted_46 : decode cX1_isInverted 46 = .ok (.iconst 1, 1) := by decide +kernel
theorem eX1_isInverted_46 : dec cX1_isInverted 46 (.iconst 1) 1 47 := ⟨dX1_isInverted_46, rfl⟩
theorem dX1_isInverted_47 : decode cX1_isInverted 47 = .ok (.goto 4, 3) := by decide +kernel
theorem eX1_isInverted_47 : dec cX1_isInverted 47 (.goto 4) 3 50 := ⟨dX1_isInverted_47, rfl⟩
theorem dX1_isInverted_50 : decode cX1_isInverted 50 = .ok (.iconst 0, 1) := by decide +kernel
theorem eX1_isInverted_50 : dec cX1_isInverted 50 (.iconst 0) 1 51 := ⟨dX1_isInverted_50, rfl⟩
theorem dX1_isInverted_51 : decode cX1_isInverted 51 = .ok (.ireturn, 1) := by decide +kernel
theorem eX1_isInverted_51 : dec cX1_isInverted 51 .ireturn 1 52 := ⟨dX1_isInverted_51, rfl⟩
set_option maxRecDepth 20000 in
theorem ggX1_inverted_X1_thresholdNow : GoodIn wsX1_inverted wsX1_thresholdNow := goodIn_r _ [6, 7, 8, 9, 10, 11, 12, 5, 13, 18, 19, 20, 21, 22, 23, 24, 25, 26, 27, 28, 29, 30, 31, 32] (by decide +kernel) (by decide +kernel)
set_option maxRecDepth 20000 in
theorem gX1_inverted_X1_thresholdNow : GoodIn wsX1_inverted (wsV RX1 60 RX1 yX1_thresholdNow wsX1_thresholdNow) := goodIn_app (goodIn_of _ (by decide +kernel)) ggX1_inverted_X1_thresholdNow
set_option maxRecDepth 20000 in
theorem ggX1_inverted_X1_isInverted : GoodIn wsX1_inverted wsX1_isInverted := goodIn_r _ [17, 8, 9, 18, 19, 20, 21, 22, 23, 24, 25, 26, 27, 28, 29, 30, 31, 32] (by decide +kernel) (by decide +kernel)
set_option maxRecDepth 20000 in
theorem gX1_inverted_X1_isInverted : GoodIn wsX1_inverted (wsV RX1 64 RX1 yX1_isInverted wsX1_isInverted) := goodIn_app (goodIn_of _ (by decide +kernel)) ggX1_inverted_X1_isInverted
theorem dX1_inverted_0 : decode cX1_inverted 0 = .ok (.aload_n 0, 1) := by decide +kernel
theorem eX1_inverted_0 : dec cX1_inverted 0 (.aload_n 0) 1 1 := ⟨dX1_inverted_0, rfl⟩
theorem dX1_inverted_1 : decode cX1_inverted 1 = .ok (.iconst 0, 1) := by decide +kernel
theorem eX1_inverted_1 : dec cX1_inverted 1 (.iconst 0) 1 2 := ⟨dX1_inverted_1, rfl⟩
theorem dX1_inverted_2 : decode cX1_inverted 2 = .ok (.putfield 45, 3) := by decide +kernel
theorem eX1_inverted_2 : dec cX1_inverted 2 (.putfield 45) 3 5 := ⟨dX1_inverted_2, rfl⟩
theorem dX1_inverted_5 : decode cX1_inverted 5 = .ok (.aload_n 0, 1) := by decide +kernel
theorem eX1_inverted_5 : dec cX1_inverted 5 (.aload_n 0) 1 6 := ⟨dX1_inverted_5, rfl⟩
theorem dX1_inverted_6 : decode cX1_inverted 6 = .ok (.aload_n 0, 1) := by decide +kernel
theorem eX1_inverted_6 : dec cX1_inverted 6 (.aload_n 0) 1 7 := ⟨dX1_inverted_6, rfl⟩
theorem dX1_inverted_7 : decode cX1_inverted 7 = .ok (.invokevirtual 60, 3) := by decide +kernel
theorem eX1_inverted_7 : dec cX1_inverted 7 (.invokevirtual 60) 3 10 := ⟨dX1_inverted_7, rfl⟩
theorem dX1_inverted_10 : decode cX1_inverted 10 = .ok (.invokevirtual 64, 3) := by decide +kernel
theorem eX1_inverted_10 : dec cX1_inverted 10 (.invokevirtual 64) 3 13 := ⟨dX1_inverted_10, rfl⟩
theorem dX1_inverted_13 : decode cX1_inverted 13 = .ok (.ireturn, 1) := by decide +kernel
theorem eX1_inverted_13 : dec cX1_inverted 13 .ireturn 1 14 := ⟨dX1_inverted_13, rfl⟩
set_option maxRecDepth 20000 in
theorem ggX1_darken_X1_thresholdNow : GoodIn wsX1_darken wsX1_thresholdNow := goodIn_r _ [8, 9, 1, 2, 10, 11, 12, 7, 13, 18, 19, 20, 21, 22, 23, 24, 25, 26, 27, 28, 29, 30, 31, 32] (by decide +kernel) (by decide +kernel)
set_option maxRecDepth 20000 in
theorem gX1_darken_X1_thresholdNow : GoodIn wsX1_darken (wsV RX1 60 RX1 yX1_thresholdNow wsX1_thresholdNow) := goodIn_app (goodIn_of _ (by decide +kernel)) ggX1_darken_X1_thresholdNow
set_option maxRecDepth 20000 in
theorem ggX1_darken_X1_isInverted : GoodIn wsX1_darken wsX1_isInverted := goodIn_r _ [17, 1, 2, 18, 19, 20, 21, 22, 23, 24, 25, 26, 27, 28, 29, 30, 31, 32] (by decide +kernel) (by decide +kernel)
set_option maxRecDepth 20000 in
theorem gX1_darken_X1_isInverted : GoodIn wsX1_darken (wsV RX1 64 RX1 yX1_isInverted wsX1_isInverted) := goodIn_app (goodIn_of _ (by decide +kernel)) ggX1_darken_X1_isInverted
theorem dX1_darken_0 : decode cX1_darken 0 = .ok (.aload_n 0, 1) := by decide +kernel
theorem eX1_darken_0 : dec cX1_darken 0 (.aload_n 0) 1 1 := ⟨dX1_darken_0, rfl⟩
theorem dX1_darken_1 : decode cX1_darken 1 = .ok (.invokevirtual 60, 3) := by decide +kernel
theorem eX1_darken_1 : dec cX1_darken 1 (.invokevirtual 60) 3 4 := ⟨dX1_darken_1, rfl⟩
theorem dX1_darken_4 : decode cX1_darken 4 = .ok (.istore_n 1, 1) := by decide +kernel
theorem eX1_darken_4 : dec cX1_darken 4 (.istore_n 1) 1 5 := ⟨dX1_darken_4, rfl⟩
theorem dX1_darken_5 : decode cX1_darken 5 = .ok (.aload_n 0, 1) := by decide +kernel
theorem eX1_darken_5 : dec cX1_darken 5 (.aload_n 0) 1 6 := ⟨dX1_darken_5, rfl⟩
theorem dX1_darken_6 : decode cX1_darken 6 = .ok (.iload_n 1, 1) := by decide +kernel
theorem eX1_darken_6 : dec cX1_darken 6 (.iload_n 1) 1 7 := ⟨dX1_darken_6, rfl⟩
theorem dX1_darken_7 : decode cX1_darken 7 = .ok (.invokevirtual 64, 3) := by decide +kernel
theorem eX1_darken_7 : dec cX1_darken 7 (.invokevirtual 64) 3 10 := ⟨dX1_darken_7, rfl⟩
theorem dX1_darken_10 : decode cX1_darken 10 = .ok (.istore_n 2, 1) := by decide +kernel
theorem eX1_darken_10 : dec cX1_darken 10 (.istore_n 2) 1 11 := ⟨dX1_darken_10, rfl⟩
theorem dX1_darken_11 : decode cX1_darken 11 = .ok (.iconst 0, 1) := by decide +kernel
theorem eX1_darken_11 : dec cX1_darken 11 (.iconst 0) 1 12 := ⟨dX1_darken_11, rfl⟩
theorem dX1_darken_12 : decode cX1_darken 12 = .ok (.istore_n 3, 1) := by decide +kernel
theorem eX1_darken_12 : dec cX1_darken 12 (.istore_n 3) 1 13 := ⟨dX1_darken_12, rfl⟩
theorem dX1_darken_13 : decode cX1_darken 13 = .ok (.iload_n 3, 1) := by decide +kernel
theorem eX1_darken_13 : dec cX1_darken 13 (.iload_n 3) 1 14 := ⟨dX1_darken_13, rfl⟩
theorem dX1_darken_14 : decode cX1_darken 14 = .ok (.aload_n 0, 1) := by decide +kernel
theorem eX1_darken_14 : dec cX1_darken 14 (.aload_n 0) 1 15 := ⟨dX1_darken_14, rfl⟩
theorem dX1_darken_15 : decode cX1_darken 15 = .ok (.getfield 42, 3) := by decide +kernel
theorem eX1_darken_15 : dec cX1_darken 15 (.getfield 42) 3 18 := ⟨dX1_darken_15, rfl⟩
theorem dX1_darken_18 : decode cX1_darken 18 = .ok (.if_icmp .ge 43, 3) := by decide +kernel
theorem eX1_darken_18 : dec cX1_darken 18 (.if_icmp .ge 43) 3 21 := ⟨dX1_darken_18, rfl⟩
theorem dX1_darken_21 : decode cX1_darken 21 = .ok (.aload_n 0, 1) := by decide +kernel
theorem eX1_darken_21 : dec cX1_darken 21 (.aload_n 0) 1 22 := ⟨dX1_darken_21, rfl⟩
theorem dX1_darken_22 : decode cX1_darken 22 = .ok (.getfield 7, 3) := by decide +kernel
theorem eX1_darken_22 : dec cX1_darken 22 (.getfield 7) 3 25 := ⟨dX1_darken_22, rfl⟩
theorem dX1_darken_25 : decode cX1_darken 25 = .ok (.iload_n 3, 1) := by decide +kernel
theorem eX1_darken_25 : dec cX1_darken 25 (.iload_n 3) 1 26 := ⟨dX1_darken_25, rfl⟩
theorem dX1_darken_26 : decode cX1_darken 26 = .ok (.iaload, 1) := by decide +kernel
theorem eX1_darken_26 : dec cX1_darken 26 .iaload 1 27 := ⟨dX1_darken_26, rfl⟩
theorem dX1_darken_27 : decode cX1_darken 27 = .ok (.iload_n 1, 1) := by decide +kernel
theorem eX1_darken_27 : dec cX1_darken 27 (.iload_n 1) 1 28 := ⟨dX1_darken_27, rfl⟩
theorem dX1_darken_28 : decode cX1_darken 28 = .ok (.if_icmp .gt 7, 3) := by decide +kernel
theorem eX1_darken_28 : dec cX1_darken 28 (.if_icmp .gt 7) 3 31 := ⟨dX1_darken_28, rfl⟩
theorem dX1_darken_31 : decode cX1_darken 31 = .ok (.iconst 1, 1) := by decide +kernel
theorem eX1_darken_31 : dec cX1_darken 31 (.iconst 1) 1 32 := ⟨dX1_darken_31, rfl⟩
theorem dX1_darken_32 : decode cX1_darken 32 = .ok (.goto 4, 3) := by decide +kernel
theorem eX1_darken_32 : dec cX1_darken 32 (.goto 4) 3 35 := ⟨dX1_darken_32, rfl⟩
theorem dX1_darken_35 : decode cX1_darken 35 = .ok (.iconst 0, 1) := by decide +kernel
theorem eX1_darken_35 : dec cX1_darken 35 (.iconst 0) 1 36 := ⟨dX1_darken_35, rfl⟩
theorem dX1_darken_36 : decode cX1_darken 36 = .ok (.istore 4, 2) := by decide +kernel
theorem eX1_darken_36 : dec cX1_darken 36 (.istore 4) 2 38 := ⟨dX1_darken_36, rfl⟩
theorem dX1_darken_38 : decode cX1_darken 38 = .ok (.aload_n 0, 1) := by decide +kernel
theorem eX1_darken_38 : dec cX1_darken 38 (.aload_n 0) 1 39 := ⟨dX1_darken_38, rfl⟩
theorem dX1_darken_39 : decode cX1_darken 39 = .ok (.getfield 13, 3) := by decide +kernel
theorem eX1_darken_39 : dec cX1_darken 39 (.getfield 13) 3 42 := ⟨dX1_darken_39, rfl⟩
theorem dX1_darken_42 : decode cX1_darken 42 = .ok (.iload_n 3, 1) := by decide +kernel
theorem eX1_darken_42 : dec cX1_darken 42 (.iload_n 3) 1 43 := ⟨dX1_darken_42, rfl⟩
theorem dX1_darken_43 : decode cX1_darken 43 = .ok (.iload 4, 2) := by decide +kernel
theorem eX1_darken_43 : dec cX1_darken 43 (.iload 4) 2 45 := ⟨dX1_darken_43, rfl⟩
theorem dX1_darken_45 : decode cX1_darken 45 = .ok (.iload_n 2, 1) := by decide +kernel
theorem eX1_darken_45 : dec cX1_darken 45 (.iload_n 2) 1 46 := ⟨dX1_darken_45, rfl⟩
theorem dX1_darken_46 : decode cX1_darken 46 = .ok (.if_icmp .eq 7, 3) := by decide +kernel
theorem eX1_darken_46 : dec cX1_darken 46 (.if_icmp .eq 7) 3 49 := ⟨dX1_darken_46, rfl⟩
theorem dX1_darken_49 : decode cX1_darken 49 = .ok (.iconst 1, 1) := by decide +kernel
theorem eX1_darken_49 : dec cX1_darken 49 (.iconst 1) 1 50 := ⟨dX1_darken_49, rfl⟩
theorem dX1_darken_50 : decode cX1_darken 50 = .ok (.goto 4, 3) := by decide +kernel
theorem eX1_darken_50 : dec cX1_darken 50 (.goto 4) 3 53 := ⟨dX1_darken_50, rfl⟩
theorem dX1_darken_53 : decode cX1_darken 53 = .ok (.iconst 0, 1) := by decide +kernel
theorem eX1_darken_53 : dec cX1_darken 53 (.iconst 0) 1 54 := ⟨dX1_darken_53, rfl⟩
theorem dX1_darken_54 : decode cX1_darken 54 = .ok (.iastore, 1) := by decide +kernel
theorem eX1_darken_54 : dec cX1_darken 54 .iastore 1 55 := ⟨dX1_darken_54, rfl⟩
theorem dX1_darken_55 : decode cX1_darken 55 = .ok (.iinc 3 1, 3) := by decide +kernel
theorem eX1_darken_55 : dec cX1_darken 55 (.iinc 3 1) 3 58 := ⟨dX1_darken_55, rfl⟩
theorem dX1_darken_58 : decode cX1_darken 58 = .ok (.goto (-45), 3) := by decide +kernel
theorem eX1_darken_58 : dec cX1_darken 58 (.goto (-45)) 3 61 := ⟨dX1_darken_58, rfl⟩
theorem dX1_darken_61 : decode cX1_darken 61 = .ok (.return_, 1) := by decide +kernel
theorem eX1_darken_61 : dec cX1_darken 61 .return_ 1 62 := ⟨dX1_darken_61, rfl⟩
set_option maxRecDepth 20000 in
theorem ggX1_leastAround_X1_isOn : GoodIn wsX1_leastAround wsX1_isOn := goodIn_r _ [8, 2, 9, 10, 11, 12, 13, 14, 15, 16, 17, 18, 19, 20, 21, 22, 23, 24] (by decide +kernel) (by decide +kernel)
set_option maxRecDepth 20000 in
theorem gX1_leastAround_X1_isOn : GoodIn wsX1_leastAround (wsV RX1 48 RX1 yX1_isOn wsX1_isOn) := goodIn_app (goodIn_of _ (by decide +kernel)) ggX1_leastAround_X1_isOn
theorem dX1_leastAround_0 : decode cX1_leastAround 0 = .ok (.aload_n 0, 1) := by decide +kernel
theorem eX1_leastAround_0 : dec cX1_leastAround 0 (.aload_n 0) 1 1 := ⟨dX1_leastAround_0, rfl⟩
theorem dX1_leastAround_1 : decode cX1_leastAround 1 = .ok (.getfield 19, 3) := by decide +kernel
theorem eX1_leastAround_1 : dec cX1_leastAround 1 (.getfield 19) 3 4 := ⟨dX1_leastAround_1, rfl⟩
theorem dX1_leastAround_4 : decode cX1_leastAround 4 = .ok (.iload_n 1, 1) := by decide +kernel
theorem eX1_leastAround_4 : dec cX1_leastAround 4 (.iload_n 1) 1 5 := ⟨dX1_leastAround_4, rfl⟩
theorem dX1_leastAround_5 : decode cX1_leastAround 5 = .ok (.iaload, 1) := by decide +kernel
theorem eX1_leastAround_5 : dec cX1_leastAround 5 .iaload 1 6 := ⟨dX1_leastAround_5, rfl⟩
theorem dX1_leastAround_6 : decode cX1_leastAround 6 = .ok (.istore_n 2, 1) := by decide +kernel
theorem eX1_leastAround_6 : dec cX1_leastAround 6 (.istore_n 2) 1 7 := ⟨dX1_leastAround_6, rfl⟩
theorem dX1_leastAround_7 : decode cX1_leastAround 7 = .ok (.iconst (-1), 1) := by decide +kernel
theorem eX1_leastAround_7 : dec cX1_leastAround 7 (.iconst (-1)) 1 8 := ⟨dX1_leastAround_7, rfl⟩
theorem dX1_leastAround_8 : decode cX1_leastAround 8 = .ok (.istore_n 3, 1) := by decide +kernel
theorem eX1_leastAround_8 : dec cX1_leastAround 8 (.istore_n 3) 1 9 := ⟨dX1_leastAround_8, rfl⟩
theorem dX1_leastAround_9 : decode cX1_leastAround 9 = .ok (.iload_n 3, 1) := by decide +kernel
theorem eX1_leastAround_9 : dec cX1_leastAround 9 (.iload_n 3) 1 10 := ⟨dX1_leastAround_9, rfl⟩
theorem dX1_leastAround_10 : decode cX1_leastAround 10 = .ok (.iconst 2, 1) := by decide +kernel
theorem eX1_leastAround_10 : dec cX1_leastAround 10 (.iconst 2) 1 11 := ⟨dX1_leastAround_10, rfl⟩
theorem dX1_leastAround_11 : decode cX1_leastAround 11 = .ok (.if_icmp .ge 110, 3) := by decide +kernel
theorem eX1_leastAround_11 : dec cX1_leastAround 11 (.if_icmp .ge 110) 3 14 := ⟨dX1_leastAround_11, rfl⟩
theorem dX1_leastAround_14 : decode cX1_leastAround 14 = .ok (.iconst (-1), 1) := by decide +kernel
theorem eX1_leastAround_14 : dec cX1_leastAround 14 (.iconst (-1)) 1 15 := ⟨dX1_leastAround_14, rfl⟩
theorem dX1_leastAround_15 : decode cX1_leastAround 15 = .ok (.istore 4, 2) := by decide +kernel
theorem eX1_leastAround_15 : dec cX1_leastAround 15 (.istore 4) 2 17 := ⟨dX1_leastAround_15, rfl⟩
theorem dX1_leastAround_17 : decode cX1_leastAround 17 = .ok (.iload 4, 2) := by decide +kernel
theorem eX1_leastAround_17 : dec cX1_leastAround 17 (.iload 4) 2 19 := ⟨dX1_leastAround_17, rfl⟩
theorem dX1_leastAround_19 : decode cX1_leastAround 19 = .ok (.iconst 2, 1) := by decide +kernel
theorem eX1_leastAround_19 : dec cX1_leastAround 19 (.iconst 2) 1 20 := ⟨dX1_leastAround_19, rfl⟩
theorem dX1_leastAround_20 : decode cX1_leastAround 20 = .ok (.if_icmp .ge 95, 3) := by decide +kernel
theorem eX1_leastAround_20 : dec cX1_leastAround 20 (.if_icmp .ge 95) 3 23 := ⟨dX1_leastAround_20, rfl⟩
theorem dX1_leastAround_23 : decode cX1_leastAround 23 = .ok (.iload_n 1, 1) := by decide +kernel
theorem eX1_leastAround_23 : dec cX1_leastAround 23 (.iload_n 1) 1 24 := ⟨dX1_leastAround_23, rfl⟩
theorem dX1_leastAround_24 : decode cX1_leastAround 24 = .ok (.aload_n 0, 1) := by decide +kernel
theorem eX1_leastAround_24 : dec cX1_leastAround 24 (.aload_n 0) 1 25 := ⟨dX1_leastAround_24, rfl⟩
theorem dX1_leastAround_25 : decode cX1_leastAround 25 = .ok (.getfield 35, 3) := by decide +kernel
theorem eX1_leastAround_25 : dec cX1_leastAround 25 (.getfield 35) 3 28 := ⟨dX1_leastAround_25, rfl⟩
theorem dX1_leastAround_28 : decode cX1_leastAround 28 = .ok (.irem, 1) := by decide +kernel
theorem eX1_leastAround_28 : dec cX1_leastAround 28 .irem 1 29 := ⟨dX1_leastAround_28, rfl⟩
theorem dX1_leastAround_29 : decode cX1_leastAround 29 = .ok (.iload 4, 2) := by decide +kernel
theorem eX1_leastAround_29 : dec cX1_leastAround 29 (.iload 4) 2 31 := ⟨dX1_leastAround_29, rfl⟩
theorem dX1_leastAround_31 : decode cX1_leastAround 31 = .ok (.iadd, 1) := by decide +kernel
theorem eX1_leastAround_31 : dec cX1_leastAround 31 .iadd 1 32 := ⟨dX1_leastAround_31, rfl⟩
theorem dX1_leastAround_32 : decode cX1_leastAround 32 = .ok (.istore 5, 2) := by decide +kernel
theorem eX1_leastAround_32 : dec cX1_leastAround 32 (.istore 5) 2 34 := ⟨dX1_leastAround_32, rfl⟩
theorem dX1_leastAround_34 : decode cX1_leastAround 34 = .ok (.iload_n 1, 1) := by decide +kernel
theorem eX1_leastAround_34 : dec cX1_leastAround 34 (.iload_n 1) 1 35 := ⟨dX1_leastAround_34, rfl⟩
theorem dX1_leastAround_35 : decode cX1_leastAround 35 = .ok (.aload_n 0, 1) := by decide +kernel
theorem eX1_leastAround_35 : dec cX1_leastAround 35 (.aload_n 0) 1 36 := ⟨dX1_leastAround_35, rfl⟩
theorem dX1_leastAround_36 : decode cX1_leastAround 36 = .ok (.getfield 35, 3) := by decide +kernel
theorem eX1_leastAround_36 : dec cX1_leastAround 36 (.getfield 35) 3 39 := ⟨dX1_leastAround_36, rfl⟩
theorem dX1_leastAround_39 : decode cX1_leastAround 39 = .ok (.idiv, 1) := by decide +kernel
theorem eX1_leastAround_39 : dec cX1_leastAround 39 .idiv 1 40 := ⟨dX1_leastAround_39, rfl⟩
theorem dX1_leastAround_40 : decode cX1_leastAround 40 = .ok (.iload_n 3, 1) := by decide +kernel
theorem eX1_leastAround_40 : dec cX1_leastAround 40 (.iload_n 3) 1 41 := ⟨dX1_leastAround_40, rfl⟩
theorem dX1_leastAround_41 : decode cX1_leastAround 41 = .ok (.iadd, 1) := by decide +kernel
theorem eX1_leastAround_41 : dec cX1_leastAround 41 .iadd 1 42 := ⟨dX1_leastAround_41, rfl⟩
theorem dX1_leastAround_42 : decode cX1_leastAround 42 = .ok (.istore 6, 2) := by decide +kernel
theorem eX1_leastAround_42 : dec cX1_leastAround 42 (.istore 6) 2 44 := ⟨dX1_leastAround_42, rfl⟩
theorem dX1_leastAround_44 : decode cX1_leastAround 44 = .ok (.aload_n 0, 1) := by decide +kernel
theorem eX1_leastAround_44 : dec cX1_leastAround 44 (.aload_n 0) 1 45 := ⟨dX1_leastAround_44, rfl⟩
theorem dX1_leastAround_45 : decode cX1_leastAround 45 = .ok (.iload 5, 2) := by decide +kernel
theorem eX1_leastAround_45 : dec cX1_leastAround 45 (.iload 5) 2 47 := ⟨dX1_leastAround_45, rfl⟩
theorem dX1_leastAround_47 : decode cX1_leastAround 47 = .ok (.iload 6, 2) := by decide +kernel
theorem eX1_leastAround_47 : dec cX1_leastAround 47 (.iload 6) 2 49 := ⟨dX1_leastAround_47, rfl⟩
theorem dX1_leastAround_49 : decode cX1_leastAround 49 = .ok (.invokevirtual 48, 3) := by decide +kernel
theorem eX1_leastAround_49 : dec cX1_leastAround 49 (.invokevirtual 48) 3 52 := ⟨dX1_leastAround_49, rfl⟩
theorem dX1_leastAround_52 : decode cX1_leastAround 52 = .ok (.ifCond .eq 57, 3) := by decide +kernel
theorem eX1_leastAround_52 : dec cX1_leastAround 52 (.ifCond .eq 57) 3 55 := ⟨dX1_leastAround_52, rfl⟩
theorem dX1_leastAround_55 : decode cX1_leastAround 55 = .ok (.aload_n 0, 1) := by decide +kernel
theorem eX1_leastAround_55 : dec cX1_leastAround 55 (.aload_n 0) 1 56 := ⟨dX1_leastAround_55, rfl⟩
theorem dX1_leastAround_56 : decode cX1_leastAround 56 = .ok (.getfield 13, 3) := by decide +kernel
theorem eX1_leastAround_56 : dec cX1_leastAround 56 (.getfield 13) 3 59 := ⟨dX1_leastAround_56, rfl⟩
theorem dX1_leastAround_59 : decode cX1_leastAround 59 = .ok (.aload_n 0, 1) := by decide +kernel
theorem eX1_leastAround_59 : dec cX1_leastAround 59 (.aload_n 0) 1 60 := ⟨dX1_leastAround_59, rfl⟩
theorem dX1_leastAround_60 : decode cX1_leastAround 60 = .ok (.getfield 35, 3) := by decide +kernel
theorem eX1_leastAround_60 : dec cX1_leastAround 60 (.getfield 35) 3 63 := ⟨dX1_leastAround_60, rfl⟩
theorem dX1_leastAround_63 : decode cX1_leastAround 63 = .ok (.iload 6, 2) := by decide +kernel
theorem eX1_leastAround_63 : dec cX1_leastAround 63 (.iload 6) 2 65 := ⟨dX1_leastAround_63, rfl⟩
theorem dX1_leastAround_65 : decode cX1_leastAround 65 = .ok (.imul, 1) := by decide +kernel
theorem eX1_leastAround_65 : dec cX1_leastAround 65 .imul 1 66 := ⟨dX1_leastAround_65, rfl⟩
theorem dX1_leastAround_66 : decode cX1_leastAround 66 = .ok (.iload 5, 2) := by decide +kernel
theorem eX1_leastAround_66 : dec cX1_leastAround 66 (.iload 5) 2 68 := ⟨dX1_leastAround_66, rfl⟩
theorem dX1_leastAround_68 : decode cX1_leastAround 68 = .ok (.iadd, 1) := by decide +kernel
theorem eX1_leastAround_68 : dec cX1_leastAround 68 .iadd 1 69 := ⟨dX1_leastAround_68, rfl⟩
theorem dX1_leastAround_69 : decode cX1_leastAround 69 = .ok (.iaload, 1) := by decide +kernel
theorem eX1_leastAround_69 : dec cX1_leastAround 69 .iaload 1 70 := ⟨dX1_leastAround_69, rfl⟩
theorem dX1_leastAround_70 : decode cX1_leastAround 70 = .ok (.iconst 1, 1) := by decide +kernel
theorem eX1_leastAround_70 : dec cX1_leastAround 70 (.iconst 1) 1 71 := ⟨dX1_leastAround_70, rfl⟩
theorem dX1_leastAround_71 : decode cX1_leastAround 71 = .ok (.if_icmp .ne 38, 3) := by decide +kernel
theorem eX1_leastAround_71 : dec cX1_leastAround 71 (.if_icmp .ne 38) 3 74 := ⟨dX1_leastAround_71, rfl⟩
theorem dX1_leastAround_74 : decode cX1_leastAround 74 = .ok (.aload_n 0, 1) := by decide +kernel
theorem eX1_leastAround_74 : dec cX1_leastAround 74 (.aload_n 0) 1 75 := ⟨dX1_leastAround_74, rfl⟩
theorem dX1_leastAround_75 : decode cX1_leastAround 75 = .ok (.getfield 19, 3) := by decide +kernel
theorem eX1_leastAround_75 : dec cX1_leastAround 75 (.getfield 19) 3 78 := ⟨dX1_leastAround_75, rfl⟩
theorem dX1_leastAround_78 : decode cX1_leastAround 78 = .ok (.aload_n 0, 1) := by decide +kernel
theorem eX1_leastAround_78 : dec cX1_leastAround 78 (.aload_n 0) 1 79 := ⟨dX1_leastAround_78, rfl⟩
theorem dX1_leastAround_79 : decode cX1_leastAround 79 = .ok (.getfield 35, 3) := by decide +kernel
theorem eX1_leastAround_79 : dec cX1_leastAround 79 (.getfield 35) 3 82 := ⟨dX1_leastAround_79, rfl⟩
theorem dX1_leastAround_82 : decode cX1_leastAround 82 = .ok (.iload 6, 2) := by decide +kernel
theorem eX1_leastAround_82 : dec cX1_leastAround 82 (.iload 6) 2 84 := ⟨dX1_leastAround_82, rfl⟩
theorem dX1_leastAround_84 : decode cX1_leastAround 84 = .ok (.imul, 1) := by decide +kernel
theorem eX1_leastAround_84 : dec cX1_leastAround 84 .imul 1 85 := ⟨dX1_leastAround_84, rfl⟩
theorem dX1_leastAround_85 : decode cX1_leastAround 85 = .ok (.iload 5, 2) := by decide +kernel
theorem eX1_leastAround_85 : dec cX1_leastAround 85 (.iload 5) 2 87 := ⟨dX1_leastAround_85, rfl⟩
theorem dX1_leastAround_87 : decode cX1_leastAround 87 = .ok (.iadd, 1) := by decide +kernel
theorem eX1_leastAround_87 : dec cX1_leastAround 87 .iadd 1 88 := ⟨dX1_leastAround_87, rfl⟩
theorem dX1_leastAround_88 : decode cX1_leastAround 88 = .ok (.iaload, 1) := by decide +kernel
theorem eX1_leastAround_88 : dec cX1_leastAround 88 .iaload 1 89 := ⟨dX1_leastAround_88, rfl⟩
theorem dX1_leastAround_89 : decode cX1_leastAround 89 = .ok (.iload_n 2, 1) := by decide +kernel
theorem eX1_leastAround_89 : dec cX1_leastAround 89 (.iload_n 2) 1 90 := ⟨dX1_leastAround_89, rfl⟩
theorem dX1_leastAround_90 : decode cX1_leastAround 90 = .ok (.if_icmp .ge 19, 3) := by decide +kernel
theorem eX1_leastAround_90 : dec cX1_leastAround 90 (.if_icmp .ge 19) 3 93 := ⟨dX1_leastAround_90, rfl⟩
theorem dX1_leastAround_93 : decode cX1_leastAround 93 = .ok (.aload_n 0, 1) := by decide +kernel
theorem eX1_leastAround_93 : dec cX1_leastAround 93 (.aload_n 0) 1 94 := ⟨dX1_leastAround_93, rfl⟩
theorem dX1_leastAround_94 : decode cX1_leastAround 94 = .ok (.getfield 19, 3) := by decide +kernel
theorem eX1_leastAround_94 : dec cX1_leastAround 94 (.getfield 19) 3 97 := ⟨dX1_leastAround_94, rfl⟩
theorem dX1_leastAround_97 : decode cX1_leastAround 97 = .ok (.aload_n 0, 1) := by decide +kernel
theorem eX1_leastAround_97 : dec cX1_leastAround 97 (.aload_n 0) 1 98 := ⟨dX1_leastAround_97, rfl⟩
theorem dX1_leastAround_98 : decode cX1_leastAround 98 = .ok (.getfield 35, 3) := by decide +kernel
theorem eX1_leastAround_98 : dec cX1_leastAround 98 (.getfield 35) 3 101 := ⟨dX1_leastAround_98, rfl⟩
theorem dX1_leastAround_101 : decode cX1_leastAround 101 = .ok (.iload 6, 2) := by decide +kernel
theorem eX1_leastAround_101 : dec cX1_leastAround 101 (.iload 6) 2 103 := ⟨dX1_leastAround_101, rfl⟩
theorem dX1_leastAround_103 : decode cX1_leastAround 103 = .ok (.imul, 1) := by decide +kernel
theorem eX1_leastAround_103 : dec cX1_leastAround 103 .imul 1 104 := ⟨dX1_leastAround_103, rfl⟩
theorem dX1_leastAround_104 : decode cX1_leastAround 104 = .ok (.iload 5, 2) := by decide +kernel
theorem eX1_leastAround_104 : dec cX1_leastAround 104 (.iload 5) 2 106 := ⟨dX1_leastAround_104, rfl⟩
theorem dX1_leastAround_106 : decode cX1_leastAround 106 = .ok (.iadd, 1) := by decide +kernel
theorem eX1_leastAround_106 : dec cX1_leastAround 106 .iadd 1 107 := ⟨dX1_leastAround_106, rfl⟩
theorem dX1_leastAround_107 : decode cX1_leastAround 107 = .ok (.iaload, 1) := by decide +kernel
theorem eX1_leastAround_107 : dec cX1_leastAround 107 .iaload 1 108 := ⟨dX1_leastAround_107, rfl⟩
theorem dX1_leastAround_108 : decode cX1_leastAround 108 = .ok (.istore_n 2, 1) := by decide +kernel
theorem eX1_leastAround_108 : dec cX1_leastAround 108 (.istore_n 2) 1 109 := ⟨dX1_leastAround_108, rfl⟩
theorem dX1_leastAround_109 : decode cX1_leastAround 109 = .ok (.iinc 4 1, 3) := by decide +kernel
theorem eX1_leastAround_109 : dec cX1_leastAround 109 (.iinc 4 1) 3 112 := ⟨dX1_leastAround_109, rfl⟩
theorem dX1_leastAround_112 : decode cX1_leastAround 112 = .ok (.goto (-95), 3) := by decide +kernel
theorem eX1_leastAround_112 : dec cX1_leastAround 112 (.goto (-95)) 3 115 := ⟨dX1_leastAround_112, rfl⟩
theorem dX1_leastAround_115 : decode cX1_leastAround 115 = .ok (.iinc 3 1, 3) := by decide +kernel
theorem eX1_leastAround_115 : dec cX1_leastAround 115 (.iinc 3 1) 3 118 := ⟨dX1_leastAround_115, rfl⟩
theorem dX1_leastAround_118 : decode cX1_leastAround 118 = .ok (.goto (-109), 3) := by decide +kernel
theorem eX1_leastAround_118 : dec cX1_leastAround 118 (.goto (-109)) 3 121 := ⟨dX1_leastAround_118, rfl⟩
theorem dX1_leastAround_121 : decode cX1_leastAround 121 = .ok (.iload_n 2, 1) := by decide +kernel
theorem eX1_leastAround_121 : dec cX1_leastAround 121 (.iload_n 2) 1 122 := ⟨dX1_leastAround_121, rfl⟩
theorem dX1_leastAround_122 : decode cX1_leastAround 122 = .ok (.ireturn, 1) := by decide +kernel
theorem eX1_leastAround_122 : dec cX1_leastAround 122 .ireturn 1 123 := ⟨dX1_leastAround_122, rfl⟩
set_option maxRecDepth 20000 in
theorem ggX1_parts_X1_darken : GoodIn wsX1_parts wsX1_darken := goodIn_r _ [10, 2, 11, 4, 12, 13, 14, 9, 15, 16, 17, 18, 19, 20, 21, 22, 23, 24, 44, 45, 46, 47, 48, 49, 50, 51, 52, 53, 54, 55, 56, 57, 58] (by decide +kernel) (by decide +kernel)
set_option maxRecDepth 20000 in
theorem gX1_parts_X1_darken : GoodIn wsX1_parts (wsV RX1 68 RX1 yX1_darken wsX1_darken) := goodIn_app (goodIn_of _ (by decide +kernel)) ggX1_parts_X1_darken
set_option maxRecDepth 20000 in
theorem ggX1_parts_X1_leastAround : GoodIn wsX1_parts wsX1_leastAround := goodIn_r _ [28, 3, 29, 4, 30, 31, 32, 9, 33, 34, 44, 45, 46, 47, 48, 49, 50, 51, 52, 53, 54, 55, 56, 57, 58] (by decide +kernel) (by decide +kernel)
set_option maxRecDepth 20000 in
theorem gX1_parts_X1_leastAround : GoodIn wsX1_parts (wsV RX1 71 RX1 yX1_leastAround wsX1_leastAround) := goodIn_app (goodIn_of _ (by decide +kernel)) ggX1_parts_X1_leastAround
set_option maxRecDepth 20000 in
theorem ggX1_parts_X1_sizeOf : GoodIn wsX1_parts wsX1_sizeOf := goodIn_r _ [38, 2, 4, 3, 44, 45, 46, 47, 48, 49, 50, 51, 52, 53, 54, 55, 56, 57, 58] (by decide +kernel) (by decide +kernel)
set_option maxRecDepth 20000 in
theorem gX1_parts_X1_sizeOf : GoodIn wsX1_parts (wsV RX1 78 RX1 yX1_sizeOf wsX1_sizeOf) := goodIn_app (goodIn_of _ (by decide +kernel)) ggX1_parts_X1_sizeOf
set_option maxRecDepth 20000 in
theorem ggX1_parts_X1_tell : GoodIn wsX1_parts wsX1_tell := goodIn_r _ [42, 5, 43, 29, 34, 2, 4, 3, 44, 45, 46, 47, 48, 49, 50, 51, 52, 53, 54, 55, 56, 57, 58] (by decide +kernel) (by decide +kernel)
set_option maxRecDepth 20000 in
theorem gX1_parts_X1_tell : GoodIn wsX1_parts (wsV RX1 81 RX1 yX1_tell wsX1_tell) := goodIn_app (goodIn_of _ (by decide +kernel)) ggX1_parts_X1_tell
theorem dX1_parts_0 : decode cX1_parts 0 = .ok (.aload_n 0, 1) := by decide +kernel
theorem eX1_parts_0 : dec cX1_parts 0 (.aload_n 0) 1 1 := ⟨dX1_parts_0, rfl⟩
theorem dX1_parts_1 : decode cX1_parts 1 = .ok (.iconst 0, 1) := by decide +kernel
theorem eX1_parts_1 : dec cX1_parts 1 (.iconst 0) 1 2 := ⟨dX1_parts_1, rfl⟩
theorem dX1_parts_2 : decode cX1_parts 2 = .ok (.putfield 45, 3) := by decide +kernel
theorem eX1_parts_2 : dec cX1_parts 2 (.putfield 45) 3 5 := ⟨dX1_parts_2, rfl⟩
theorem dX1_parts_5 : decode cX1_parts 5 = .ok (.aload_n 0, 1) := by decide +kernel
theorem eX1_parts_5 : dec cX1_parts 5 (.aload_n 0) 1 6 := ⟨dX1_parts_5, rfl⟩
theorem dX1_parts_6 : decode cX1_parts 6 = .ok (.invokevirtual 68, 3) := by decide +kernel
theorem eX1_parts_6 : dec cX1_parts 6 (.invokevirtual 68) 3 9 := ⟨dX1_parts_6, rfl⟩
theorem dX1_parts_9 : decode cX1_parts 9 = .ok (.iconst 0, 1) := by decide +kernel
theorem eX1_parts_9 : dec cX1_parts 9 (.iconst 0) 1 10 := ⟨dX1_parts_9, rfl⟩
theorem dX1_parts_10 : decode cX1_parts 10 = .ok (.istore_n 1, 1) := by decide +kernel
theorem eX1_parts_10 : dec cX1_parts 10 (.istore_n 1) 1 11 := ⟨dX1_parts_10, rfl⟩
theorem dX1_parts_11 : decode cX1_parts 11 = .ok (.iload_n 1, 1) := by decide +kernel
theorem eX1_parts_11 : dec cX1_parts 11 (.iload_n 1) 1 12 := ⟨dX1_parts_11, rfl⟩
theorem dX1_parts_12 : decode cX1_parts 12 = .ok (.aload_n 0, 1) := by decide +kernel
theorem eX1_parts_12 : dec cX1_parts 12 (.aload_n 0) 1 13 := ⟨dX1_parts_12, rfl⟩
theorem dX1_parts_13 : decode cX1_parts 13 = .ok (.getfield 42, 3) := by decide +kernel
theorem eX1_parts_13 : dec cX1_parts 13 (.getfield 42) 3 16 := ⟨dX1_parts_13, rfl⟩
theorem dX1_parts_16 : decode cX1_parts 16 = .ok (.if_icmp .ge 16, 3) := by decide +kernel
theorem eX1_parts_16 : dec cX1_parts 16 (.if_icmp .ge 16) 3 19 := ⟨dX1_parts_16, rfl⟩
theorem dX1_parts_19 : decode cX1_parts 19 = .ok (.aload_n 0, 1) := by decide +kernel
theorem eX1_parts_19 : dec cX1_parts 19 (.aload_n 0) 1 20 := ⟨dX1_parts_19, rfl⟩
theorem dX1_parts_20 : decode cX1_parts 20 = .ok (.getfield 19, 3) := by decide +kernel
theorem eX1_parts_20 : dec cX1_parts 20 (.getfield 19) 3 23 := ⟨dX1_parts_20, rfl⟩
theorem dX1_parts_23 : decode cX1_parts 23 = .ok (.iload_n 1, 1) := by decide +kernel
theorem eX1_parts_23 : dec cX1_parts 23 (.iload_n 1) 1 24 := ⟨dX1_parts_23, rfl⟩
theorem dX1_parts_24 : decode cX1_parts 24 = .ok (.iload_n 1, 1) := by decide +kernel
theorem eX1_parts_24 : dec cX1_parts 24 (.iload_n 1) 1 25 := ⟨dX1_parts_24, rfl⟩
theorem dX1_parts_25 : decode cX1_parts 25 = .ok (.iastore, 1) := by decide +kernel
theorem eX1_parts_25 : dec cX1_parts 25 .iastore 1 26 := ⟨dX1_parts_25, rfl⟩
theorem dX1_parts_26 : decode cX1_parts 26 = .ok (.iinc 1 1, 3) := by decide +kernel
theorem eX1_parts_26 : dec cX1_parts 26 (.iinc 1 1) 3 29 := ⟨dX1_parts_26, rfl⟩
theorem dX1_parts_29 : decode cX1_parts 29 = .ok (.goto (-18), 3) := by decide +kernel
theorem eX1_parts_29 : dec cX1_parts 29 (.goto (-18)) 3 32 := ⟨dX1_parts_29, rfl⟩
theorem dX1_parts_32 : decode cX1_parts 32 = .ok (.iconst 1, 1) := by decide +kernel
theorem eX1_parts_32 : dec cX1_parts 32 (.iconst 1) 1 33 := ⟨dX1_parts_32, rfl⟩
theorem dX1_parts_33 : decode cX1_parts 33 = .ok (.istore_n 1, 1) := by decide +kernel
theorem eX1_parts_33 : dec cX1_parts 33 (.istore_n 1) 1 34 := ⟨dX1_parts_33, rfl⟩
theorem dX1_parts_34 : decode cX1_parts 34 = .ok (.iload_n 1, 1) := by decide +kernel
theorem eX1_parts_34 : dec cX1_parts 34 (.iload_n 1) 1 35 := ⟨dX1_parts_34, rfl⟩
theorem dX1_parts_35 : decode cX1_parts 35 = .ok (.ifCond .eq 104, 3) := by decide +kernel
theorem eX1_parts_35 : dec cX1_parts 35 (.ifCond .eq 104) 3 38 := ⟨dX1_parts_35, rfl⟩
theorem dX1_parts_38 : decode cX1_parts 38 = .ok (.iconst 0, 1) := by decide +kernel
theorem eX1_parts_38 : dec cX1_parts 38 (.iconst 0) 1 39 := ⟨dX1_parts_38, rfl⟩
theorem dX1_parts_39 : decode cX1_parts 39 = .ok (.istore_n 1, 1) := by decide +kernel
theorem eX1_parts_39 : dec cX1_parts 39 (.istore_n 1) 1 40 := ⟨dX1_parts_39, rfl⟩
theorem dX1_parts_40 : decode cX1_parts 40 = .ok (.iconst 0, 1) := by decide +kernel
theorem eX1_parts_40 : dec cX1_parts 40 (.iconst 0) 1 41 := ⟨dX1_parts_40, rfl⟩
theorem dX1_parts_41 : decode cX1_parts 41 = .ok (.istore_n 2, 1) := by decide +kernel
theorem eX1_parts_41 : dec cX1_parts 41 (.istore_n 2) 1 42 := ⟨dX1_parts_41, rfl⟩
theorem dX1_parts_42 : decode cX1_parts 42 = .ok (.iload_n 2, 1) := by decide +kernel
theorem eX1_parts_42 : dec cX1_parts 42 (.iload_n 2) 1 43 := ⟨dX1_parts_42, rfl⟩
theorem dX1_parts_43 : decode cX1_parts 43 = .ok (.iconst 2, 1) := by decide +kernel
theorem eX1_parts_43 : dec cX1_parts 43 (.iconst 2) 1 44 := ⟨dX1_parts_43, rfl⟩
theorem dX1_parts_44 : decode cX1_parts 44 = .ok (.aload_n 0, 1) := by decide +kernel
theorem eX1_parts_44 : dec cX1_parts 44 (.aload_n 0) 1 45 := ⟨dX1_parts_44, rfl⟩
theorem dX1_parts_45 : decode cX1_parts 45 = .ok (.getfield 42, 3) := by decide +kernel
theorem eX1_parts_45 : dec cX1_parts 45 (.getfield 42) 3 48 := ⟨dX1_parts_45, rfl⟩
theorem dX1_parts_48 : decode cX1_parts 48 = .ok (.imul, 1) := by decide +kernel
theorem eX1_parts_48 : dec cX1_parts 48 .imul 1 49 := ⟨dX1_parts_48, rfl⟩
theorem dX1_parts_49 : decode cX1_parts 49 = .ok (.if_icmp .ge 87, 3) := by decide +kernel
theorem eX1_parts_49 : dec cX1_parts 49 (.if_icmp .ge 87) 3 52 := ⟨dX1_parts_49, rfl⟩
theorem dX1_parts_52 : decode cX1_parts 52 = .ok (.iload_n 2, 1) := by decide +kernel
theorem eX1_parts_52 : dec cX1_parts 52 (.iload_n 2) 1 53 := ⟨dX1_parts_52, rfl⟩
theorem dX1_parts_53 : decode cX1_parts 53 = .ok (.aload_n 0, 1) := by decide +kernel
theorem eX1_parts_53 : dec cX1_parts 53 (.aload_n 0) 1 54 := ⟨dX1_parts_53, rfl⟩
theorem dX1_parts_54 : decode cX1_parts 54 = .ok (.getfield 42, 3) := by decide +kernel
theorem eX1_parts_54 : dec cX1_parts 54 (.getfield 42) 3 57 := ⟨dX1_parts_54, rfl⟩
theorem dX1_parts_57 : decode cX1_parts 57 = .ok (.if_icmp .ge 7, 3) := by decide +kernel
theorem eX1_parts_57 : dec cX1_parts 57 (.if_icmp .ge 7) 3 60 := ⟨dX1_parts_57, rfl⟩
theorem dX1_parts_60 : decode cX1_parts 60 = .ok (.iload_n 2, 1) := by decide +kernel
theorem eX1_parts_60 : dec cX1_parts 60 (.iload_n 2) 1 61 := ⟨dX1_parts_60, rfl⟩
theorem dX1_parts_61 : decode cX1_parts 61 = .ok (.goto 13, 3) := by decide +kernel
theorem eX1_parts_61 : dec cX1_parts 61 (.goto 13) 3 64 := ⟨dX1_parts_61, rfl⟩
theorem dX1_parts_64 : decode cX1_parts 64 = .ok (.iconst 2, 1) := by decide +kernel
theorem eX1_parts_64 : dec cX1_parts 64 (.iconst 2) 1 65 := ⟨dX1_parts_64, rfl⟩
theorem dX1_parts_65 : decode cX1_parts 65 = .ok (.aload_n 0, 1) := by decide +kernel
theorem eX1_parts_65 : dec cX1_parts 65 (.aload_n 0) 1 66 := ⟨dX1_parts_65, rfl⟩
theorem dX1_parts_66 : decode cX1_parts 66 = .ok (.getfield 42, 3) := by decide +kernel
theorem eX1_parts_66 : dec cX1_parts 66 (.getfield 42) 3 69 := ⟨dX1_parts_66, rfl⟩
theorem dX1_parts_69 : decode cX1_parts 69 = .ok (.imul, 1) := by decide +kernel
theorem eX1_parts_69 : dec cX1_parts 69 .imul 1 70 := ⟨dX1_parts_69, rfl⟩
theorem dX1_parts_70 : decode cX1_parts 70 = .ok (.iconst 1, 1) := by decide +kernel
theorem eX1_parts_70 : dec cX1_parts 70 (.iconst 1) 1 71 := ⟨dX1_parts_70, rfl⟩
theorem dX1_parts_71 : decode cX1_parts 71 = .ok (.isub, 1) := by decide +kernel
theorem eX1_parts_71 : dec cX1_parts 71 .isub 1 72 := ⟨dX1_parts_71, rfl⟩
theorem dX1_parts_72 : decode cX1_parts 72 = .ok (.iload_n 2, 1) := by decide +kernel
theorem eX1_parts_72 : dec cX1_parts 72 (.iload_n 2) 1 73 := ⟨dX1_parts_72, rfl⟩
theorem dX1_parts_73 : decode cX1_parts 73 = .ok (.isub, 1) := by decide +kernel
theorem eX1_parts_73 : dec cX1_parts 73 .isub 1 74 := ⟨dX1_parts_73, rfl⟩
theorem dX1_parts_74 : decode cX1_parts 74 = .ok (.istore_n 3, 1) := by decide +kernel
theorem eX1_parts_74 : dec cX1_parts 74 (.istore_n 3) 1 75 := ⟨dX1_parts_74, rfl⟩
theorem dX1_parts_75 : decode cX1_parts 75 = .ok (.aload_n 0, 1) := by decide +kernel
theorem eX1_parts_75 : dec cX1_parts 75 (.aload_n 0) 1 76 := ⟨dX1_parts_75, rfl⟩
theorem dX1_parts_76 : decode cX1_parts 76 = .ok (.getfield 13, 3) := by decide +kernel
theorem eX1_parts_76 : dec cX1_parts 76 (.getfield 13) 3 79 := ⟨dX1_parts_76, rfl⟩
theorem dX1_parts_79 : decode cX1_parts 79 = .ok (.iload_n 3, 1) := by decide +kernel
theorem eX1_parts_79 : dec cX1_parts 79 (.iload_n 3) 1 80 := ⟨dX1_parts_79, rfl⟩
theorem dX1_parts_80 : decode cX1_parts 80 = .ok (.iaload, 1) := by decide +kernel
theorem eX1_parts_80 : dec cX1_parts 80 .iaload 1 81 := ⟨dX1_parts_80, rfl⟩
theorem dX1_parts_81 : decode cX1_parts 81 = .ok (.iconst 1, 1) := by decide +kernel
theorem eX1_parts_81 : dec cX1_parts 81 (.iconst 1) 1 82 := ⟨dX1_parts_81, rfl⟩
theorem dX1_parts_82 : decode cX1_parts 82 = .ok (.if_icmp .ne 11, 3) := by decide +kernel
theorem eX1_parts_82 : dec cX1_parts 82 (.if_icmp .ne 11) 3 85 := ⟨dX1_parts_82, rfl⟩
theorem dX1_parts_85 : decode cX1_parts 85 = .ok (.aload_n 0, 1) := by decide +kernel
theorem eX1_parts_85 : dec cX1_parts 85 (.aload_n 0) 1 86 := ⟨dX1_parts_85, rfl⟩
theorem dX1_parts_86 : decode cX1_parts 86 = .ok (.iload_n 3, 1) := by decide +kernel
theorem eX1_parts_86 : dec cX1_parts 86 (.iload_n 3) 1 87 := ⟨dX1_parts_86, rfl⟩
theorem dX1_parts_87 : decode cX1_parts 87 = .ok (.invokevirtual 71, 3) := by decide +kernel
theorem eX1_parts_87 : dec cX1_parts 87 (.invokevirtual 71) 3 90 := ⟨dX1_parts_87, rfl⟩
theorem dX1_parts_90 : decode cX1_parts 90 = .ok (.goto 9, 3) := by decide +kernel
theorem eX1_parts_90 : dec cX1_parts 90 (.goto 9) 3 93 := ⟨dX1_parts_90, rfl⟩
theorem dX1_parts_93 : decode cX1_parts 93 = .ok (.aload_n 0, 1) := by decide +kernel
theorem eX1_parts_93 : dec cX1_parts 93 (.aload_n 0) 1 94 := ⟨dX1_parts_93, rfl⟩
theorem dX1_parts_94 : decode cX1_parts 94 = .ok (.getfield 19, 3) := by decide +kernel
theorem eX1_parts_94 : dec cX1_parts 94 (.getfield 19) 3 97 := ⟨dX1_parts_94, rfl⟩
theorem dX1_parts_97 : decode cX1_parts 97 = .ok (.iload_n 3, 1) := by decide +kernel
theorem eX1_parts_97 : dec cX1_parts 97 (.iload_n 3) 1 98 := ⟨dX1_parts_97, rfl⟩
theorem dX1_parts_98 : decode cX1_parts 98 = .ok (.iaload, 1) := by decide +kernel
theorem eX1_parts_98 : dec cX1_parts 98 .iaload 1 99 := ⟨dX1_parts_98, rfl⟩
theorem dX1_parts_99 : decode cX1_parts 99 = .ok (.istore 4, 2) := by decide +kernel
theorem eX1_parts_99 : dec cX1_parts 99 (.istore 4) 2 101 := ⟨dX1_parts_99, rfl⟩
theorem dX1_parts_101 : decode cX1_parts 101 = .ok (.iload_n 1, 1) := by decide +kernel
theorem eX1_parts_101 : dec cX1_parts 101 (.iload_n 1) 1 102 := ⟨dX1_parts_101, rfl⟩
theorem dX1_parts_102 : decode cX1_parts 102 = .ok (.ifCond .ne 14, 3) := by decide +kernel
theorem eX1_parts_102 : dec cX1_parts 102 (.ifCond .ne 14) 3 105 := ⟨dX1_parts_102, rfl⟩
theorem dX1_parts_105 : decode cX1_parts 105 = .ok (.iload 4, 2) := by decide +kernel
theorem eX1_parts_105 : dec cX1_parts 105 (.iload 4) 2 107 := ⟨dX1_parts_105, rfl⟩
theorem dX1_parts_107 : decode cX1_parts 107 = .ok (.aload_n 0, 1) := by decide +kernel
theorem eX1_parts_107 : dec cX1_parts 107 (.aload_n 0) 1 108 := ⟨dX1_parts_107, rfl⟩
theorem dX1_parts_108 : decode cX1_parts 108 = .ok (.getfield 19, 3) := by decide +kernel
theorem eX1_parts_108 : dec cX1_parts 108 (.getfield 19) 3 111 := ⟨dX1_parts_108, rfl⟩
theorem dX1_parts_111 : decode cX1_parts 111 = .ok (.iload_n 3, 1) := by decide +kernel
theorem eX1_parts_111 : dec cX1_parts 111 (.iload_n 3) 1 112 := ⟨dX1_parts_111, rfl⟩
theorem dX1_parts_112 : decode cX1_parts 112 = .ok (.iaload, 1) := by decide +kernel
theorem eX1_parts_112 : dec cX1_parts 112 .iaload 1 113 := ⟨dX1_parts_112, rfl⟩
theorem dX1_parts_113 : decode cX1_parts 113 = .ok (.if_icmp .ge 7, 3) := by decide +kernel
theorem eX1_parts_113 : dec cX1_parts 113 (.if_icmp .ge 7) 3 116 := ⟨dX1_parts_113, rfl⟩
theorem dX1_parts_116 : decode cX1_parts 116 = .ok (.iconst 1, 1) := by decide +kernel
theorem eX1_parts_116 : dec cX1_parts 116 (.iconst 1) 1 117 := ⟨dX1_parts_116, rfl⟩
theorem dX1_parts_117 : decode cX1_parts 117 = .ok (.goto 4, 3) := by decide +kernel
theorem eX1_parts_117 : dec cX1_parts 117 (.goto 4) 3 120 := ⟨dX1_parts_117, rfl⟩
theorem dX1_parts_120 : decode cX1_parts 120 = .ok (.iconst 0, 1) := by decide +kernel
theorem eX1_parts_120 : dec cX1_parts 120 (.iconst 0) 1 121 := ⟨dX1_parts_120, rfl⟩
theorem dX1_parts_121 : decode cX1_parts 121 = .ok (.istore_n 1, 1) := by decide +kernel
theorem eX1_parts_121 : dec cX1_parts 121 (.istore_n 1) 1 122 := ⟨dX1_parts_121, rfl⟩
theorem dX1_parts_122 : decode cX1_parts 122 = .ok (.aload_n 0, 1) := by decide +kernel
theorem eX1_parts_122 : dec cX1_parts 122 (.aload_n 0) 1 123 := ⟨dX1_parts_122, rfl⟩
theorem dX1_parts_123 : decode cX1_parts 123 = .ok (.getfield 19, 3) := by decide +kernel
theorem eX1_parts_123 : dec cX1_parts 123 (.getfield 19) 3 126 := ⟨dX1_parts_123, rfl⟩
theorem dX1_parts_126 : decode cX1_parts 126 = .ok (.iload_n 3, 1) := by decide +kernel
theorem eX1_parts_126 : dec cX1_parts 126 (.iload_n 3) 1 127 := ⟨dX1_parts_126, rfl⟩
theorem dX1_parts_127 : decode cX1_parts 127 = .ok (.iload 4, 2) := by decide +kernel
theorem eX1_parts_127 : dec cX1_parts 127 (.iload 4) 2 129 := ⟨dX1_parts_127, rfl⟩
theorem dX1_parts_129 : decode cX1_parts 129 = .ok (.iastore, 1) := by decide +kernel
theorem eX1_parts_129 : dec cX1_parts 129 .iastore 1 130 := ⟨dX1_parts_129, rfl⟩
theorem dX1_parts_130 : decode cX1_parts 130 = .ok (.iinc 2 1, 3) := by decide +kernel
theorem eX1_parts_130 : dec cX1_parts 130 (.iinc 2 1) 3 133 := ⟨dX1_parts_130, rfl⟩
theorem dX1_parts_133 : decode cX1_parts 133 = .ok (.goto (-91), 3) := by decide +kernel
theorem eX1_parts_133 : dec cX1_parts 133 (.goto (-91)) 3 136 := ⟨dX1_parts_133, rfl⟩
theorem dX1_parts_136 : decode cX1_parts 136 = .ok (.goto (-102), 3) := by decide +kernel
theorem eX1_parts_136 : dec cX1_parts 136 (.goto (-102)) 3 139 := ⟨dX1_parts_136, rfl⟩
theorem dX1_parts_139 : decode cX1_parts 139 = .ok (.aload_n 0, 1) := by decide +kernel
theorem eX1_parts_139 : dec cX1_parts 139 (.aload_n 0) 1 140 := ⟨dX1_parts_139, rfl⟩
theorem dX1_parts_140 : decode cX1_parts 140 = .ok (.iconst 0, 1) := by decide +kernel
theorem eX1_parts_140 : dec cX1_parts 140 (.iconst 0) 1 141 := ⟨dX1_parts_140, rfl⟩
theorem dX1_parts_141 : decode cX1_parts 141 = .ok (.putfield 75, 3) := by decide +kernel
theorem eX1_parts_141 : dec cX1_parts 141 (.putfield 75) 3 144 := ⟨dX1_parts_141, rfl⟩
theorem dX1_parts_144 : decode cX1_parts 144 = .ok (.iconst 0, 1) := by decide +kernel
theorem eX1_parts_144 : dec cX1_parts 144 (.iconst 0) 1 145 := ⟨dX1_parts_144, rfl⟩
theorem dX1_parts_145 : decode cX1_parts 145 = .ok (.istore_n 2, 1) := by decide +kernel
theorem eX1_parts_145 : dec cX1_parts 145 (.istore_n 2) 1 146 := ⟨dX1_parts_145, rfl⟩
theorem dX1_parts_146 : decode cX1_parts 146 = .ok (.iload_n 2, 1) := by decide +kernel
theorem eX1_parts_146 : dec cX1_parts 146 (.iload_n 2) 1 147 := ⟨dX1_parts_146, rfl⟩
theorem dX1_parts_147 : decode cX1_parts 147 = .ok (.aload_n 0, 1) := by decide +kernel
theorem eX1_parts_147 : dec cX1_parts 147 (.aload_n 0) 1 148 := ⟨dX1_parts_147, rfl⟩
theorem dX1_parts_148 : decode cX1_parts 148 = .ok (.getfield 42, 3) := by decide +kernel
theorem eX1_parts_148 : dec cX1_parts 148 (.getfield 42) 3 151 := ⟨dX1_parts_148, rfl⟩
theorem dX1_parts_151 : decode cX1_parts 151 = .ok (.if_icmp .ge 53, 3) := by decide +kernel
theorem eX1_parts_151 : dec cX1_parts 151 (.if_icmp .ge 53) 3 154 := ⟨dX1_parts_151, rfl⟩
theorem dX1_parts_154 : decode cX1_parts 154 = .ok (.aload_n 0, 1) := by decide +kernel
theorem eX1_parts_154 : dec cX1_parts 154 (.aload_n 0) 1 155 := ⟨dX1_parts_154, rfl⟩
theorem dX1_parts_155 : decode cX1_parts 155 = .ok (.getfield 13, 3) := by decide +kernel
theorem eX1_parts_155 : dec cX1_parts 155 (.getfield 13) 3 158 := ⟨dX1_parts_155, rfl⟩
theorem dX1_parts_158 : decode cX1_parts 158 = .ok (.iload_n 2, 1) := by decide +kernel
theorem eX1_parts_158 : dec cX1_parts 158 (.iload_n 2) 1 159 := ⟨dX1_parts_158, rfl⟩
theorem dX1_parts_159 : decode cX1_parts 159 = .ok (.iaload, 1) := by decide +kernel
theorem eX1_parts_159 : dec cX1_parts 159 .iaload 1 160 := ⟨dX1_parts_159, rfl⟩
theorem dX1_parts_160 : decode cX1_parts 160 = .ok (.iconst 1, 1) := by decide +kernel
theorem eX1_parts_160 : dec cX1_parts 160 (.iconst 1) 1 161 := ⟨dX1_parts_160, rfl⟩
theorem dX1_parts_161 : decode cX1_parts 161 = .ok (.if_icmp .ne 37, 3) := by decide +kernel
theorem eX1_parts_161 : dec cX1_parts 161 (.if_icmp .ne 37) 3 164 := ⟨dX1_parts_161, rfl⟩
theorem dX1_parts_164 : decode cX1_parts 164 = .ok (.aload_n 0, 1) := by decide +kernel
theorem eX1_parts_164 : dec cX1_parts 164 (.aload_n 0) 1 165 := ⟨dX1_parts_164, rfl⟩
theorem dX1_parts_165 : decode cX1_parts 165 = .ok (.getfield 19, 3) := by decide +kernel
theorem eX1_parts_165 : dec cX1_parts 165 (.getfield 19) 3 168 := ⟨dX1_parts_165, rfl⟩
theorem dX1_parts_168 : decode cX1_parts 168 = .ok (.iload_n 2, 1) := by decide +kernel
theorem eX1_parts_168 : dec cX1_parts 168 (.iload_n 2) 1 169 := ⟨dX1_parts_168, rfl⟩
theorem dX1_parts_169 : decode cX1_parts 169 = .ok (.iaload, 1) := by decide +kernel
theorem eX1_parts_169 : dec cX1_parts 169 .iaload 1 170 := ⟨dX1_parts_169, rfl⟩
theorem dX1_parts_170 : decode cX1_parts 170 = .ok (.iload_n 2, 1) := by decide +kernel
theorem eX1_parts_170 : dec cX1_parts 170 (.iload_n 2) 1 171 := ⟨dX1_parts_170, rfl⟩
theorem dX1_parts_171 : decode cX1_parts 171 = .ok (.if_icmp .ne 27, 3) := by decide +kernel
theorem eX1_parts_171 : dec cX1_parts 171 (.if_icmp .ne 27) 3 174 := ⟨dX1_parts_171, rfl⟩
theorem dX1_parts_174 : decode cX1_parts 174 = .ok (.aload_n 0, 1) := by decide +kernel
theorem eX1_parts_174 : dec cX1_parts 174 (.aload_n 0) 1 175 := ⟨dX1_parts_174, rfl⟩
theorem dX1_parts_175 : decode cX1_parts 175 = .ok (.iload_n 2, 1) := by decide +kernel
theorem eX1_parts_175 : dec cX1_parts 175 (.iload_n 2) 1 176 := ⟨dX1_parts_175, rfl⟩
theorem dX1_parts_176 : decode cX1_parts 176 = .ok (.invokevirtual 78, 3) := by decide +kernel
theorem eX1_parts_176 : dec cX1_parts 176 (.invokevirtual 78) 3 179 := ⟨dX1_parts_176, rfl⟩
theorem dX1_parts_179 : decode cX1_parts 179 = .ok (.iconst 2, 1) := by decide +kernel
theorem eX1_parts_179 : dec cX1_parts 179 (.iconst 2) 1 180 := ⟨dX1_parts_179, rfl⟩
theorem dX1_parts_180 : decode cX1_parts 180 = .ok (.if_icmp .le 18, 3) := by decide +kernel
theorem eX1_parts_180 : dec cX1_parts 180 (.if_icmp .le 18) 3 183 := ⟨dX1_parts_180, rfl⟩
theorem dX1_parts_183 : decode cX1_parts 183 = .ok (.aload_n 0, 1) := by decide +kernel
theorem eX1_parts_183 : dec cX1_parts 183 (.aload_n 0) 1 184 := ⟨dX1_parts_183, rfl⟩
theorem dX1_parts_184 : decode cX1_parts 184 = .ok (.iload_n 2, 1) := by decide +kernel
theorem eX1_parts_184 : dec cX1_parts 184 (.iload_n 2) 1 185 := ⟨dX1_parts_184, rfl⟩
theorem dX1_parts_185 : decode cX1_parts 185 = .ok (.invokevirtual 81, 3) := by decide +kernel
theorem eX1_parts_185 : dec cX1_parts 185 (.invokevirtual 81) 3 188 := ⟨dX1_parts_185, rfl⟩
theorem dX1_parts_188 : decode cX1_parts 188 = .ok (.aload_n 0, 1) := by decide +kernel
theorem eX1_parts_188 : dec cX1_parts 188 (.aload_n 0) 1 189 := ⟨dX1_parts_188, rfl⟩
theorem dX1_parts_189 : decode cX1_parts 189 = .ok (.dup, 1) := by decide +kernel
theorem eX1_parts_189 : dec cX1_parts 189 .dup 1 190 := ⟨dX1_parts_189, rfl⟩
theorem dX1_parts_190 : decode cX1_parts 190 = .ok (.getfield 75, 3) := by decide +kernel
theorem eX1_parts_190 : dec cX1_parts 190 (.getfield 75) 3 193 := ⟨dX1_parts_190, rfl⟩
theorem dX1_parts_193 : decode cX1_parts 193 = .ok (.iconst 1, 1) := by decide +kernel
theorem eX1_parts_193 : dec cX1_parts 193 (.iconst 1) 1 194 := ⟨dX1_parts_193, rfl⟩
theorem dX1_parts_194 : decode cX1_parts 194 = .ok (.iadd, 1) := by decide +kernel
theorem eX1_parts_194 : dec cX1_parts 194 .iadd 1 195 := ⟨dX1_parts_194, rfl⟩
theorem dX1_parts_195 : decode cX1_parts 195 = .ok (.putfield 75, 3) := by decide +kernel
theorem eX1_parts_195 : dec cX1_parts 195 (.putfield 75) 3 198 := ⟨dX1_parts_195, rfl⟩
theorem dX1_parts_198 : decode cX1_parts 198 = .ok (.iinc 2 1, 3) := by decide +kernel
theorem eX1_parts_198 : dec cX1_parts 198 (.iinc 2 1) 3 201 := ⟨dX1_parts_198, rfl⟩
theorem dX1_parts_201 : decode cX1_parts 201 = .ok (.goto (-55), 3) := by decide +kernel
theorem eX1_parts_201 : dec cX1_parts 201 (.goto (-55)) 3 204 := ⟨dX1_parts_201, rfl⟩
theorem dX1_parts_204 : decode cX1_parts 204 = .ok (.aload_n 0, 1) := by decide +kernel
theorem eX1_parts_204 : dec cX1_parts 204 (.aload_n 0) 1 205 := ⟨dX1_parts_204, rfl⟩
theorem dX1_parts_205 : decode cX1_parts 205 = .ok (.getfield 75, 3) := by decide +kernel
theorem eX1_parts_205 : dec cX1_parts 205 (.getfield 75) 3 208 := ⟨dX1_parts_205, rfl⟩
theorem dX1_parts_208 : decode cX1_parts 208 = .ok (.ireturn, 1) := by decide +kernel
theorem eX1_parts_208 : dec cX1_parts 208 .ireturn 1 209 := ⟨dX1_parts_208, rfl⟩
theorem dX1_sizeOf_0 : decode cX1_sizeOf 0 = .ok (.iconst 0, 1) := by decide +kernel
theorem eX1_sizeOf_0 : dec cX1_sizeOf 0 (.iconst 0) 1 1 := ⟨dX1_sizeOf_0, rfl⟩
theorem dX1_sizeOf_1 : decode cX1_sizeOf 1 = .ok (.istore_n 2, 1) := by decide +kernel
theorem eX1_sizeOf_1 : dec cX1_sizeOf 1 (.istore_n 2) 1 2 := ⟨dX1_sizeOf_1, rfl⟩
theorem dX1_sizeOf_2 : decode cX1_sizeOf 2 = .ok (.iconst 0, 1) := by decide +kernel
theorem eX1_sizeOf_2 : dec cX1_sizeOf 2 (.iconst 0) 1 3 := ⟨dX1_sizeOf_2, rfl⟩
theorem dX1_sizeOf_3 : decode cX1_sizeOf 3 = .ok (.istore_n 3, 1) := by decide +kernel
theorem eX1_sizeOf_3 : dec cX1_sizeOf 3 (.istore_n 3) 1 4 := ⟨dX1_sizeOf_3, rfl⟩
theorem dX1_sizeOf_4 : decode cX1_sizeOf 4 = .ok (.iload_n 3, 1) := by decide +kernel
theorem eX1_sizeOf_4 : dec cX1_sizeOf 4 (.iload_n 3) 1 5 := ⟨dX1_sizeOf_4, rfl⟩
theorem dX1_sizeOf_5 : decode cX1_sizeOf 5 = .ok (.aload_n 0, 1) := by decide +kernel
theorem eX1_sizeOf_5 : dec cX1_sizeOf 5 (.aload_n 0) 1 6 := ⟨dX1_sizeOf_5, rfl⟩
theorem dX1_sizeOf_6 : decode cX1_sizeOf 6 = .ok (.getfield 42, 3) := by decide +kernel
theorem eX1_sizeOf_6 : dec cX1_sizeOf 6 (.getfield 42) 3 9 := ⟨dX1_sizeOf_6, rfl⟩
theorem dX1_sizeOf_9 : decode cX1_sizeOf 9 = .ok (.if_icmp .ge 37, 3) := by decide +kernel
theorem eX1_sizeOf_9 : dec cX1_sizeOf 9 (.if_icmp .ge 37) 3 12 := ⟨dX1_sizeOf_9, rfl⟩
theorem dX1_sizeOf_12 : decode cX1_sizeOf 12 = .ok (.aload_n 0, 1) := by decide +kernel
theorem eX1_sizeOf_12 : dec cX1_sizeOf 12 (.aload_n 0) 1 13 := ⟨dX1_sizeOf_12, rfl⟩
theorem dX1_sizeOf_13 : decode cX1_sizeOf 13 = .ok (.getfield 13, 3) := by decide +kernel
theorem eX1_sizeOf_13 : dec cX1_sizeOf 13 (.getfield 13) 3 16 := ⟨dX1_sizeOf_13, rfl⟩
theorem dX1_sizeOf_16 : decode cX1_sizeOf 16 = .ok (.iload_n 3, 1) := by decide +kernel
theorem eX1_sizeOf_16 : dec cX1_sizeOf 16 (.iload_n 3) 1 17 := ⟨dX1_sizeOf_16, rfl⟩
theorem dX1_sizeOf_17 : decode cX1_sizeOf 17 = .ok (.iaload, 1) := by decide +kernel
theorem eX1_sizeOf_17 : dec cX1_sizeOf 17 .iaload 1 18 := ⟨dX1_sizeOf_17, rfl⟩
theorem dX1_sizeOf_18 : decode cX1_sizeOf 18 = .ok (.iconst 1, 1) := by decide +kernel
theorem eX1_sizeOf_18 : dec cX1_sizeOf 18 (.iconst 1) 1 19 := ⟨dX1_sizeOf_18, rfl⟩
theorem dX1_sizeOf_19 : decode cX1_sizeOf 19 = .ok (.if_icmp .ne 19, 3) := by decide +kernel
theorem eX1_sizeOf_19 : dec cX1_sizeOf 19 (.if_icmp .ne 19) 3 22 := ⟨dX1_sizeOf_19, rfl⟩
theorem dX1_sizeOf_22 : decode cX1_sizeOf 22 = .ok (.aload_n 0, 1) := by decide +kernel
theorem eX1_sizeOf_22 : dec cX1_sizeOf 22 (.aload_n 0) 1 23 := ⟨dX1_sizeOf_22, rfl⟩
theorem dX1_sizeOf_23 : decode cX1_sizeOf 23 = .ok (.getfield 19, 3) := by decide +kernel
theorem eX1_sizeOf_23 : dec cX1_sizeOf 23 (.getfield 19) 3 26 := ⟨dX1_sizeOf_23, rfl⟩
theorem dX1_sizeOf_26 : decode cX1_sizeOf 26 = .ok (.iload_n 3, 1) := by decide +kernel
theorem eX1_sizeOf_26 : dec cX1_sizeOf 26 (.iload_n 3) 1 27 := ⟨dX1_sizeOf_26, rfl⟩
theorem dX1_sizeOf_27 : decode cX1_sizeOf 27 = .ok (.iaload, 1) := by decide +kernel
theorem eX1_sizeOf_27 : dec cX1_sizeOf 27 .iaload 1 28 := ⟨dX1_sizeOf_27, rfl⟩
theorem dX1_sizeOf_28 : decode cX1_sizeOf 28 = .ok (.iload_n 1, 1) := by decide +kernel
theorem eX1_sizeOf_28 : dec cX1_sizeOf 28 (.iload_n 1) 1 29 := ⟨dX1_sizeOf_28, rfl⟩
theorem dX1_sizeOf_29 : decode cX1_sizeOf 29 = .ok (.if_icmp .ne 9, 3) := by decide +kernel
theorem eX1_sizeOf_29 : dec cX1_sizeOf 29 (.if_icmp .ne 9) 3 32 := ⟨dX1_sizeOf_29, rfl⟩
theorem dX1_sizeOf_32 : decode cX1_sizeOf 32 = .ok (.iload_n 2, 1) := by decide +kernel
theorem eX1_sizeOf_32 : dec cX1_sizeOf 32 (.iload_n 2) 1 33 := ⟨dX1_sizeOf_32, rfl⟩
theorem dX1_sizeOf_33 : decode cX1_sizeOf 33 = .ok (.iconst 1, 1) := by decide +kernel
theorem eX1_sizeOf_33 : dec cX1_sizeOf 33 (.iconst 1) 1 34 := ⟨dX1_sizeOf_33, rfl⟩
theorem dX1_sizeOf_34 : decode cX1_sizeOf 34 = .ok (.iadd, 1) := by decide +kernel
theorem eX1_sizeOf_34 : dec cX1_sizeOf 34 .iadd 1 35 := ⟨dX1_sizeOf_34, rfl⟩
theorem dX1_sizeOf_35 : decode cX1_sizeOf 35 = .ok (.goto 4, 3) := by decide +kernel
theorem eX1_sizeOf_35 : dec cX1_sizeOf 35 (.goto 4) 3 38 := ⟨dX1_sizeOf_35, rfl⟩
theorem dX1_sizeOf_38 : decode cX1_sizeOf 38 = .ok (.iload_n 2, 1) := by decide +kernel
theorem eX1_sizeOf_38 : dec cX1_sizeOf 38 (.iload_n 2) 1 39 := ⟨dX1_sizeOf_38, rfl⟩
theorem dX1_sizeOf_39 : decode cX1_sizeOf 39 = .ok (.istore_n 2, 1) := by decide +kernel
theorem eX1_sizeOf_39 : dec cX1_sizeOf 39 (.istore_n 2) 1 40 := ⟨dX1_sizeOf_39, rfl⟩
theorem dX1_sizeOf_40 : decode cX1_sizeOf 40 = .ok (.iinc 3 1, 3) := by decide +kernel
theorem eX1_sizeOf_40 : dec cX1_sizeOf 40 (.iinc 3 1) 3 43 := ⟨dX1_sizeOf_40, rfl⟩
theorem dX1_sizeOf_43 : decode cX1_sizeOf 43 = .ok (.goto (-39), 3) := by decide +kernel
theorem eX1_sizeOf_43 : dec cX1_sizeOf 43 (.goto (-39)) 3 46 := ⟨dX1_sizeOf_43, rfl⟩
theorem dX1_sizeOf_46 : decode cX1_sizeOf 46 = .ok (.iload_n 2, 1) := by decide +kernel
theorem eX1_sizeOf_46 : dec cX1_sizeOf 46 (.iload_n 2) 1 47 := ⟨dX1_sizeOf_46, rfl⟩
theorem dX1_sizeOf_47 : decode cX1_sizeOf 47 = .ok (.ireturn, 1) := by decide +kernel
theorem eX1_sizeOf_47 : dec cX1_sizeOf 47 .ireturn 1 48 := ⟨dX1_sizeOf_47, rfl⟩
theorem dX1_tell_0 : decode cX1_tell 0 = .ok (.bipush 7, 2) := by decide +kernel
theorem eX1_tell_0 : dec cX1_tell 0 (.bipush 7) 2 2 := ⟨dX1_tell_0, rfl⟩
theorem dX1_tell_2 : decode cX1_tell 2 = .ok (.aload_n 0, 1) := by decide +kernel
theorem eX1_tell_2 : dec cX1_tell 2 (.aload_n 0) 1 3 := ⟨dX1_tell_2, rfl⟩
theorem dX1_tell_3 : decode cX1_tell 3 = .ok (.getfield 75, 3) := by decide +kernel
theorem eX1_tell_3 : dec cX1_tell 3 (.getfield 75) 3 6 := ⟨dX1_tell_3, rfl⟩
theorem dX1_tell_6 : decode cX1_tell 6 = .ok (.imul, 1) := by decide +kernel
theorem eX1_tell_6 : dec cX1_tell 6 .imul 1 7 := ⟨dX1_tell_6, rfl⟩
theorem dX1_tell_7 : decode cX1_tell 7 = .ok (.istore_n 2, 1) := by decide +kernel
theorem eX1_tell_7 : dec cX1_tell 7 (.istore_n 2) 1 8 := ⟨dX1_tell_7, rfl⟩
theorem dX1_tell_8 : decode cX1_tell 8 = .ok (.aload_n 0, 1) := by decide +kernel
theorem eX1_tell_8 : dec cX1_tell 8 (.aload_n 0) 1 9 := ⟨dX1_tell_8, rfl⟩
theorem dX1_tell_9 : decode cX1_tell 9 = .ok (.getfield 25, 3) := by decide +kernel
theorem eX1_tell_9 : dec cX1_tell 9 (.getfield 25) 3 12 := ⟨dX1_tell_9, rfl⟩
theorem dX1_tell_12 : decode cX1_tell 12 = .ok (.iload_n 2, 1) := by decide +kernel
theorem eX1_tell_12 : dec cX1_tell 12 (.iload_n 2) 1 13 := ⟨dX1_tell_12, rfl⟩
theorem dX1_tell_13 : decode cX1_tell 13 = .ok (.aload_n 0, 1) := by decide +kernel
theorem eX1_tell_13 : dec cX1_tell 13 (.aload_n 0) 1 14 := ⟨dX1_tell_13, rfl⟩
theorem dX1_tell_14 : decode cX1_tell 14 = .ok (.getfield 35, 3) := by decide +kernel
theorem eX1_tell_14 : dec cX1_tell 14 (.getfield 35) 3 17 := ⟨dX1_tell_14, rfl⟩
theorem dX1_tell_17 : decode cX1_tell 17 = .ok (.iastore, 1) := by decide +kernel
theorem eX1_tell_17 : dec cX1_tell 17 .iastore 1 18 := ⟨dX1_tell_17, rfl⟩
theorem dX1_tell_18 : decode cX1_tell 18 = .ok (.aload_n 0, 1) := by decide +kernel
theorem eX1_tell_18 : dec cX1_tell 18 (.aload_n 0) 1 19 := ⟨dX1_tell_18, rfl⟩
theorem dX1_tell_19 : decode cX1_tell 19 = .ok (.getfield 25, 3) := by decide +kernel
theorem eX1_tell_19 : dec cX1_tell 19 (.getfield 25) 3 22 := ⟨dX1_tell_19, rfl⟩
theorem dX1_tell_22 : decode cX1_tell 22 = .ok (.iload_n 2, 1) := by decide +kernel
theorem eX1_tell_22 : dec cX1_tell 22 (.iload_n 2) 1 23 := ⟨dX1_tell_22, rfl⟩
theorem dX1_tell_23 : decode cX1_tell 23 = .ok (.iconst 1, 1) := by decide +kernel
theorem eX1_tell_23 : dec cX1_tell 23 (.iconst 1) 1 24 := ⟨dX1_tell_23, rfl⟩
theorem dX1_tell_24 : decode cX1_tell 24 = .ok (.iadd, 1) := by decide +kernel
theorem eX1_tell_24 : dec cX1_tell 24 .iadd 1 25 := ⟨dX1_tell_24, rfl⟩
theorem dX1_tell_25 : decode cX1_tell 25 = .ok (.aload_n 0, 1) := by decide +kernel
theorem eX1_tell_25 : dec cX1_tell 25 (.aload_n 0) 1 26 := ⟨dX1_tell_25, rfl⟩
theorem dX1_tell_26 : decode cX1_tell 26 = .ok (.getfield 39, 3) := by decide +kernel
theorem eX1_tell_26 : dec cX1_tell 26 (.getfield 39) 3 29 := ⟨dX1_tell_26, rfl⟩
theorem dX1_tell_29 : decode cX1_tell 29 = .ok (.iastore, 1) := by decide +kernel
theorem eX1_tell_29 : dec cX1_tell 29 .iastore 1 30 := ⟨dX1_tell_29, rfl⟩
theorem dX1_tell_30 : decode cX1_tell 30 = .ok (.aload_n 0, 1) := by decide +kernel
theorem eX1_tell_30 : dec cX1_tell 30 (.aload_n 0) 1 31 := ⟨dX1_tell_30, rfl⟩
theorem dX1_tell_31 : decode cX1_tell 31 = .ok (.getfield 25, 3) := by decide +kernel
theorem eX1_tell_31 : dec cX1_tell 31 (.getfield 25) 3 34 := ⟨dX1_tell_31, rfl⟩
theorem dX1_tell_34 : decode cX1_tell 34 = .ok (.iload_n 2, 1) := by decide +kernel
theorem eX1_tell_34 : dec cX1_tell 34 (.iload_n 2) 1 35 := ⟨dX1_tell_34, rfl⟩
theorem dX1_tell_35 : decode cX1_tell 35 = .ok (.iconst 2, 1) := by decide +kernel
theorem eX1_tell_35 : dec cX1_tell 35 (.iconst 2) 1 36 := ⟨dX1_tell_35, rfl⟩
theorem dX1_tell_36 : decode cX1_tell 36 = .ok (.iadd, 1) := by decide +kernel
theorem eX1_tell_36 : dec cX1_tell 36 .iadd 1 37 := ⟨dX1_tell_36, rfl⟩
theorem dX1_tell_37 : decode cX1_tell 37 = .ok (.iconst (-1), 1) := by decide +kernel
theorem eX1_tell_37 : dec cX1_tell 37 (.iconst (-1)) 1 38 := ⟨dX1_tell_37, rfl⟩
theorem dX1_tell_38 : decode cX1_tell 38 = .ok (.iastore, 1) := by decide +kernel
theorem eX1_tell_38 : dec cX1_tell 38 .iastore 1 39 := ⟨dX1_tell_38, rfl⟩
theorem dX1_tell_39 : decode cX1_tell 39 = .ok (.aload_n 0, 1) := by decide +kernel
theorem eX1_tell_39 : dec cX1_tell 39 (.aload_n 0) 1 40 := ⟨dX1_tell_39, rfl⟩
theorem dX1_tell_40 : decode cX1_tell 40 = .ok (.getfield 25, 3) := by decide +kernel
theorem eX1_tell_40 : dec cX1_tell 40 (.getfield 25) 3 43 := ⟨dX1_tell_40, rfl⟩
theorem dX1_tell_43 : decode cX1_tell 43 = .ok (.iload_n 2, 1) := by decide +kernel
theorem eX1_tell_43 : dec cX1_tell 43 (.iload_n 2) 1 44 := ⟨dX1_tell_43, rfl⟩
theorem dX1_tell_44 : decode cX1_tell 44 = .ok (.iconst 3, 1) := by decide +kernel
theorem eX1_tell_44 : dec cX1_tell 44 (.iconst 3) 1 45 := ⟨dX1_tell_44, rfl⟩
theorem dX1_tell_45 : decode cX1_tell 45 = .ok (.iadd, 1) := by decide +kernel
theorem eX1_tell_45 : dec cX1_tell 45 .iadd 1 46 := ⟨dX1_tell_45, rfl⟩
theorem dX1_tell_46 : decode cX1_tell 46 = .ok (.iconst (-1), 1) := by decide +kernel
theorem eX1_tell_46 : dec cX1_tell 46 (.iconst (-1)) 1 47 := ⟨dX1_tell_46, rfl⟩
theorem dX1_tell_47 : decode cX1_tell 47 = .ok (.iastore, 1) := by decide +kernel
theorem eX1_tell_47 : dec cX1_tell 47 .iastore 1 48 := ⟨dX1_tell_47, rfl⟩
theorem dX1_tell_48 : decode cX1_tell 48 = .ok (.aload_n 0, 1) := by decide +kernel
theorem eX1_tell_48 : dec cX1_tell 48 (.aload_n 0) 1 49 := ⟨dX1_tell_48, rfl⟩
theorem dX1_tell_49 : decode cX1_tell 49 = .ok (.getfield 25, 3) := by decide +kernel
theorem eX1_tell_49 : dec cX1_tell 49 (.getfield 25) 3 52 := ⟨dX1_tell_49, rfl⟩
theorem dX1_tell_52 : decode cX1_tell 52 = .ok (.iload_n 2, 1) := by decide +kernel
theorem eX1_tell_52 : dec cX1_tell 52 (.iload_n 2) 1 53 := ⟨dX1_tell_52, rfl⟩
theorem dX1_tell_53 : decode cX1_tell 53 = .ok (.iconst 4, 1) := by decide +kernel
theorem eX1_tell_53 : dec cX1_tell 53 (.iconst 4) 1 54 := ⟨dX1_tell_53, rfl⟩
theorem dX1_tell_54 : decode cX1_tell 54 = .ok (.iadd, 1) := by decide +kernel
theorem eX1_tell_54 : dec cX1_tell 54 .iadd 1 55 := ⟨dX1_tell_54, rfl⟩
theorem dX1_tell_55 : decode cX1_tell 55 = .ok (.iconst 0, 1) := by decide +kernel
theorem eX1_tell_55 : dec cX1_tell 55 (.iconst 0) 1 56 := ⟨dX1_tell_55, rfl⟩
theorem dX1_tell_56 : decode cX1_tell 56 = .ok (.iastore, 1) := by decide +kernel
theorem eX1_tell_56 : dec cX1_tell 56 .iastore 1 57 := ⟨dX1_tell_56, rfl⟩
theorem dX1_tell_57 : decode cX1_tell 57 = .ok (.aload_n 0, 1) := by decide +kernel
theorem eX1_tell_57 : dec cX1_tell 57 (.aload_n 0) 1 58 := ⟨dX1_tell_57, rfl⟩
theorem dX1_tell_58 : decode cX1_tell 58 = .ok (.getfield 25, 3) := by decide +kernel
theorem eX1_tell_58 : dec cX1_tell 58 (.getfield 25) 3 61 := ⟨dX1_tell_58, rfl⟩
theorem dX1_tell_61 : decode cX1_tell 61 = .ok (.iload_n 2, 1) := by decide +kernel
theorem eX1_tell_61 : dec cX1_tell 61 (.iload_n 2) 1 62 := ⟨dX1_tell_61, rfl⟩
theorem dX1_tell_62 : decode cX1_tell 62 = .ok (.iconst 5, 1) := by decide +kernel
theorem eX1_tell_62 : dec cX1_tell 62 (.iconst 5) 1 63 := ⟨dX1_tell_62, rfl⟩
theorem dX1_tell_63 : decode cX1_tell 63 = .ok (.iadd, 1) := by decide +kernel
theorem eX1_tell_63 : dec cX1_tell 63 .iadd 1 64 := ⟨dX1_tell_63, rfl⟩
theorem dX1_tell_64 : decode cX1_tell 64 = .ok (.iconst 0, 1) := by decide +kernel
theorem eX1_tell_64 : dec cX1_tell 64 (.iconst 0) 1 65 := ⟨dX1_tell_64, rfl⟩
theorem dX1_tell_65 : decode cX1_tell 65 = .ok (.iastore, 1) := by decide +kernel
theorem eX1_tell_65 : dec cX1_tell 65 .iastore 1 66 := ⟨dX1_tell_65, rfl⟩
theorem dX1_tell_66 : decode cX1_tell 66 = .ok (.aload_n 0, 1) := by decide +kernel
theorem eX1_tell_66 : dec cX1_tell 66 (.aload_n 0) 1 67 := ⟨dX1_tell_66, rfl⟩
theorem dX1_tell_67 : decode cX1_tell 67 = .ok (.getfield 25, 3) := by decide +kernel
theorem eX1_tell_67 : dec cX1_tell 67 (.getfield 25) 3 70 := ⟨dX1_tell_67, rfl⟩
theorem dX1_tell_70 : decode cX1_tell 70 = .ok (.iload_n 2, 1) := by decide +kernel
theorem eX1_tell_70 : dec cX1_tell 70 (.iload_n 2) 1 71 := ⟨dX1_tell_70, rfl⟩
theorem dX1_tell_71 : decode cX1_tell 71 = .ok (.bipush 6, 2) := by decide +kernel
theorem eX1_tell_71 : dec cX1_tell 71 (.bipush 6) 2 73 := ⟨dX1_tell_71, rfl⟩
theorem dX1_tell_73 : decode cX1_tell 73 = .ok (.iadd, 1) := by decide +kernel
theorem eX1_tell_73 : dec cX1_tell 73 .iadd 1 74 := ⟨dX1_tell_73, rfl⟩
theorem dX1_tell_74 : decode cX1_tell 74 = .ok (.iconst 0, 1) := by decide +kernel
theorem eX1_tell_74 : dec cX1_tell 74 (.iconst 0) 1 75 := ⟨dX1_tell_74, rfl⟩
theorem dX1_tell_75 : decode cX1_tell 75 = .ok (.iastore, 1) := by decide +kernel
theorem eX1_tell_75 : dec cX1_tell 75 .iastore 1 76 := ⟨dX1_tell_75, rfl⟩
theorem dX1_tell_76 : decode cX1_tell 76 = .ok (.iconst 0, 1) := by decide +kernel
theorem eX1_tell_76 : dec cX1_tell 76 (.iconst 0) 1 77 := ⟨dX1_tell_76, rfl⟩
theorem dX1_tell_77 : decode cX1_tell 77 = .ok (.istore_n 3, 1) := by decide +kernel
theorem eX1_tell_77 : dec cX1_tell 77 (.istore_n 3) 1 78 := ⟨dX1_tell_77, rfl⟩
theorem dX1_tell_78 : decode cX1_tell 78 = .ok (.iload_n 3, 1) := by decide +kernel
theorem eX1_tell_78 : dec cX1_tell 78 (.iload_n 3) 1 79 := ⟨dX1_tell_78, rfl⟩
theorem dX1_tell_79 : decode cX1_tell 79 = .ok (.aload_n 0, 1) := by decide +kernel
theorem eX1_tell_79 : dec cX1_tell 79 (.aload_n 0) 1 80 := ⟨dX1_tell_79, rfl⟩
theorem dX1_tell_80 : decode cX1_tell 80 = .ok (.getfield 42, 3) := by decide +kernel
theorem eX1_tell_80 : dec cX1_tell 80 (.getfield 42) 3 83 := ⟨dX1_tell_80, rfl⟩
theorem dX1_tell_83 : decode cX1_tell 83 = .ok (.if_icmp .ge 227, 3) := by decide +kernel
theorem eX1_tell_83 : dec cX1_tell 83 (.if_icmp .ge 227) 3 86 := ⟨dX1_tell_83, rfl⟩
theorem dX1_tell_86 : decode cX1_tell 86 = .ok (.aload_n 0, 1) := by decide +kernel
theorem eX1_tell_86 : dec cX1_tell 86 (.aload_n 0) 1 87 := ⟨dX1_tell_86, rfl⟩
theorem dX1_tell_87 : decode cX1_tell 87 = .ok (.getfield 13, 3) := by decide +kernel
theorem eX1_tell_87 : dec cX1_tell 87 (.getfield 13) 3 90 := ⟨dX1_tell_87, rfl⟩
theorem dX1_tell_90 : decode cX1_tell 90 = .ok (.iload_n 3, 1) := by decide +kernel
theorem eX1_tell_90 : dec cX1_tell 90 (.iload_n 3) 1 91 := ⟨dX1_tell_90, rfl⟩
theorem dX1_tell_91 : decode cX1_tell 91 = .ok (.iaload, 1) := by decide +kernel
theorem eX1_tell_91 : dec cX1_tell 91 .iaload 1 92 := ⟨dX1_tell_91, rfl⟩
theorem dX1_tell_92 : decode cX1_tell 92 = .ok (.iconst 1, 1) := by decide +kernel
theorem eX1_tell_92 : dec cX1_tell 92 (.iconst 1) 1 93 := ⟨dX1_tell_92, rfl⟩
theorem dX1_tell_93 : decode cX1_tell 93 = .ok (.if_icmp .ne 211, 3) := by decide +kernel
theorem eX1_tell_93 : dec cX1_tell 93 (.if_icmp .ne 211) 3 96 := ⟨dX1_tell_93, rfl⟩
theorem dX1_tell_96 : decode cX1_tell 96 = .ok (.aload_n 0, 1) := by decide +kernel
theorem eX1_tell_96 : dec cX1_tell 96 (.aload_n 0) 1 97 := ⟨dX1_tell_96, rfl⟩
theorem dX1_tell_97 : decode cX1_tell 97 = .ok (.getfield 19, 3) := by decide +kernel
theorem eX1_tell_97 : dec cX1_tell 97 (.getfield 19) 3 100 := ⟨dX1_tell_97, rfl⟩
theorem dX1_tell_100 : decode cX1_tell 100 = .ok (.iload_n 3, 1) := by decide +kernel
theorem eX1_tell_100 : dec cX1_tell 100 (.iload_n 3) 1 101 := ⟨dX1_tell_100, rfl⟩
theorem dX1_tell_101 : decode cX1_tell 101 = .ok (.iaload, 1) := by decide +kernel
theorem eX1_tell_101 : dec cX1_tell 101 .iaload 1 102 := ⟨dX1_tell_101, rfl⟩
theorem dX1_tell_102 : decode cX1_tell 102 = .ok (.iload_n 1, 1) := by decide +kernel
theorem eX1_tell_102 : dec cX1_tell 102 (.iload_n 1) 1 103 := ⟨dX1_tell_102, rfl⟩
theorem dX1_tell_103 : decode cX1_tell 103 = .ok (.if_icmp .ne 201, 3) := by decide +kernel
theorem eX1_tell_103 : dec cX1_tell 103 (.if_icmp .ne 201) 3 106 := ⟨dX1_tell_103, rfl⟩
theorem dX1_tell_106 : decode cX1_tell 106 = .ok (.iload_n 3, 1) := by decide +kernel
theorem eX1_tell_106 : dec cX1_tell 106 (.iload_n 3) 1 107 := ⟨dX1_tell_106, rfl⟩
theorem dX1_tell_107 : decode cX1_tell 107 = .ok (.aload_n 0, 1) := by decide +kernel
theorem eX1_tell_107 : dec cX1_tell 107 (.aload_n 0) 1 108 := ⟨dX1_tell_107, rfl⟩
theorem dX1_tell_108 : decode cX1_tell 108 = .ok (.getfield 35, 3) := by decide +kernel
theorem eX1_tell_108 : dec cX1_tell 108 (.getfield 35) 3 111 := ⟨dX1_tell_108, rfl⟩
theorem dX1_tell_111 : decode cX1_tell 111 = .ok (.irem, 1) := by decide +kernel
theorem eX1_tell_111 : dec cX1_tell 111 .irem 1 112 := ⟨dX1_tell_111, rfl⟩
theorem dX1_tell_112 : decode cX1_tell 112 = .ok (.istore 4, 2) := by decide +kernel
theorem eX1_tell_112 : dec cX1_tell 112 (.istore 4) 2 114 := ⟨dX1_tell_112, rfl⟩
theorem dX1_tell_114 : decode cX1_tell 114 = .ok (.iload_n 3, 1) := by decide +kernel
theorem eX1_tell_114 : dec cX1_tell 114 (.iload_n 3) 1 115 := ⟨dX1_tell_114, rfl⟩
theorem dX1_tell_115 : decode cX1_tell 115 = .ok (.aload_n 0, 1) := by decide +kernel
theorem eX1_tell_115 : dec cX1_tell 115 (.aload_n 0) 1 116 := ⟨dX1_tell_115, rfl⟩
theorem dX1_tell_116 : decode cX1_tell 116 = .ok (.getfield 35, 3) := by decide +kernel
theorem eX1_tell_116 : dec cX1_tell 116 (.getfield 35) 3 119 := ⟨dX1_tell_116, rfl⟩
theorem dX1_tell_119 : decode cX1_tell 119 = .ok (.idiv, 1) := by decide +kernel
theorem eX1_tell_119 : dec cX1_tell 119 .idiv 1 120 := ⟨dX1_tell_119, rfl⟩
theorem dX1_tell_120 : decode cX1_tell 120 = .ok (.istore 5, 2) := by decide +kernel
theorem eX1_tell_120 : dec cX1_tell 120 (.istore 5) 2 122 := ⟨dX1_tell_120, rfl⟩
theorem dX1_tell_122 : decode cX1_tell 122 = .ok (.aload_n 0, 1) := by decide +kernel
theorem eX1_tell_122 : dec cX1_tell 122 (.aload_n 0) 1 123 := ⟨dX1_tell_122, rfl⟩
theorem dX1_tell_123 : decode cX1_tell 123 = .ok (.getfield 25, 3) := by decide +kernel
theorem eX1_tell_123 : dec cX1_tell 123 (.getfield 25) 3 126 := ⟨dX1_tell_123, rfl⟩
theorem dX1_tell_126 : decode cX1_tell 126 = .ok (.iload_n 2, 1) := by decide +kernel
theorem eX1_tell_126 : dec cX1_tell 126 (.iload_n 2) 1 127 := ⟨dX1_tell_126, rfl⟩
theorem dX1_tell_127 : decode cX1_tell 127 = .ok (.iload 4, 2) := by decide +kernel
theorem eX1_tell_127 : dec cX1_tell 127 (.iload 4) 2 129 := ⟨dX1_tell_127, rfl⟩
theorem dX1_tell_129 : decode cX1_tell 129 = .ok (.aload_n 0, 1) := by decide +kernel
theorem eX1_tell_129 : dec cX1_tell 129 (.aload_n 0) 1 130 := ⟨dX1_tell_129, rfl⟩
theorem dX1_tell_130 : decode cX1_tell 130 = .ok (.getfield 25, 3) := by decide +kernel
theorem eX1_tell_130 : dec cX1_tell 130 (.getfield 25) 3 133 := ⟨dX1_tell_130, rfl⟩
theorem dX1_tell_133 : decode cX1_tell 133 = .ok (.iload_n 2, 1) := by decide +kernel
theorem eX1_tell_133 : dec cX1_tell 133 (.iload_n 2) 1 134 := ⟨dX1_tell_133, rfl⟩
theorem dX1_tell_134 : decode cX1_tell 134 = .ok (.iaload, 1) := by decide +kernel
theorem eX1_tell_134 : dec cX1_tell 134 .iaload 1 135 := ⟨dX1_tell_134, rfl⟩
theorem dX1_tell_135 : decode cX1_tell 135 = .ok (.if_icmp .ge 8, 3) := by decide +kernel
theorem eX1_tell_135 : dec cX1_tell 135 (.if_icmp .ge 8) 3 138 := ⟨dX1_tell_135, rfl⟩
theorem dX1_tell_138 : decode cX1_tell 138 = .ok (.iload 4, 2) := by decide +kernel
theorem eX1_tell_138 : dec cX1_tell 138 (.iload 4) 2 140 := ⟨dX1_tell_138, rfl⟩
theorem dX1_tell_140 : decode cX1_tell 140 = .ok (.goto 9, 3) := by decide +kernel
theorem eX1_tell_140 : dec cX1_tell 140 (.goto 9) 3 143 := ⟨dX1_tell_140, rfl⟩
theorem dX1_tell_143 : decode cX1_tell 143 = .ok (.aload_n 0, 1) := by decide +kernel
theorem eX1_tell_143 : dec cX1_tell 143 (.aload_n 0) 1 144 := ⟨dX1_tell_143, rfl⟩
theorem dX1_tell_144 : decode cX1_tell 144 = .ok (.getfield 25, 3) := by decide +kernel
theorem eX1_tell_144 : dec cX1_tell 144 (.getfield 25) 3 147 := ⟨dX1_tell_144, rfl⟩
theorem dX1_tell_147 : decode cX1_tell 147 = .ok (.iload_n 2, 1) := by decide +kernel
theorem eX1_tell_147 : dec cX1_tell 147 (.iload_n 2) 1 148 := ⟨dX1_tell_147, rfl⟩
theorem dX1_tell_148 : decode cX1_tell 148 = .ok (.iaload, 1) := by decide +kernel
theorem eX1_tell_148 : dec cX1_tell 148 .iaload 1 149 := ⟨dX1_tell_148, rfl⟩
theorem dX1_tell_149 : decode cX1_tell 149 = .ok (.iastore, 1) := by decide +kernel
theorem eX1_tell_149 : dec cX1_tell 149 .iastore 1 150 := ⟨dX1_tell_149, rfl⟩
theorem dX1_tell_150 : decode cX1_tell 150 = .ok (.aload_n 0, 1) := by decide +kernel
theorem eX1_tell_150 : dec cX1_tell 150 (.aload_n 0) 1 151 := ⟨dX1_tell_150, rfl⟩
theorem dX1_tell_151 : decode cX1_tell 151 = .ok (.getfield 25, 3) := by decide +kernel
theorem eX1_tell_151 : dec cX1_tell 151 (.getfield 25) 3 154 := ⟨dX1_tell_151, rfl⟩
theorem dX1_tell_154 : decode cX1_tell 154 = .ok (.iload_n 2, 1) := by decide +kernel
theorem eX1_tell_154 : dec cX1_tell 154 (.iload_n 2) 1 155 := ⟨dX1_tell_154, rfl⟩
theorem dX1_tell_155 : decode cX1_tell 155 = .ok (.iconst 1, 1) := by decide +kernel
theorem eX1_tell_155 : dec cX1_tell 155 (.iconst 1) 1 156 := ⟨dX1_tell_155, rfl⟩
theorem dX1_tell_156 : decode cX1_tell 156 = .ok (.iadd, 1) := by decide +kernel
theorem eX1_tell_156 : dec cX1_tell 156 .iadd 1 157 := ⟨dX1_tell_156, rfl⟩
theorem dX1_tell_157 : decode cX1_tell 157 = .ok (.iload 5, 2) := by decide +kernel
theorem eX1_tell_157 : dec cX1_tell 157 (.iload 5) 2 159 := ⟨dX1_tell_157, rfl⟩
theorem dX1_tell_159 : decode cX1_tell 159 = .ok (.aload_n 0, 1) := by decide +kernel
theorem eX1_tell_159 : dec cX1_tell 159 (.aload_n 0) 1 160 := ⟨dX1_tell_159, rfl⟩
theorem dX1_tell_160 : decode cX1_tell 160 = .ok (.getfield 25, 3) := by decide +kernel
theorem eX1_tell_160 : dec cX1_tell 160 (.getfield 25) 3 163 := ⟨dX1_tell_160, rfl⟩
theorem dX1_tell_163 : decode cX1_tell 163 = .ok (.iload_n 2, 1) := by decide +kernel
theorem eX1_tell_163 : dec cX1_tell 163 (.iload_n 2) 1 164 := ⟨dX1_tell_163, rfl⟩
theorem dX1_tell_164 : decode cX1_tell 164 = .ok (.iconst 1, 1) := by decide +kernel
theorem eX1_tell_164 : dec cX1_tell 164 (.iconst 1) 1 165 := ⟨dX1_tell_164, rfl⟩
theorem dX1_tell_165 : decode cX1_tell 165 = .ok (.iadd, 1) := by decide +kernel
theorem eX1_tell_165 : dec cX1_tell 165 .iadd 1 166 := ⟨dX1_tell_165, rfl⟩
theorem dX1_tell_166 : decode cX1_tell 166 = .ok (.iaload, 1) := by decide +kernel
theorem eX1_tell_166 : dec cX1_tell 166 .iaload 1 167 := ⟨dX1_tell_166, rfl⟩
theorem dX1_tell_167 : decode cX1_tell 167 = .ok (.if_icmp .ge 8, 3) := by decide +kernel
theorem eX1_tell_167 : dec cX1_tell 167 (.if_icmp .ge 8) 3 170 := ⟨dX1_tell_167, rfl⟩
theorem dX1_tell_170 : decode cX1_tell 170 = .ok (.iload 5, 2) := by decide +kernel
theorem eX1_tell_170 : dec cX1_tell 170 (.iload 5) 2 172 := ⟨dX1_tell_170, rfl⟩
theorem dX1_tell_172 : decode cX1_tell 172 = .ok (.goto 11, 3) := by decide +kernel
theorem eX1_tell_172 : dec cX1_tell 172 (.goto 11) 3 175 := ⟨dX1_tell_172, rfl⟩
theorem dX1_tell_175 : decode cX1_tell 175 = .ok (.aload_n 0, 1) := by decide +kernel
theorem eX1_tell_175 : dec cX1_tell 175 (.aload_n 0) 1 176 := ⟨dX1_tell_175, rfl⟩
theorem dX1_tell_176 : decode cX1_tell 176 = .ok (.getfield 25, 3) := by decide +kernel
theorem eX1_tell_176 : dec cX1_tell 176 (.getfield 25) 3 179 := ⟨dX1_tell_176, rfl⟩
theorem dX1_tell_179 : decode cX1_tell 179 = .ok (.iload_n 2, 1) := by decide +kernel
theorem eX1_tell_179 : dec cX1_tell 179 (.iload_n 2) 1 180 := ⟨dX1_tell_179, rfl⟩
theorem dX1_tell_180 : decode cX1_tell 180 = .ok (.iconst 1, 1) := by decide +kernel
theorem eX1_tell_180 : dec cX1_tell 180 (.iconst 1) 1 181 := ⟨dX1_tell_180, rfl⟩
theorem dX1_tell_181 : decode cX1_tell 181 = .ok (.iadd, 1) := by decide +kernel
theorem eX1_tell_181 : dec cX1_tell 181 .iadd 1 182 := ⟨dX1_tell_181, rfl⟩
theorem dX1_tell_182 : decode cX1_tell 182 = .ok (.iaload, 1) := by decide +kernel
theorem eX1_tell_182 : dec cX1_tell 182 .iaload 1 183 := ⟨dX1_tell_182, rfl⟩
theorem dX1_tell_183 : decode cX1_tell 183 = .ok (.iastore, 1) := by decide +kernel
theorem eX1_tell_183 : dec cX1_tell 183 .iastore 1 184 := ⟨dX1_tell_183, rfl⟩
theorem dX1_tell_184 : decode cX1_tell 184 = .ok (.aload_n 0, 1) := by decide +kernel
theorem eX1_tell_184 : dec cX1_tell 184 (.aload_n 0) 1 185 := ⟨dX1_tell_184, rfl⟩
theorem dX1_tell_185 : decode cX1_tell 185 = .ok (.getfield 25, 3) := by decide +kernel
theorem eX1_tell_185 : dec cX1_tell 185 (.getfield 25) 3 188 := ⟨dX1_tell_185, rfl⟩
theorem dX1_tell_188 : decode cX1_tell 188 = .ok (.iload_n 2, 1) := by decide +kernel
theorem eX1_tell_188 : dec cX1_tell 188 (.iload_n 2) 1 189 := ⟨dX1_tell_188, rfl⟩
theorem dX1_tell_189 : decode cX1_tell 189 = .ok (.iconst 2, 1) := by decide +kernel
theorem eX1_tell_189 : dec cX1_tell 189 (.iconst 2) 1 190 := ⟨dX1_tell_189, rfl⟩
theorem dX1_tell_190 : decode cX1_tell 190 = .ok (.iadd, 1) := by decide +kernel
theorem eX1_tell_190 : dec cX1_tell 190 .iadd 1 191 := ⟨dX1_tell_190, rfl⟩
theorem dX1_tell_191 : decode cX1_tell 191 = .ok (.iload 4, 2) := by decide +kernel
theorem eX1_tell_191 : dec cX1_tell 191 (.iload 4) 2 193 := ⟨dX1_tell_191, rfl⟩
theorem dX1_tell_193 : decode cX1_tell 193 = .ok (.aload_n 0, 1) := by decide +kernel
theorem eX1_tell_193 : dec cX1_tell 193 (.aload_n 0) 1 194 := ⟨dX1_tell_193, rfl⟩
theorem dX1_tell_194 : decode cX1_tell 194 = .ok (.getfield 25, 3) := by decide +kernel
theorem eX1_tell_194 : dec cX1_tell 194 (.getfield 25) 3 197 := ⟨dX1_tell_194, rfl⟩
theorem dX1_tell_197 : decode cX1_tell 197 = .ok (.iload_n 2, 1) := by decide +kernel
theorem eX1_tell_197 : dec cX1_tell 197 (.iload_n 2) 1 198 := ⟨dX1_tell_197, rfl⟩
theorem dX1_tell_198 : decode cX1_tell 198 = .ok (.iconst 2, 1) := by decide +kernel
theorem eX1_tell_198 : dec cX1_tell 198 (.iconst 2) 1 199 := ⟨dX1_tell_198, rfl⟩
theorem dX1_tell_199 : decode cX1_tell 199 = .ok (.iadd, 1) := by decide +kernel
theorem eX1_tell_199 : dec cX1_tell 199 .iadd 1 200 := ⟨dX1_tell_199, rfl⟩
theorem dX1_tell_200 : decode cX1_tell 200 = .ok (.iaload, 1) := by decide +kernel
theorem eX1_tell_200 : dec cX1_tell 200 .iaload 1 201 := ⟨dX1_tell_200, rfl⟩
theorem dX1_tell_201 : decode cX1_tell 201 = .ok (.if_icmp .le 8, 3) := by decide +kernel
theorem eX1_tell_201 : dec cX1_tell 201 (.if_icmp .le 8) 3 204 := ⟨dX1_tell_201, rfl⟩
theorem dX1_tell_204 : decode cX1_tell 204 = .ok (.iload 4, 2) := by decide +kernel
theorem eX1_tell_204 : dec cX1_tell 204 (.iload 4) 2 206 := ⟨dX1_tell_204, rfl⟩
theorem dX1_tell_206 : decode cX1_tell 206 = .ok (.goto 11, 3) := by decide +kernel
theorem eX1_tell_206 : dec cX1_tell 206 (.goto 11) 3 209 := ⟨dX1_tell_206, rfl⟩
theorem dX1_tell_209 : decode cX1_tell 209 = .ok (.aload_n 0, 1) := by decide +kernel
theorem eX1_tell_209 : dec cX1_tell 209 (.aload_n 0) 1 210 := ⟨dX1_tell_209, rfl⟩
theorem dX1_tell_210 : decode cX1_tell 210 = .ok (.getfield 25, 3) := by decide +kernel
theorem eX1_tell_210 : dec cX1_tell 210 (.getfield 25) 3 213 := ⟨dX1_tell_210, rfl⟩
theorem dX1_tell_213 : decode cX1_tell 213 = .ok (.iload_n 2, 1) := by decide +kernel
theorem eX1_tell_213 : dec cX1_tell 213 (.iload_n 2) 1 214 := ⟨dX1_tell_213, rfl⟩
theorem dX1_tell_214 : decode cX1_tell 214 = .ok (.iconst 2, 1) := by decide +kernel
theorem eX1_tell_214 : dec cX1_tell 214 (.iconst 2) 1 215 := ⟨dX1_tell_214, rfl⟩
theorem dX1_tell_215 : decode cX1_tell 215 = .ok (.iadd, 1) := by decide +kernel
theorem eX1_tell_215 : dec cX1_tell 215 .iadd 1 216 := ⟨dX1_tell_215, rfl⟩
theorem dX1_tell_216 : decode cX1_tell 216 = .ok (.iaload, 1) := by decide +kernel
theorem eX1_tell_216 : dec cX1_tell 216 .iaload 1 217 := ⟨dX1_tell_216, rfl⟩
theorem dX1_tell_217 : decode cX1_tell 217 = .ok (.iastore, 1) := by decide +kernel
theorem eX1_tell_217 : dec cX1_tell 217 .iastore 1 218 := ⟨dX1_tell_217, rfl⟩
theorem dX1_tell_218 : decode cX1_tell 218 = .ok (.aload_n 0, 1) := by decide +kernel
theorem eX1_tell_218 : dec cX1_tell 218 (.aload_n 0) 1 219 := ⟨dX1_tell_218, rfl⟩
theorem dX1_tell_219 : decode cX1_tell 219 = .ok (.getfield 25, 3) := by decide +kernel
theorem eX1_tell_219 : dec cX1_tell 219 (.getfield 25) 3 222 := ⟨dX1_tell_219, rfl⟩
theorem dX1_tell_222 : decode cX1_tell 222 = .ok (.iload_n 2, 1) := by decide +kernel
theorem eX1_tell_222 : dec cX1_tell 222 (.iload_n 2) 1 223 := ⟨dX1_tell_222, rfl⟩
theorem dX1_tell_223 : decode cX1_tell 223 = .ok (.iconst 3, 1) := by decide +kernel
theorem eX1_tell_223 : dec cX1_tell 223 (.iconst 3) 1 224 := ⟨dX1_tell_223, rfl⟩
theorem dX1_tell_224 : decode cX1_tell 224 = .ok (.iadd, 1) := by decide +kernel
theorem eX1_tell_224 : dec cX1_tell 224 .iadd 1 225 := ⟨dX1_tell_224, rfl⟩
theorem dX1_tell_225 : decode cX1_tell 225 = .ok (.iload 5, 2) := by decide +kernel
theorem eX1_tell_225 : dec cX1_tell 225 (.iload 5) 2 227 := ⟨dX1_tell_225, rfl⟩
theorem dX1_tell_227 : decode cX1_tell 227 = .ok (.aload_n 0, 1) := by decide +kernel
theorem eX1_tell_227 : dec cX1_tell 227 (.aload_n 0) 1 228 := ⟨dX1_tell_227, rfl⟩
theorem dX1_tell_228 : decode cX1_tell 228 = .ok (.getfield 25, 3) := by decide +kernel
theorem eX1_tell_228 : dec cX1_tell 228 (.getfield 25) 3 231 := ⟨dX1_tell_228, rfl⟩
theorem dX1_tell_231 : decode cX1_tell 231 = .ok (.iload_n 2, 1) := by decide +kernel
theorem eX1_tell_231 : dec cX1_tell 231 (.iload_n 2) 1 232 := ⟨dX1_tell_231, rfl⟩
theorem dX1_tell_232 : decode cX1_tell 232 = .ok (.iconst 3, 1) := by decide +kernel
theorem eX1_tell_232 : dec cX1_tell 232 (.iconst 3) 1 233 := ⟨dX1_tell_232, rfl⟩
theorem dX1_tell_233 : decode cX1_tell 233 = .ok (.iadd, 1) := by decide +kernel
theorem eX1_tell_233 : dec cX1_tell 233 .iadd 1 234 := ⟨dX1_tell_233, rfl⟩
theorem dX1_tell_234 : decode cX1_tell 234 = .ok (.iaload, 1) := by decide +kernel
theorem eX1_tell_234 : dec cX1_tell 234 .iaload 1 235 := ⟨dX1_tell_234, rfl⟩
theorem dX1_tell_235 : decode cX1_tell 235 = .ok (.if_icmp .le 8, 3) := by decide +kernel
theorem eX1_tell_235 : dec cX1_tell 235 (.if_icmp .le 8) 3 238 := ⟨dX1_tell_235, rfl⟩
theorem dX1_tell_238 : decode cX1_tell 238 = .ok (.iload 5, 2) := by decide +kernel
theorem eX1_tell_238 : dec cX1_tell 238 (.iload 5) 2 240 := ⟨dX1_tell_238, rfl⟩
theorem dX1_tell_240 : decode cX1_tell 240 = .ok (.goto 11, 3) := by decide +kernel
theorem eX1_tell_240 : dec cX1_tell 240 (.goto 11) 3 243 := ⟨dX1_tell_240, rfl⟩
theorem dX1_tell_243 : decode cX1_tell 243 = .ok (.aload_n 0, 1) := by decide +kernel
theorem eX1_tell_243 : dec cX1_tell 243 (.aload_n 0) 1 244 := ⟨dX1_tell_243, rfl⟩
theorem dX1_tell_244 : decode cX1_tell 244 = .ok (.getfield 25, 3) := by decide +kernel
theorem eX1_tell_244 : dec cX1_tell 244 (.getfield 25) 3 247 := ⟨dX1_tell_244, rfl⟩
theorem dX1_tell_247 : decode cX1_tell 247 = .ok (.iload_n 2, 1) := by decide +kernel
theorem eX1_tell_247 : dec cX1_tell 247 (.iload_n 2) 1 248 := ⟨dX1_tell_247, rfl⟩
theorem dX1_tell_248 : decode cX1_tell 248 = .ok (.iconst 3, 1) := by decide +kernel
theorem eX1_tell_248 : dec cX1_tell 248 (.iconst 3) 1 249 := ⟨dX1_tell_248, rfl⟩
theorem dX1_tell_249 : decode cX1_tell 249 = .ok (.iadd, 1) := by decide +kernel
theorem eX1_tell_249 : dec cX1_tell 249 .iadd 1 250 := ⟨dX1_tell_249, rfl⟩
theorem dX1_tell_250 : decode cX1_tell 250 = .ok (.iaload, 1) := by decide +kernel
theorem eX1_tell_250 : dec cX1_tell 250 .iaload 1 251 := ⟨dX1_tell_250, rfl⟩
theorem dX1_tell_251 : decode cX1_tell 251 = .ok (.iastore, 1) := by decide +kernel
theorem eX1_tell_251 : dec cX1_tell 251 .iastore 1 252 := ⟨dX1_tell_251, rfl⟩
theorem dX1_tell_252 : decode cX1_tell 252 = .ok (.aload_n 0, 1) := by decide +kernel
theorem eX1_tell_252 : dec cX1_tell 252 (.aload_n 0) 1 253 := ⟨dX1_tell_252, rfl⟩
theorem dX1_tell_253 : decode cX1_tell 253 = .ok (.getfield 25, 3) := by decide +kernel
theorem eX1_tell_253 : dec cX1_tell 253 (.getfield 25) 3 256 := ⟨dX1_tell_253, rfl⟩
theorem dX1_tell_256 : decode cX1_tell 256 = .ok (.iload_n 2, 1) := by decide +kernel
theorem eX1_tell_256 : dec cX1_tell 256 (.iload_n 2) 1 257 := ⟨dX1_tell_256, rfl⟩
theorem dX1_tell_257 : decode cX1_tell 257 = .ok (.iconst 4, 1) := by decide +kernel
theorem eX1_tell_257 : dec cX1_tell 257 (.iconst 4) 1 258 := ⟨dX1_tell_257, rfl⟩
theorem dX1_tell_258 : decode cX1_tell 258 = .ok (.iadd, 1) := by decide +kernel
theorem eX1_tell_258 : dec cX1_tell 258 .iadd 1 259 := ⟨dX1_tell_258, rfl⟩
theorem dX1_tell_259 : decode cX1_tell 259 = .ok (.dup2, 1) := by decide +kernel
theorem eX1_tell_259 : dec cX1_tell 259 .dup2 1 260 := ⟨dX1_tell_259, rfl⟩
theorem dX1_tell_260 : decode cX1_tell 260 = .ok (.iaload, 1) := by decide +kernel
theorem eX1_tell_260 : dec cX1_tell 260 .iaload 1 261 := ⟨dX1_tell_260, rfl⟩
theorem dX1_tell_261 : decode cX1_tell 261 = .ok (.iconst 1, 1) := by decide +kernel
theorem eX1_tell_261 : dec cX1_tell 261 (.iconst 1) 1 262 := ⟨dX1_tell_261, rfl⟩
theorem dX1_tell_262 : decode cX1_tell 262 = .ok (.iadd, 1) := by decide +kernel
theorem eX1_tell_262 : dec cX1_tell 262 .iadd 1 263 := ⟨dX1_tell_262, rfl⟩
theorem dX1_tell_263 : decode cX1_tell 263 = .ok (.iastore, 1) := by decide +kernel
theorem eX1_tell_263 : dec cX1_tell 263 .iastore 1 264 := ⟨dX1_tell_263, rfl⟩
theorem dX1_tell_264 : decode cX1_tell 264 = .ok (.aload_n 0, 1) := by decide +kernel
theorem eX1_tell_264 : dec cX1_tell 264 (.aload_n 0) 1 265 := ⟨dX1_tell_264, rfl⟩
theorem dX1_tell_265 : decode cX1_tell 265 = .ok (.getfield 25, 3) := by decide +kernel
theorem eX1_tell_265 : dec cX1_tell 265 (.getfield 25) 3 268 := ⟨dX1_tell_265, rfl⟩
theorem dX1_tell_268 : decode cX1_tell 268 = .ok (.iload_n 2, 1) := by decide +kernel
theorem eX1_tell_268 : dec cX1_tell 268 (.iload_n 2) 1 269 := ⟨dX1_tell_268, rfl⟩
theorem dX1_tell_269 : decode cX1_tell 269 = .ok (.iconst 5, 1) := by decide +kernel
theorem eX1_tell_269 : dec cX1_tell 269 (.iconst 5) 1 270 := ⟨dX1_tell_269, rfl⟩
theorem dX1_tell_270 : decode cX1_tell 270 = .ok (.iadd, 1) := by decide +kernel
theorem eX1_tell_270 : dec cX1_tell 270 .iadd 1 271 := ⟨dX1_tell_270, rfl⟩
theorem dX1_tell_271 : decode cX1_tell 271 = .ok (.aload_n 0, 1) := by decide +kernel
theorem eX1_tell_271 : dec cX1_tell 271 (.aload_n 0) 1 272 := ⟨dX1_tell_271, rfl⟩
theorem dX1_tell_272 : decode cX1_tell 272 = .ok (.getfield 25, 3) := by decide +kernel
theorem eX1_tell_272 : dec cX1_tell 272 (.getfield 25) 3 275 := ⟨dX1_tell_272, rfl⟩
theorem dX1_tell_275 : decode cX1_tell 275 = .ok (.iload_n 2, 1) := by decide +kernel
theorem eX1_tell_275 : dec cX1_tell 275 (.iload_n 2) 1 276 := ⟨dX1_tell_275, rfl⟩
theorem dX1_tell_276 : decode cX1_tell 276 = .ok (.iconst 5, 1) := by decide +kernel
theorem eX1_tell_276 : dec cX1_tell 276 (.iconst 5) 1 277 := ⟨dX1_tell_276, rfl⟩
theorem dX1_tell_277 : decode cX1_tell 277 = .ok (.iadd, 1) := by decide +kernel
theorem eX1_tell_277 : dec cX1_tell 277 .iadd 1 278 := ⟨dX1_tell_277, rfl⟩
theorem dX1_tell_278 : decode cX1_tell 278 = .ok (.iaload, 1) := by decide +kernel
theorem eX1_tell_278 : dec cX1_tell 278 .iaload 1 279 := ⟨dX1_tell_278, rfl⟩
theorem dX1_tell_279 : decode cX1_tell 279 = .ok (.iload 4, 2) := by decide +kernel
theorem eX1_tell_279 : dec cX1_tell 279 (.iload 4) 2 281 := ⟨dX1_tell_279, rfl⟩
theorem dX1_tell_281 : decode cX1_tell 281 = .ok (.iadd, 1) := by decide +kernel
theorem eX1_tell_281 : dec cX1_tell 281 .iadd 1 282 := ⟨dX1_tell_281, rfl⟩
theorem dX1_tell_282 : decode cX1_tell 282 = .ok (.iastore, 1) := by decide +kernel
theorem eX1_tell_282 : dec cX1_tell 282 .iastore 1 283 := ⟨dX1_tell_282, rfl⟩
theorem dX1_tell_283 : decode cX1_tell 283 = .ok (.aload_n 0, 1) := by decide +kernel
theorem eX1_tell_283 : dec cX1_tell 283 (.aload_n 0) 1 284 := ⟨dX1_tell_283, rfl⟩
theorem dX1_tell_284 : decode cX1_tell 284 = .ok (.getfield 25, 3) := by decide +kernel
theorem eX1_tell_284 : dec cX1_tell 284 (.getfield 25) 3 287 := ⟨dX1_tell_284, rfl⟩
theorem dX1_tell_287 : decode cX1_tell 287 = .ok (.iload_n 2, 1) := by decide +kernel
theorem eX1_tell_287 : dec cX1_tell 287 (.iload_n 2) 1 288 := ⟨dX1_tell_287, rfl⟩
theorem dX1_tell_288 : decode cX1_tell 288 = .ok (.bipush 6, 2) := by decide +kernel
theorem eX1_tell_288 : dec cX1_tell 288 (.bipush 6) 2 290 := ⟨dX1_tell_288, rfl⟩
theorem dX1_tell_290 : decode cX1_tell 290 = .ok (.iadd, 1) := by decide +kernel
theorem eX1_tell_290 : dec cX1_tell 290 .iadd 1 291 := ⟨dX1_tell_290, rfl⟩
theorem dX1_tell_291 : decode cX1_tell 291 = .ok (.aload_n 0, 1) := by decide +kernel
theorem eX1_tell_291 : dec cX1_tell 291 (.aload_n 0) 1 292 := ⟨dX1_tell_291, rfl⟩
theorem dX1_tell_292 : decode cX1_tell 292 = .ok (.getfield 25, 3) := by decide +kernel
theorem eX1_tell_292 : dec cX1_tell 292 (.getfield 25) 3 295 := ⟨dX1_tell_292, rfl⟩
theorem dX1_tell_295 : decode cX1_tell 295 = .ok (.iload_n 2, 1) := by decide +kernel
theorem eX1_tell_295 : dec cX1_tell 295 (.iload_n 2) 1 296 := ⟨dX1_tell_295, rfl⟩
theorem dX1_tell_296 : decode cX1_tell 296 = .ok (.bipush 6, 2) := by decide +kernel
theorem eX1_tell_296 : dec cX1_tell 296 (.bipush 6) 2 298 := ⟨dX1_tell_296, rfl⟩
theorem dX1_tell_298 : decode cX1_tell 298 = .ok (.iadd, 1) := by decide +kernel
theorem eX1_tell_298 : dec cX1_tell 298 .iadd 1 299 := ⟨dX1_tell_298, rfl⟩
theorem dX1_tell_299 : decode cX1_tell 299 = .ok (.iaload, 1) := by decide +kernel
theorem eX1_tell_299 : dec cX1_tell 299 .iaload 1 300 := ⟨dX1_tell_299, rfl⟩
theorem dX1_tell_300 : decode cX1_tell 300 = .ok (.iload 5, 2) := by decide +kernel
theorem eX1_tell_300 : dec cX1_tell 300 (.iload 5) 2 302 := ⟨dX1_tell_300, rfl⟩
theorem dX1_tell_302 : decode cX1_tell 302 = .ok (.iadd, 1) := by decide +kernel
theorem eX1_tell_302 : dec cX1_tell 302 .iadd 1 303 := ⟨dX1_tell_302, rfl⟩
theorem dX1_tell_303 : decode cX1_tell 303 = .ok (.iastore, 1) := by decide +kernel
theorem eX1_tell_303 : dec cX1_tell 303 .iastore 1 304 := ⟨dX1_tell_303, rfl⟩
theorem dX1_tell_304 : decode cX1_tell 304 = .ok (.iinc 3 1, 3) := by decide +kernel
theorem eX1_tell_304 : dec cX1_tell 304 (.iinc 3 1) 3 307 := ⟨dX1_tell_304, rfl⟩
theorem dX1_tell_307 : decode cX1_tell 307 = .ok (.goto (-229), 3) := by decide +kernel
theorem eX1_tell_307 : dec cX1_tell 307 (.goto (-229)) 3 310 := ⟨dX1_tell_307, rfl⟩
theorem dX1_tell_310 : decode cX1_tell 310 = .ok (.return_, 1) := by decide +kernel
theorem eX1_tell_310 : dec cX1_tell 310 .return_ 1 311 := ⟨dX1_tell_310, rfl⟩
theorem dX1_part_0 : decode cX1_part 0 = .ok (.aload_n 0, 1) := by decide +kernel
theorem eX1_part_0 : dec cX1_part 0 (.aload_n 0) 1 1 := ⟨dX1_part_0, rfl⟩
theorem dX1_part_1 : decode cX1_part 1 = .ok (.iconst 0, 1) := by decide +kernel
theorem eX1_part_1 : dec cX1_part 1 (.iconst 0) 1 2 := ⟨dX1_part_1, rfl⟩
theorem dX1_part_2 : decode cX1_part 2 = .ok (.putfield 45, 3) := by decide +kernel
theorem eX1_part_2 : dec cX1_part 2 (.putfield 45) 3 5 := ⟨dX1_part_2, rfl⟩
theorem dX1_part_5 : decode cX1_part 5 = .ok (.iload_n 1, 1) := by decide +kernel
theorem eX1_part_5 : dec cX1_part 5 (.iload_n 1) 1 6 := ⟨dX1_part_5, rfl⟩
theorem dX1_part_6 : decode cX1_part 6 = .ok (.ifCond .lt 21, 3) := by decide +kernel
theorem eX1_part_6 : dec cX1_part 6 (.ifCond .lt 21) 3 9 := ⟨dX1_part_6, rfl⟩
theorem dX1_part_9 : decode cX1_part 9 = .ok (.iload_n 1, 1) := by decide +kernel
theorem eX1_part_9 : dec cX1_part 9 (.iload_n 1) 1 10 := ⟨dX1_part_9, rfl⟩
theorem dX1_part_10 : decode cX1_part 10 = .ok (.aload_n 0, 1) := by decide +kernel
theorem eX1_part_10 : dec cX1_part 10 (.aload_n 0) 1 11 := ⟨dX1_part_10, rfl⟩
theorem dX1_part_11 : decode cX1_part 11 = .ok (.getfield 75, 3) := by decide +kernel
theorem eX1_part_11 : dec cX1_part 11 (.getfield 75) 3 14 := ⟨dX1_part_11, rfl⟩
theorem dX1_part_14 : decode cX1_part 14 = .ok (.if_icmp .ge 13, 3) := by decide +kernel
theorem eX1_part_14 : dec cX1_part 14 (.if_icmp .ge 13) 3 17 := ⟨dX1_part_14, rfl⟩
theorem dX1_part_17 : decode cX1_part 17 = .ok (.iload_n 2, 1) := by decide +kernel
theorem eX1_part_17 : dec cX1_part 17 (.iload_n 2) 1 18 := ⟨dX1_part_17, rfl⟩
theorem dX1_part_18 : decode cX1_part 18 = .ok (.ifCond .lt 9, 3) := by decide +kernel
theorem eX1_part_18 : dec cX1_part 18 (.ifCond .lt 9) 3 21 := ⟨dX1_part_18, rfl⟩
theorem dX1_part_21 : decode cX1_part 21 = .ok (.iload_n 2, 1) := by decide +kernel
theorem eX1_part_21 : dec cX1_part 21 (.iload_n 2) 1 22 := ⟨dX1_part_21, rfl⟩
theorem dX1_part_22 : decode cX1_part 22 = .ok (.bipush 6, 2) := by decide +kernel
theorem eX1_part_22 : dec cX1_part 22 (.bipush 6) 2 24 := ⟨dX1_part_22, rfl⟩
theorem dX1_part_24 : decode cX1_part 24 = .ok (.if_icmp .le 7, 3) := by decide +kernel
theorem eX1_part_24 : dec cX1_part 24 (.if_icmp .le 7) 3 27 := ⟨dX1_part_24, rfl⟩
theorem dX1_part_27 : decode cX1_part 27 = .ok (.iconst (-1), 1) := by decide +kernel
theorem eX1_part_27 : dec cX1_part 27 (.iconst (-1)) 1 28 := ⟨dX1_part_27, rfl⟩
theorem dX1_part_28 : decode cX1_part 28 = .ok (.goto 14, 3) := by decide +kernel
theorem eX1_part_28 : dec cX1_part 28 (.goto 14) 3 31 := ⟨dX1_part_28, rfl⟩
theorem dX1_part_31 : decode cX1_part 31 = .ok (.aload_n 0, 1) := by decide +kernel
theorem eX1_part_31 : dec cX1_part 31 (.aload_n 0) 1 32 := ⟨dX1_part_31, rfl⟩
theorem dX1_part_32 : decode cX1_part 32 = .ok (.getfield 25, 3) := by decide +kernel
theorem eX1_part_32 : dec cX1_part 32 (.getfield 25) 3 35 := ⟨dX1_part_32, rfl⟩
theorem dX1_part_35 : decode cX1_part 35 = .ok (.bipush 7, 2) := by decide +kernel
theorem eX1_part_35 : dec cX1_part 35 (.bipush 7) 2 37 := ⟨dX1_part_35, rfl⟩
theorem dX1_part_37 : decode cX1_part 37 = .ok (.iload_n 1, 1) := by decide +kernel
theorem eX1_part_37 : dec cX1_part 37 (.iload_n 1) 1 38 := ⟨dX1_part_37, rfl⟩
theorem dX1_part_38 : decode cX1_part 38 = .ok (.imul, 1) := by decide +kernel
theorem eX1_part_38 : dec cX1_part 38 .imul 1 39 := ⟨dX1_part_38, rfl⟩
theorem dX1_part_39 : decode cX1_part 39 = .ok (.iload_n 2, 1) := by decide +kernel
theorem eX1_part_39 : dec cX1_part 39 (.iload_n 2) 1 40 := ⟨dX1_part_39, rfl⟩
theorem dX1_part_40 : decode cX1_part 40 = .ok (.iadd, 1) := by decide +kernel
theorem eX1_part_40 : dec cX1_part 40 .iadd 1 41 := ⟨dX1_part_40, rfl⟩
theorem dX1_part_41 : decode cX1_part 41 = .ok (.iaload, 1) := by decide +kernel
theorem eX1_part_41 : dec cX1_part 41 .iaload 1 42 := ⟨dX1_part_41, rfl⟩
theorem dX1_part_42 : decode cX1_part 42 = .ok (.ireturn, 1) := by decide +kernel
theorem eX1_part_42 : dec cX1_part 42 .ireturn 1 43 := ⟨dX1_part_42, rfl⟩
theorem dX1_rowOf_0 : decode cX1_rowOf 0 = .ok (.iload_n 2, 1) := by decide +kernel
theorem eX1_rowOf_0 : dec cX1_rowOf 0 (.iload_n 2) 1 1 := ⟨dX1_rowOf_0, rfl⟩
theorem dX1_rowOf_1 : decode cX1_rowOf 1 = .ok (.iload_n 3, 1) := by decide +kernel
theorem eX1_rowOf_1 : dec cX1_rowOf 1 (.iload_n 3) 1 2 := ⟨dX1_rowOf_1, rfl⟩
theorem dX1_rowOf_2 : decode cX1_rowOf 2 = .ok (.iload_n 1, 1) := by decide +kernel
theorem eX1_rowOf_2 : dec cX1_rowOf 2 (.iload_n 1) 1 3 := ⟨dX1_rowOf_2, rfl⟩
theorem dX1_rowOf_3 : decode cX1_rowOf 3 = .ok (.imul, 1) := by decide +kernel
theorem eX1_rowOf_3 : dec cX1_rowOf 3 .imul 1 4 := ⟨dX1_rowOf_3, rfl⟩
theorem dX1_rowOf_4 : decode cX1_rowOf 4 = .ok (.iconst 5, 1) := by decide +kernel
theorem eX1_rowOf_4 : dec cX1_rowOf 4 (.iconst 5) 1 5 := ⟨dX1_rowOf_4, rfl⟩
theorem dX1_rowOf_5 : decode cX1_rowOf 5 = .ok (.ishr, 1) := by decide +kernel
theorem eX1_rowOf_5 : dec cX1_rowOf 5 .ishr 1 6 := ⟨dX1_rowOf_5, rfl⟩
theorem dX1_rowOf_6 : decode cX1_rowOf 6 = .ok (.iadd, 1) := by decide +kernel
theorem eX1_rowOf_6 : dec cX1_rowOf 6 .iadd 1 7 := ⟨dX1_rowOf_6, rfl⟩
theorem dX1_rowOf_7 : decode cX1_rowOf 7 = .ok (.aload_n 0, 1) := by decide +kernel
theorem eX1_rowOf_7 : dec cX1_rowOf 7 (.aload_n 0) 1 8 := ⟨dX1_rowOf_7, rfl⟩
theorem dX1_rowOf_8 : decode cX1_rowOf 8 = .ok (.getfield 39, 3) := by decide +kernel
theorem eX1_rowOf_8 : dec cX1_rowOf 8 (.getfield 39) 3 11 := ⟨dX1_rowOf_8, rfl⟩
theorem dX1_rowOf_11 : decode cX1_rowOf 11 = .ok (.irem, 1) := by decide +kernel
theorem eX1_rowOf_11 : dec cX1_rowOf 11 .irem 1 12 := ⟨dX1_rowOf_11, rfl⟩
theorem dX1_rowOf_12 : decode cX1_rowOf 12 = .ok (.istore 4, 2) := by decide +kernel
theorem eX1_rowOf_12 : dec cX1_rowOf 12 (.istore 4) 2 14 := ⟨dX1_rowOf_12, rfl⟩
theorem dX1_rowOf_14 : decode cX1_rowOf 14 = .ok (.iload 4, 2) := by decide +kernel
theorem eX1_rowOf_14 : dec cX1_rowOf 14 (.iload 4) 2 16 := ⟨dX1_rowOf_14, rfl⟩
theorem dX1_rowOf_16 : decode cX1_rowOf 16 = .ok (.ifCond .ge 13, 3) := by decide +kernel
theorem eX1_rowOf_16 : dec cX1_rowOf 16 (.ifCond .ge 13) 3 19 := ⟨dX1_rowOf_16, rfl⟩
theorem dX1_rowOf_19 : decode cX1_rowOf 19 = .ok (.iload 4, 2) := by decide +kernel
theorem eX1_rowOf_19 : dec cX1_rowOf 19 (.iload 4) 2 21 := ⟨dX1_rowOf_19, rfl⟩
theorem dX1_rowOf_21 : decode cX1_rowOf 21 = .ok (.aload_n 0, 1) := by decide +kernel
theorem eX1_rowOf_21 : dec cX1_rowOf 21 (.aload_n 0) 1 22 := ⟨dX1_rowOf_21, rfl⟩
theorem dX1_rowOf_22 : decode cX1_rowOf 22 = .ok (.getfield 39, 3) := by decide +kernel
theorem eX1_rowOf_22 : dec cX1_rowOf 22 (.getfield 39) 3 25 := ⟨dX1_rowOf_22, rfl⟩
theorem dX1_rowOf_25 : decode cX1_rowOf 25 = .ok (.iadd, 1) := by decide +kernel
theorem eX1_rowOf_25 : dec cX1_rowOf 25 .iadd 1 26 := ⟨dX1_rowOf_25, rfl⟩
theorem dX1_rowOf_26 : decode cX1_rowOf 26 = .ok (.goto 5, 3) := by decide +kernel
theorem eX1_rowOf_26 : dec cX1_rowOf 26 (.goto 5) 3 29 := ⟨dX1_rowOf_26, rfl⟩
theorem dX1_rowOf_29 : decode cX1_rowOf 29 = .ok (.iload 4, 2) := by decide +kernel
theorem eX1_rowOf_29 : dec cX1_rowOf 29 (.iload 4) 2 31 := ⟨dX1_rowOf_29, rfl⟩
theorem dX1_rowOf_31 : decode cX1_rowOf 31 = .ok (.ireturn, 1) := by decide +kernel
theorem eX1_rowOf_31 : dec cX1_rowOf 31 .ireturn 1 32 := ⟨dX1_rowOf_31, rfl⟩
set_option maxRecDepth 20000 in
theorem ggX1_skew_X1_darken : GoodIn wsX1_skew wsX1_darken := goodIn_r _ [11, 4, 12, 6, 13, 14, 15, 10, 16, 3, 17, 18, 19, 20, 21, 22, 23, 24, 29, 30, 31, 32, 33, 34, 35, 36, 37, 38, 39, 40, 41, 42, 43] (by decide +kernel) (by decide +kernel)
set_option maxRecDepth 20000 in
theorem gX1_skew_X1_darken : GoodIn wsX1_skew (wsV RX1 68 RX1 yX1_darken wsX1_darken) := goodIn_app (goodIn_of _ (by decide +kernel)) ggX1_skew_X1_darken
set_option maxRecDepth 20000 in
theorem ggX1_skew_X1_rowOf : GoodIn wsX1_skew wsX1_rowOf := goodIn_r _ [28, 2, 29, 30, 31, 32, 33, 34, 35, 36, 37, 38, 39, 40, 41, 42, 43] (by decide +kernel) (by decide +kernel)
set_option maxRecDepth 20000 in
theorem gX1_skew_X1_rowOf : GoodIn wsX1_skew (wsV RX1 85 RX1 yX1_rowOf wsX1_rowOf) := goodIn_app (goodIn_of _ (by decide +kernel)) ggX1_skew_X1_rowOf
theorem dX1_skew_0 : decode cX1_skew 0 = .ok (.aload_n 0, 1) := by decide +kernel
theorem eX1_skew_0 : dec cX1_skew 0 (.aload_n 0) 1 1 := ⟨dX1_skew_0, rfl⟩
theorem dX1_skew_1 : decode cX1_skew 1 = .ok (.iconst 0, 1) := by decide +kernel
theorem eX1_skew_1 : dec cX1_skew 1 (.iconst 0) 1 2 := ⟨dX1_skew_1, rfl⟩
theorem dX1_skew_2 : decode cX1_skew 2 = .ok (.putfield 45, 3) := by decide +kernel
theorem eX1_skew_2 : dec cX1_skew 2 (.putfield 45) 3 5 := ⟨dX1_skew_2, rfl⟩
theorem dX1_skew_5 : decode cX1_skew 5 = .ok (.aload_n 0, 1) := by decide +kernel
theorem eX1_skew_5 : dec cX1_skew 5 (.aload_n 0) 1 6 := ⟨dX1_skew_5, rfl⟩
theorem dX1_skew_6 : decode cX1_skew 6 = .ok (.invokevirtual 68, 3) := by decide +kernel
theorem eX1_skew_6 : dec cX1_skew 6 (.invokevirtual 68) 3 9 := ⟨dX1_skew_6, rfl⟩
theorem dX1_skew_9 : decode cX1_skew 9 = .ok (.iconst 0, 1) := by decide +kernel
theorem eX1_skew_9 : dec cX1_skew 9 (.iconst 0) 1 10 := ⟨dX1_skew_9, rfl⟩
theorem dX1_skew_10 : decode cX1_skew 10 = .ok (.istore_n 1, 1) := by decide +kernel
theorem eX1_skew_10 : dec cX1_skew 10 (.istore_n 1) 1 11 := ⟨dX1_skew_10, rfl⟩
theorem dX1_skew_11 : decode cX1_skew 11 = .ok (.iconst (-1), 1) := by decide +kernel
theorem eX1_skew_11 : dec cX1_skew 11 (.iconst (-1)) 1 12 := ⟨dX1_skew_11, rfl⟩
theorem dX1_skew_12 : decode cX1_skew 12 = .ok (.istore_n 2, 1) := by decide +kernel
theorem eX1_skew_12 : dec cX1_skew 12 (.istore_n 2) 1 13 := ⟨dX1_skew_12, rfl⟩
theorem dX1_skew_13 : decode cX1_skew 13 = .ok (.iconst 0, 1) := by decide +kernel
theorem eX1_skew_13 : dec cX1_skew 13 (.iconst 0) 1 14 := ⟨dX1_skew_13, rfl⟩
theorem dX1_skew_14 : decode cX1_skew 14 = .ok (.istore_n 3, 1) := by decide +kernel
theorem eX1_skew_14 : dec cX1_skew 14 (.istore_n 3) 1 15 := ⟨dX1_skew_14, rfl⟩
theorem dX1_skew_15 : decode cX1_skew 15 = .ok (.iload_n 3, 1) := by decide +kernel
theorem eX1_skew_15 : dec cX1_skew 15 (.iload_n 3) 1 16 := ⟨dX1_skew_15, rfl⟩
theorem dX1_skew_16 : decode cX1_skew 16 = .ok (.bipush 17, 2) := by decide +kernel
theorem eX1_skew_16 : dec cX1_skew 16 (.bipush 17) 2 18 := ⟨dX1_skew_16, rfl⟩
theorem dX1_skew_18 : decode cX1_skew 18 = .ok (.if_icmp .ge 174, 3) := by decide +kernel
theorem eX1_skew_18 : dec cX1_skew 18 (.if_icmp .ge 174) 3 21 := ⟨dX1_skew_18, rfl⟩
theorem dX1_skew_21 : decode cX1_skew 21 = .ok (.iload_n 3, 1) := by decide +kernel
theorem eX1_skew_21 : dec cX1_skew 21 (.iload_n 3) 1 22 := ⟨dX1_skew_21, rfl⟩
theorem dX1_skew_22 : decode cX1_skew 22 = .ok (.iconst 2, 1) := by decide +kernel
theorem eX1_skew_22 : dec cX1_skew 22 (.iconst 2) 1 23 := ⟨dX1_skew_22, rfl⟩
theorem dX1_skew_23 : decode cX1_skew 23 = .ok (.irem, 1) := by decide +kernel
theorem eX1_skew_23 : dec cX1_skew 23 .irem 1 24 := ⟨dX1_skew_23, rfl⟩
theorem dX1_skew_24 : decode cX1_skew 24 = .ok (.ifCond .ne 9, 3) := by decide +kernel
theorem eX1_skew_24 : dec cX1_skew 24 (.ifCond .ne 9) 3 27 := ⟨dX1_skew_24, rfl⟩
theorem dX1_skew_27 : decode cX1_skew 27 = .ok (.iload_n 3, 1) := by decide +kernel
theorem eX1_skew_27 : dec cX1_skew 27 (.iload_n 3) 1 28 := ⟨dX1_skew_27, rfl⟩
theorem dX1_skew_28 : decode cX1_skew 28 = .ok (.iconst 2, 1) := by decide +kernel
theorem eX1_skew_28 : dec cX1_skew 28 (.iconst 2) 1 29 := ⟨dX1_skew_28, rfl⟩
theorem dX1_skew_29 : decode cX1_skew 29 = .ok (.idiv, 1) := by decide +kernel
theorem eX1_skew_29 : dec cX1_skew 29 .idiv 1 30 := ⟨dX1_skew_29, rfl⟩
theorem dX1_skew_30 : decode cX1_skew 30 = .ok (.goto 8, 3) := by decide +kernel
theorem eX1_skew_30 : dec cX1_skew 30 (.goto 8) 3 33 := ⟨dX1_skew_30, rfl⟩
theorem dX1_skew_33 : decode cX1_skew 33 = .ok (.iconst (-1), 1) := by decide +kernel
theorem eX1_skew_33 : dec cX1_skew 33 (.iconst (-1)) 1 34 := ⟨dX1_skew_33, rfl⟩
theorem dX1_skew_34 : decode cX1_skew 34 = .ok (.iload_n 3, 1) := by decide +kernel
theorem eX1_skew_34 : dec cX1_skew 34 (.iload_n 3) 1 35 := ⟨dX1_skew_34, rfl⟩
theorem dX1_skew_35 : decode cX1_skew 35 = .ok (.iconst 2, 1) := by decide +kernel
theorem eX1_skew_35 : dec cX1_skew 35 (.iconst 2) 1 36 := ⟨dX1_skew_35, rfl⟩
theorem dX1_skew_36 : decode cX1_skew 36 = .ok (.idiv, 1) := by decide +kernel
theorem eX1_skew_36 : dec cX1_skew 36 .idiv 1 37 := ⟨dX1_skew_36, rfl⟩
theorem dX1_skew_37 : decode cX1_skew 37 = .ok (.isub, 1) := by decide +kernel
theorem eX1_skew_37 : dec cX1_skew 37 .isub 1 38 := ⟨dX1_skew_37, rfl⟩
theorem dX1_skew_38 : decode cX1_skew 38 = .ok (.istore 4, 2) := by decide +kernel
theorem eX1_skew_38 : dec cX1_skew 38 (.istore 4) 2 40 := ⟨dX1_skew_38, rfl⟩
theorem dX1_skew_40 : decode cX1_skew 40 = .ok (.iconst 0, 1) := by decide +kernel
theorem eX1_skew_40 : dec cX1_skew 40 (.iconst 0) 1 41 := ⟨dX1_skew_40, rfl⟩
theorem dX1_skew_41 : decode cX1_skew 41 = .ok (.istore 5, 2) := by decide +kernel
theorem eX1_skew_41 : dec cX1_skew 41 (.istore 5) 2 43 := ⟨dX1_skew_41, rfl⟩
theorem dX1_skew_43 : decode cX1_skew 43 = .ok (.iload 5, 2) := by decide +kernel
theorem eX1_skew_43 : dec cX1_skew 43 (.iload 5) 2 45 := ⟨dX1_skew_43, rfl⟩
theorem dX1_skew_45 : decode cX1_skew 45 = .ok (.aload_n 0, 1) := by decide +kernel
theorem eX1_skew_45 : dec cX1_skew 45 (.aload_n 0) 1 46 := ⟨dX1_skew_45, rfl⟩
theorem dX1_skew_46 : decode cX1_skew 46 = .ok (.getfield 39, 3) := by decide +kernel
theorem eX1_skew_46 : dec cX1_skew 46 (.getfield 39) 3 49 := ⟨dX1_skew_46, rfl⟩
theorem dX1_skew_49 : decode cX1_skew 49 = .ok (.if_icmp .ge 17, 3) := by decide +kernel
theorem eX1_skew_49 : dec cX1_skew 49 (.if_icmp .ge 17) 3 52 := ⟨dX1_skew_49, rfl⟩
theorem dX1_skew_52 : decode cX1_skew 52 = .ok (.aload_n 0, 1) := by decide +kernel
theorem eX1_skew_52 : dec cX1_skew 52 (.aload_n 0) 1 53 := ⟨dX1_skew_52, rfl⟩
theorem dX1_skew_53 : decode cX1_skew 53 = .ok (.getfield 16, 3) := by decide +kernel
theorem eX1_skew_53 : dec cX1_skew 53 (.getfield 16) 3 56 := ⟨dX1_skew_53, rfl⟩
theorem dX1_skew_56 : decode cX1_skew 56 = .ok (.iload 5, 2) := by decide +kernel
theorem eX1_skew_56 : dec cX1_skew 56 (.iload 5) 2 58 := ⟨dX1_skew_56, rfl⟩
theorem dX1_skew_58 : decode cX1_skew 58 = .ok (.iconst 0, 1) := by decide +kernel
theorem eX1_skew_58 : dec cX1_skew 58 (.iconst 0) 1 59 := ⟨dX1_skew_58, rfl⟩
theorem dX1_skew_59 : decode cX1_skew 59 = .ok (.iastore, 1) := by decide +kernel
theorem eX1_skew_59 : dec cX1_skew 59 .iastore 1 60 := ⟨dX1_skew_59, rfl⟩
theorem dX1_skew_60 : decode cX1_skew 60 = .ok (.iinc 5 1, 3) := by decide +kernel
theorem eX1_skew_60 : dec cX1_skew 60 (.iinc 5 1) 3 63 := ⟨dX1_skew_60, rfl⟩
theorem dX1_skew_63 : decode cX1_skew 63 = .ok (.goto (-20), 3) := by decide +kernel
theorem eX1_skew_63 : dec cX1_skew 63 (.goto (-20)) 3 66 := ⟨dX1_skew_63, rfl⟩
theorem dX1_skew_66 : decode cX1_skew 66 = .ok (.iconst 0, 1) := by decide +kernel
theorem eX1_skew_66 : dec cX1_skew 66 (.iconst 0) 1 67 := ⟨dX1_skew_66, rfl⟩
theorem dX1_skew_67 : decode cX1_skew 67 = .ok (.istore 5, 2) := by decide +kernel
theorem eX1_skew_67 : dec cX1_skew 67 (.istore 5) 2 69 := ⟨dX1_skew_67, rfl⟩
theorem dX1_skew_69 : decode cX1_skew 69 = .ok (.iload 5, 2) := by decide +kernel
theorem eX1_skew_69 : dec cX1_skew 69 (.iload 5) 2 71 := ⟨dX1_skew_69, rfl⟩
theorem dX1_skew_71 : decode cX1_skew 71 = .ok (.aload_n 0, 1) := by decide +kernel
theorem eX1_skew_71 : dec cX1_skew 71 (.aload_n 0) 1 72 := ⟨dX1_skew_71, rfl⟩
theorem dX1_skew_72 : decode cX1_skew 72 = .ok (.getfield 42, 3) := by decide +kernel
theorem eX1_skew_72 : dec cX1_skew 72 (.getfield 42) 3 75 := ⟨dX1_skew_72, rfl⟩
theorem dX1_skew_75 : decode cX1_skew 75 = .ok (.if_icmp .ge 44, 3) := by decide +kernel
theorem eX1_skew_75 : dec cX1_skew 75 (.if_icmp .ge 44) 3 78 := ⟨dX1_skew_75, rfl⟩
theorem dX1_skew_78 : decode cX1_skew 78 = .ok (.aload_n 0, 1) := by decide +kernel
theorem eX1_skew_78 : dec cX1_skew 78 (.aload_n 0) 1 79 := ⟨dX1_skew_78, rfl⟩
theorem dX1_skew_79 : decode cX1_skew 79 = .ok (.getfield 16, 3) := by decide +kernel
theorem eX1_skew_79 : dec cX1_skew 79 (.getfield 16) 3 82 := ⟨dX1_skew_79, rfl⟩
theorem dX1_skew_82 : decode cX1_skew 82 = .ok (.aload_n 0, 1) := by decide +kernel
theorem eX1_skew_82 : dec cX1_skew 82 (.aload_n 0) 1 83 := ⟨dX1_skew_82, rfl⟩
theorem dX1_skew_83 : decode cX1_skew 83 = .ok (.iload 5, 2) := by decide +kernel
theorem eX1_skew_83 : dec cX1_skew 83 (.iload 5) 2 85 := ⟨dX1_skew_83, rfl⟩
theorem dX1_skew_85 : decode cX1_skew 85 = .ok (.aload_n 0, 1) := by decide +kernel
theorem eX1_skew_85 : dec cX1_skew 85 (.aload_n 0) 1 86 := ⟨dX1_skew_85, rfl⟩
theorem dX1_skew_86 : decode cX1_skew 86 = .ok (.getfield 35, 3) := by decide +kernel
theorem eX1_skew_86 : dec cX1_skew 86 (.getfield 35) 3 89 := ⟨dX1_skew_86, rfl⟩
theorem dX1_skew_89 : decode cX1_skew 89 = .ok (.irem, 1) := by decide +kernel
theorem eX1_skew_89 : dec cX1_skew 89 .irem 1 90 := ⟨dX1_skew_89, rfl⟩
theorem dX1_skew_90 : decode cX1_skew 90 = .ok (.iload 5, 2) := by decide +kernel
theorem eX1_skew_90 : dec cX1_skew 90 (.iload 5) 2 92 := ⟨dX1_skew_90, rfl⟩
theorem dX1_skew_92 : decode cX1_skew 92 = .ok (.aload_n 0, 1) := by decide +kernel
theorem eX1_skew_92 : dec cX1_skew 92 (.aload_n 0) 1 93 := ⟨dX1_skew_92, rfl⟩
theorem dX1_skew_93 : decode cX1_skew 93 = .ok (.getfield 35, 3) := by decide +kernel
theorem eX1_skew_93 : dec cX1_skew 93 (.getfield 35) 3 96 := ⟨dX1_skew_93, rfl⟩
theorem dX1_skew_96 : decode cX1_skew 96 = .ok (.idiv, 1) := by decide +kernel
theorem eX1_skew_96 : dec cX1_skew 96 .idiv 1 97 := ⟨dX1_skew_96, rfl⟩
theorem dX1_skew_97 : decode cX1_skew 97 = .ok (.iload 4, 2) := by decide +kernel
theorem eX1_skew_97 : dec cX1_skew 97 (.iload 4) 2 99 := ⟨dX1_skew_97, rfl⟩
theorem dX1_skew_99 : decode cX1_skew 99 = .ok (.invokevirtual 85, 3) := by decide +kernel
theorem eX1_skew_99 : dec cX1_skew 99 (.invokevirtual 85) 3 102 := ⟨dX1_skew_99, rfl⟩
theorem dX1_skew_102 : decode cX1_skew 102 = .ok (.dup2, 1) := by decide +kernel
theorem eX1_skew_102 : dec cX1_skew 102 .dup2 1 103 := ⟨dX1_skew_102, rfl⟩
theorem dX1_skew_103 : decode cX1_skew 103 = .ok (.iaload, 1) := by decide +kernel
theorem eX1_skew_103 : dec cX1_skew 103 .iaload 1 104 := ⟨dX1_skew_103, rfl⟩
theorem dX1_skew_104 : decode cX1_skew 104 = .ok (.aload_n 0, 1) := by decide +kernel
theorem eX1_skew_104 : dec cX1_skew 104 (.aload_n 0) 1 105 := ⟨dX1_skew_104, rfl⟩
theorem dX1_skew_105 : decode cX1_skew 105 = .ok (.getfield 13, 3) := by decide +kernel
theorem eX1_skew_105 : dec cX1_skew 105 (.getfield 13) 3 108 := ⟨dX1_skew_105, rfl⟩
theorem dX1_skew_108 : decode cX1_skew 108 = .ok (.iload 5, 2) := by decide +kernel
theorem eX1_skew_108 : dec cX1_skew 108 (.iload 5) 2 110 := ⟨dX1_skew_108, rfl⟩
theorem dX1_skew_110 : decode cX1_skew 110 = .ok (.iaload, 1) := by decide +kernel
theorem eX1_skew_110 : dec cX1_skew 110 .iaload 1 111 := ⟨dX1_skew_110, rfl⟩
theorem dX1_skew_111 : decode cX1_skew 111 = .ok (.iadd, 1) := by decide +kernel
theorem eX1_skew_111 : dec cX1_skew 111 .iadd 1 112 := ⟨dX1_skew_111, rfl⟩
theorem dX1_skew_112 : decode cX1_skew 112 = .ok (.iastore, 1) := by decide +kernel
theorem eX1_skew_112 : dec cX1_skew 112 .iastore 1 113 := ⟨dX1_skew_112, rfl⟩
theorem dX1_skew_113 : decode cX1_skew 113 = .ok (.iinc 5 1, 3) := by decide +kernel
theorem eX1_skew_113 : dec cX1_skew 113 (.iinc 5 1) 3 116 := ⟨dX1_skew_113, rfl⟩
theorem dX1_skew_116 : decode cX1_skew 116 = .ok (.goto (-47), 3) := by decide +kernel
theorem eX1_skew_116 : dec cX1_skew 116 (.goto (-47)) 3 119 := ⟨dX1_skew_116, rfl⟩
theorem dX1_skew_119 : decode cX1_skew 119 = .ok (.iconst 0, 1) := by decide +kernel
theorem eX1_skew_119 : dec cX1_skew 119 (.iconst 0) 1 120 := ⟨dX1_skew_119, rfl⟩
theorem dX1_skew_120 : decode cX1_skew 120 = .ok (.istore 5, 2) := by decide +kernel
theorem eX1_skew_120 : dec cX1_skew 120 (.istore 5) 2 122 := ⟨dX1_skew_120, rfl⟩
theorem dX1_skew_122 : decode cX1_skew 122 = .ok (.iconst 0, 1) := by decide +kernel
theorem eX1_skew_122 : dec cX1_skew 122 (.iconst 0) 1 123 := ⟨dX1_skew_122, rfl⟩
theorem dX1_skew_123 : decode cX1_skew 123 = .ok (.istore 6, 2) := by decide +kernel
theorem eX1_skew_123 : dec cX1_skew 123 (.istore 6) 2 125 := ⟨dX1_skew_123, rfl⟩
theorem dX1_skew_125 : decode cX1_skew 125 = .ok (.iload 6, 2) := by decide +kernel
theorem eX1_skew_125 : dec cX1_skew 125 (.iload 6) 2 127 := ⟨dX1_skew_125, rfl⟩
theorem dX1_skew_127 : decode cX1_skew 127 = .ok (.aload_n 0, 1) := by decide +kernel
theorem eX1_skew_127 : dec cX1_skew 127 (.aload_n 0) 1 128 := ⟨dX1_skew_127, rfl⟩
theorem dX1_skew_128 : decode cX1_skew 128 = .ok (.getfield 39, 3) := by decide +kernel
theorem eX1_skew_128 : dec cX1_skew 128 (.getfield 39) 3 131 := ⟨dX1_skew_128, rfl⟩
theorem dX1_skew_131 : decode cX1_skew 131 = .ok (.if_icmp .ge 29, 3) := by decide +kernel
theorem eX1_skew_131 : dec cX1_skew 131 (.if_icmp .ge 29) 3 134 := ⟨dX1_skew_131, rfl⟩
theorem dX1_skew_134 : decode cX1_skew 134 = .ok (.iload 5, 2) := by decide +kernel
theorem eX1_skew_134 : dec cX1_skew 134 (.iload 5) 2 136 := ⟨dX1_skew_134, rfl⟩
theorem dX1_skew_136 : decode cX1_skew 136 = .ok (.aload_n 0, 1) := by decide +kernel
theorem eX1_skew_136 : dec cX1_skew 136 (.aload_n 0) 1 137 := ⟨dX1_skew_136, rfl⟩
theorem dX1_skew_137 : decode cX1_skew 137 = .ok (.getfield 16, 3) := by decide +kernel
theorem eX1_skew_137 : dec cX1_skew 137 (.getfield 16) 3 140 := ⟨dX1_skew_137, rfl⟩
theorem dX1_skew_140 : decode cX1_skew 140 = .ok (.iload 6, 2) := by decide +kernel
theorem eX1_skew_140 : dec cX1_skew 140 (.iload 6) 2 142 := ⟨dX1_skew_140, rfl⟩
theorem dX1_skew_142 : decode cX1_skew 142 = .ok (.iaload, 1) := by decide +kernel
theorem eX1_skew_142 : dec cX1_skew 142 .iaload 1 143 := ⟨dX1_skew_142, rfl⟩
theorem dX1_skew_143 : decode cX1_skew 143 = .ok (.aload_n 0, 1) := by decide +kernel
theorem eX1_skew_143 : dec cX1_skew 143 (.aload_n 0) 1 144 := ⟨dX1_skew_143, rfl⟩
theorem dX1_skew_144 : decode cX1_skew 144 = .ok (.getfield 16, 3) := by decide +kernel
theorem eX1_skew_144 : dec cX1_skew 144 (.getfield 16) 3 147 := ⟨dX1_skew_144, rfl⟩
theorem dX1_skew_147 : decode cX1_skew 147 = .ok (.iload 6, 2) := by decide +kernel
theorem eX1_skew_147 : dec cX1_skew 147 (.iload 6) 2 149 := ⟨dX1_skew_147, rfl⟩
theorem dX1_skew_149 : decode cX1_skew 149 = .ok (.iaload, 1) := by decide +kernel
theorem eX1_skew_149 : dec cX1_skew 149 .iaload 1 150 := ⟨dX1_skew_149, rfl⟩
theorem dX1_skew_150 : decode cX1_skew 150 = .ok (.imul, 1) := by decide +kernel
theorem eX1_skew_150 : dec cX1_skew 150 .imul 1 151 := ⟨dX1_skew_150, rfl⟩
theorem dX1_skew_151 : decode cX1_skew 151 = .ok (.iadd, 1) := by decide +kernel
theorem eX1_skew_151 : dec cX1_skew 151 .iadd 1 152 := ⟨dX1_skew_151, rfl⟩
theorem dX1_skew_152 : decode cX1_skew 152 = .ok (.istore 5, 2) := by decide +kernel
theorem eX1_skew_152 : dec cX1_skew 152 (.istore 5) 2 154 := ⟨dX1_skew_152, rfl⟩
theorem dX1_skew_154 : decode cX1_skew 154 = .ok (.iinc 6 1, 3) := by decide +kernel
theorem eX1_skew_154 : dec cX1_skew 154 (.iinc 6 1) 3 157 := ⟨dX1_skew_154, rfl⟩
theorem dX1_skew_157 : decode cX1_skew 157 = .ok (.goto (-32), 3) := by decide +kernel
theorem eX1_skew_157 : dec cX1_skew 157 (.goto (-32)) 3 160 := ⟨dX1_skew_157, rfl⟩
theorem dX1_skew_160 : decode cX1_skew 160 = .ok (.iload 5, 2) := by decide +kernel
theorem eX1_skew_160 : dec cX1_skew 160 (.iload 5) 2 162 := ⟨dX1_skew_160, rfl⟩
theorem dX1_skew_162 : decode cX1_skew 162 = .ok (.iload_n 2, 1) := by decide +kernel
theorem eX1_skew_162 : dec cX1_skew 162 (.iload_n 2) 1 163 := ⟨dX1_skew_162, rfl⟩
theorem dX1_skew_163 : decode cX1_skew 163 = .ok (.if_icmp .le 8, 3) := by decide +kernel
theorem eX1_skew_163 : dec cX1_skew 163 (.if_icmp .le 8) 3 166 := ⟨dX1_skew_163, rfl⟩
theorem dX1_skew_166 : decode cX1_skew 166 = .ok (.iload 4, 2) := by decide +kernel
theorem eX1_skew_166 : dec cX1_skew 166 (.iload 4) 2 168 := ⟨dX1_skew_166, rfl⟩
theorem dX1_skew_168 : decode cX1_skew 168 = .ok (.goto 4, 3) := by decide +kernel
theorem eX1_skew_168 : dec cX1_skew 168 (.goto 4) 3 171 := ⟨dX1_skew_168, rfl⟩
theorem dX1_skew_171 : decode cX1_skew 171 = .ok (.iload_n 1, 1) := by decide +kernel
theorem eX1_skew_171 : dec cX1_skew 171 (.iload_n 1) 1 172 := ⟨dX1_skew_171, rfl⟩
theorem dX1_skew_172 : decode cX1_skew 172 = .ok (.istore_n 1, 1) := by decide +kernel
theorem eX1_skew_172 : dec cX1_skew 172 (.istore_n 1) 1 173 := ⟨dX1_skew_172, rfl⟩
theorem dX1_skew_173 : decode cX1_skew 173 = .ok (.iload 5, 2) := by decide +kernel
theorem eX1_skew_173 : dec cX1_skew 173 (.iload 5) 2 175 := ⟨dX1_skew_173, rfl⟩
theorem dX1_skew_175 : decode cX1_skew 175 = .ok (.iload_n 2, 1) := by decide +kernel
theorem eX1_skew_175 : dec cX1_skew 175 (.iload_n 2) 1 176 := ⟨dX1_skew_175, rfl⟩
theorem dX1_skew_176 : decode cX1_skew 176 = .ok (.if_icmp .le 8, 3) := by decide +kernel
theorem eX1_skew_176 : dec cX1_skew 176 (.if_icmp .le 8) 3 179 := ⟨dX1_skew_176, rfl⟩
theorem dX1_skew_179 : decode cX1_skew 179 = .ok (.iload 5, 2) := by decide +kernel
theorem eX1_skew_179 : dec cX1_skew 179 (.iload 5) 2 181 := ⟨dX1_skew_179, rfl⟩
theorem dX1_skew_181 : decode cX1_skew 181 = .ok (.goto 4, 3) := by decide +kernel
theorem eX1_skew_181 : dec cX1_skew 181 (.goto 4) 3 184 := ⟨dX1_skew_181, rfl⟩
theorem dX1_skew_184 : decode cX1_skew 184 = .ok (.iload_n 2, 1) := by decide +kernel
theorem eX1_skew_184 : dec cX1_skew 184 (.iload_n 2) 1 185 := ⟨dX1_skew_184, rfl⟩
theorem dX1_skew_185 : decode cX1_skew 185 = .ok (.istore_n 2, 1) := by decide +kernel
theorem eX1_skew_185 : dec cX1_skew 185 (.istore_n 2) 1 186 := ⟨dX1_skew_185, rfl⟩
theorem dX1_skew_186 : decode cX1_skew 186 = .ok (.iinc 3 1, 3) := by decide +kernel
theorem eX1_skew_186 : dec cX1_skew 186 (.iinc 3 1) 3 189 := ⟨dX1_skew_186, rfl⟩
theorem dX1_skew_189 : decode cX1_skew 189 = .ok (.goto (-174), 3) := by decide +kernel
theorem eX1_skew_189 : dec cX1_skew 189 (.goto (-174)) 3 192 := ⟨dX1_skew_189, rfl⟩
theorem dX1_skew_192 : decode cX1_skew 192 = .ok (.iload_n 1, 1) := by decide +kernel
theorem eX1_skew_192 : dec cX1_skew 192 (.iload_n 1) 1 193 := ⟨dX1_skew_192, rfl⟩
theorem dX1_skew_193 : decode cX1_skew 193 = .ok (.ireturn, 1) := by decide +kernel
theorem eX1_skew_193 : dec cX1_skew 193 .ireturn 1 194 := ⟨dX1_skew_193, rfl⟩
theorem dX1_change_0 : decode cX1_change 0 = .ok (.iconst 0, 1) := by decide +kernel
theorem eX1_change_0 : dec cX1_change 0 (.iconst 0) 1 1 := ⟨dX1_change_0, rfl⟩
theorem dX1_change_1 : decode cX1_change 1 = .ok (.istore_n 1, 1) := by decide +kernel
theorem eX1_change_1 : dec cX1_change 1 (.istore_n 1) 1 2 := ⟨dX1_change_1, rfl⟩
theorem dX1_change_2 : decode cX1_change 2 = .ok (.iconst 0, 1) := by decide +kernel
theorem eX1_change_2 : dec cX1_change 2 (.iconst 0) 1 3 := ⟨dX1_change_2, rfl⟩
theorem dX1_change_3 : decode cX1_change 3 = .ok (.istore_n 2, 1) := by decide +kernel
theorem eX1_change_3 : dec cX1_change 3 (.istore_n 2) 1 4 := ⟨dX1_change_3, rfl⟩
theorem dX1_change_4 : decode cX1_change 4 = .ok (.iload_n 2, 1) := by decide +kernel
theorem eX1_change_4 : dec cX1_change 4 (.iload_n 2) 1 5 := ⟨dX1_change_4, rfl⟩
theorem dX1_change_5 : decode cX1_change 5 = .ok (.aload_n 0, 1) := by decide +kernel
theorem eX1_change_5 : dec cX1_change 5 (.aload_n 0) 1 6 := ⟨dX1_change_5, rfl⟩
theorem dX1_change_6 : decode cX1_change 6 = .ok (.getfield 42, 3) := by decide +kernel
theorem eX1_change_6 : dec cX1_change 6 (.getfield 42) 3 9 := ⟨dX1_change_6, rfl⟩
theorem dX1_change_9 : decode cX1_change 9 = .ok (.if_icmp .ge 44, 3) := by decide +kernel
theorem eX1_change_9 : dec cX1_change 9 (.if_icmp .ge 44) 3 12 := ⟨dX1_change_9, rfl⟩
theorem dX1_change_12 : decode cX1_change 12 = .ok (.aload_n 0, 1) := by decide +kernel
theorem eX1_change_12 : dec cX1_change 12 (.aload_n 0) 1 13 := ⟨dX1_change_12, rfl⟩
theorem dX1_change_13 : decode cX1_change 13 = .ok (.getfield 13, 3) := by decide +kernel
theorem eX1_change_13 : dec cX1_change 13 (.getfield 13) 3 16 := ⟨dX1_change_13, rfl⟩
theorem dX1_change_16 : decode cX1_change 16 = .ok (.iload_n 2, 1) := by decide +kernel
theorem eX1_change_16 : dec cX1_change 16 (.iload_n 2) 1 17 := ⟨dX1_change_16, rfl⟩
theorem dX1_change_17 : decode cX1_change 17 = .ok (.iaload, 1) := by decide +kernel
theorem eX1_change_17 : dec cX1_change 17 .iaload 1 18 := ⟨dX1_change_17, rfl⟩
theorem dX1_change_18 : decode cX1_change 18 = .ok (.aload_n 0, 1) := by decide +kernel
theorem eX1_change_18 : dec cX1_change 18 (.aload_n 0) 1 19 := ⟨dX1_change_18, rfl⟩
theorem dX1_change_19 : decode cX1_change 19 = .ok (.getfield 7, 3) := by decide +kernel
theorem eX1_change_19 : dec cX1_change 19 (.getfield 7) 3 22 := ⟨dX1_change_19, rfl⟩
theorem dX1_change_22 : decode cX1_change 22 = .ok (.iload_n 2, 1) := by decide +kernel
theorem eX1_change_22 : dec cX1_change 22 (.iload_n 2) 1 23 := ⟨dX1_change_22, rfl⟩
theorem dX1_change_23 : decode cX1_change 23 = .ok (.iaload, 1) := by decide +kernel
theorem eX1_change_23 : dec cX1_change 23 .iaload 1 24 := ⟨dX1_change_23, rfl⟩
theorem dX1_change_24 : decode cX1_change 24 = .ok (.if_icmp .eq 9, 3) := by decide +kernel
theorem eX1_change_24 : dec cX1_change 24 (.if_icmp .eq 9) 3 27 := ⟨dX1_change_24, rfl⟩
theorem dX1_change_27 : decode cX1_change 27 = .ok (.iload_n 1, 1) := by decide +kernel
theorem eX1_change_27 : dec cX1_change 27 (.iload_n 1) 1 28 := ⟨dX1_change_27, rfl⟩
theorem dX1_change_28 : decode cX1_change 28 = .ok (.iconst 1, 1) := by decide +kernel
theorem eX1_change_28 : dec cX1_change 28 (.iconst 1) 1 29 := ⟨dX1_change_28, rfl⟩
theorem dX1_change_29 : decode cX1_change 29 = .ok (.iadd, 1) := by decide +kernel
theorem eX1_change_29 : dec cX1_change 29 .iadd 1 30 := ⟨dX1_change_29, rfl⟩
theorem dX1_change_30 : decode cX1_change 30 = .ok (.goto 4, 3) := by decide +kernel
theorem eX1_change_30 : dec cX1_change 30 (.goto 4) 3 33 := ⟨dX1_change_30, rfl⟩
theorem dX1_change_33 : decode cX1_change 33 = .ok (.iload_n 1, 1) := by decide +kernel
theorem eX1_change_33 : dec cX1_change 33 (.iload_n 1) 1 34 := ⟨dX1_change_33, rfl⟩
theorem dX1_change_34 : decode cX1_change 34 = .ok (.istore_n 1, 1) := by decide +kernel
theorem eX1_change_34 : dec cX1_change 34 (.istore_n 1) 1 35 := ⟨dX1_change_34, rfl⟩
theorem dX1_change_35 : decode cX1_change 35 = .ok (.aload_n 0, 1) := by decide +kernel
theorem eX1_change_35 : dec cX1_change 35 (.aload_n 0) 1 36 := ⟨dX1_change_35, rfl⟩
theorem dX1_change_36 : decode cX1_change 36 = .ok (.getfield 7, 3) := by decide +kernel
theorem eX1_change_36 : dec cX1_change 36 (.getfield 7) 3 39 := ⟨dX1_change_36, rfl⟩
theorem dX1_change_39 : decode cX1_change 39 = .ok (.iload_n 2, 1) := by decide +kernel
theorem eX1_change_39 : dec cX1_change 39 (.iload_n 2) 1 40 := ⟨dX1_change_39, rfl⟩
theorem dX1_change_40 : decode cX1_change 40 = .ok (.aload_n 0, 1) := by decide +kernel
theorem eX1_change_40 : dec cX1_change 40 (.aload_n 0) 1 41 := ⟨dX1_change_40, rfl⟩
theorem dX1_change_41 : decode cX1_change 41 = .ok (.getfield 13, 3) := by decide +kernel
theorem eX1_change_41 : dec cX1_change 41 (.getfield 13) 3 44 := ⟨dX1_change_41, rfl⟩
theorem dX1_change_44 : decode cX1_change 44 = .ok (.iload_n 2, 1) := by decide +kernel
theorem eX1_change_44 : dec cX1_change 44 (.iload_n 2) 1 45 := ⟨dX1_change_44, rfl⟩
theorem dX1_change_45 : decode cX1_change 45 = .ok (.iaload, 1) := by decide +kernel
theorem eX1_change_45 : dec cX1_change 45 .iaload 1 46 := ⟨dX1_change_45, rfl⟩
theorem dX1_change_46 : decode cX1_change 46 = .ok (.iastore, 1) := by decide +kernel
theorem eX1_change_46 : dec cX1_change 46 .iastore 1 47 := ⟨dX1_change_46, rfl⟩
theorem dX1_change_47 : decode cX1_change 47 = .ok (.iinc 2 1, 3) := by decide +kernel
theorem eX1_change_47 : dec cX1_change 47 (.iinc 2 1) 3 50 := ⟨dX1_change_47, rfl⟩
theorem dX1_change_50 : decode cX1_change 50 = .ok (.goto (-46), 3) := by decide +kernel
theorem eX1_change_50 : dec cX1_change 50 (.goto (-46)) 3 53 := ⟨dX1_change_50, rfl⟩
theorem dX1_change_53 : decode cX1_change 53 = .ok (.iload_n 1, 1) := by decide +kernel
theorem eX1_change_53 : dec cX1_change 53 (.iload_n 1) 1 54 := ⟨dX1_change_53, rfl⟩
theorem dX1_change_54 : decode cX1_change 54 = .ok (.ireturn, 1) := by decide +kernel
theorem eX1_change_54 : dec cX1_change 54 .ireturn 1 55 := ⟨dX1_change_54, rfl⟩
set_option maxRecDepth 20000 in
theorem ggX1_turn_X1_rowOf : GoodIn wsX1_turn wsX1_rowOf := goodIn_r _ [10, 11, 16, 17, 18, 19, 20, 21, 22, 23, 24, 25, 26, 27, 28, 29, 30] (by decide +kernel) (by decide +kernel)
set_option maxRecDepth 20000 in
theorem gX1_turn_X1_rowOf : GoodIn wsX1_turn (wsV RX1 85 RX1 yX1_rowOf wsX1_rowOf) := goodIn_app (goodIn_of _ (by decide +kernel)) ggX1_turn_X1_rowOf
set_option maxRecDepth 20000 in
theorem ggX1_turn_X1_change : GoodIn wsX1_turn wsX1_change := goodIn_r _ [15, 2, 3, 5, 16, 17, 18, 19, 20, 21, 22, 23, 24, 25, 26, 27, 28, 29, 30] (by decide +kernel) (by decide +kernel)
set_option maxRecDepth 20000 in
theorem gX1_turn_X1_change : GoodIn wsX1_turn (wsV RX1 89 RX1 yX1_change wsX1_change) := goodIn_app (goodIn_of _ (by decide +kernel)) ggX1_turn_X1_change
theorem dX1_turn_0 : decode cX1_turn 0 = .ok (.aload_n 0, 1) := by decide +kernel
theorem eX1_turn_0 : dec cX1_turn 0 (.aload_n 0) 1 1 := ⟨dX1_turn_0, rfl⟩
theorem dX1_turn_1 : decode cX1_turn 1 = .ok (.iconst 0, 1) := by decide +kernel
theorem eX1_turn_1 : dec cX1_turn 1 (.iconst 0) 1 2 := ⟨dX1_turn_1, rfl⟩
theorem dX1_turn_2 : decode cX1_turn 2 = .ok (.putfield 45, 3) := by decide +kernel
theorem eX1_turn_2 : dec cX1_turn 2 (.putfield 45) 3 5 := ⟨dX1_turn_2, rfl⟩
theorem dX1_turn_5 : decode cX1_turn 5 = .ok (.iload_n 1, 1) := by decide +kernel
theorem eX1_turn_5 : dec cX1_turn 5 (.iload_n 1) 1 6 := ⟨dX1_turn_5, rfl⟩
theorem dX1_turn_6 : decode cX1_turn 6 = .ok (.bipush (-100), 2) := by decide +kernel
theorem eX1_turn_6 : dec cX1_turn 6 (.bipush (-100)) 2 8 := ⟨dX1_turn_6, rfl⟩
theorem dX1_turn_8 : decode cX1_turn 8 = .ok (.if_icmp .lt 9, 3) := by decide +kernel
theorem eX1_turn_8 : dec cX1_turn 8 (.if_icmp .lt 9) 3 11 := ⟨dX1_turn_8, rfl⟩
theorem dX1_turn_11 : decode cX1_turn 11 = .ok (.iload_n 1, 1) := by decide +kernel
theorem eX1_turn_11 : dec cX1_turn 11 (.iload_n 1) 1 12 := ⟨dX1_turn_11, rfl⟩
theorem dX1_turn_12 : decode cX1_turn 12 = .ok (.bipush 100, 2) := by decide +kernel
theorem eX1_turn_12 : dec cX1_turn 12 (.bipush 100) 2 14 := ⟨dX1_turn_12, rfl⟩
theorem dX1_turn_14 : decode cX1_turn 14 = .ok (.if_icmp .le 5, 3) := by decide +kernel
theorem eX1_turn_14 : dec cX1_turn 14 (.if_icmp .le 5) 3 17 := ⟨dX1_turn_14, rfl⟩
theorem dX1_turn_17 : decode cX1_turn 17 = .ok (.iconst (-1), 1) := by decide +kernel
theorem eX1_turn_17 : dec cX1_turn 17 (.iconst (-1)) 1 18 := ⟨dX1_turn_17, rfl⟩
theorem dX1_turn_18 : decode cX1_turn 18 = .ok (.ireturn, 1) := by decide +kernel
theorem eX1_turn_18 : dec cX1_turn 18 .ireturn 1 19 := ⟨dX1_turn_18, rfl⟩
theorem dX1_turn_19 : decode cX1_turn 19 = .ok (.iconst 0, 1) := by decide +kernel
theorem eX1_turn_19 : dec cX1_turn 19 (.iconst 0) 1 20 := ⟨dX1_turn_19, rfl⟩
theorem dX1_turn_20 : decode cX1_turn 20 = .ok (.istore_n 2, 1) := by decide +kernel
theorem eX1_turn_20 : dec cX1_turn 20 (.istore_n 2) 1 21 := ⟨dX1_turn_20, rfl⟩
theorem dX1_turn_21 : decode cX1_turn 21 = .ok (.iload_n 2, 1) := by decide +kernel
theorem eX1_turn_21 : dec cX1_turn 21 (.iload_n 2) 1 22 := ⟨dX1_turn_21, rfl⟩
theorem dX1_turn_22 : decode cX1_turn 22 = .ok (.aload_n 0, 1) := by decide +kernel
theorem eX1_turn_22 : dec cX1_turn 22 (.aload_n 0) 1 23 := ⟨dX1_turn_22, rfl⟩
theorem dX1_turn_23 : decode cX1_turn 23 = .ok (.getfield 42, 3) := by decide +kernel
theorem eX1_turn_23 : dec cX1_turn 23 (.getfield 42) 3 26 := ⟨dX1_turn_23, rfl⟩
theorem dX1_turn_26 : decode cX1_turn 26 = .ok (.if_icmp .ge 49, 3) := by decide +kernel
theorem eX1_turn_26 : dec cX1_turn 26 (.if_icmp .ge 49) 3 29 := ⟨dX1_turn_26, rfl⟩
theorem dX1_turn_29 : decode cX1_turn 29 = .ok (.aload_n 0, 1) := by decide +kernel
theorem eX1_turn_29 : dec cX1_turn 29 (.aload_n 0) 1 30 := ⟨dX1_turn_29, rfl⟩
theorem dX1_turn_30 : decode cX1_turn 30 = .ok (.getfield 13, 3) := by decide +kernel
theorem eX1_turn_30 : dec cX1_turn 30 (.getfield 13) 3 33 := ⟨dX1_turn_30, rfl⟩
theorem dX1_turn_33 : decode cX1_turn 33 = .ok (.aload_n 0, 1) := by decide +kernel
theorem eX1_turn_33 : dec cX1_turn 33 (.aload_n 0) 1 34 := ⟨dX1_turn_33, rfl⟩
theorem dX1_turn_34 : decode cX1_turn 34 = .ok (.getfield 35, 3) := by decide +kernel
theorem eX1_turn_34 : dec cX1_turn 34 (.getfield 35) 3 37 := ⟨dX1_turn_34, rfl⟩
theorem dX1_turn_37 : decode cX1_turn 37 = .ok (.aload_n 0, 1) := by decide +kernel
theorem eX1_turn_37 : dec cX1_turn 37 (.aload_n 0) 1 38 := ⟨dX1_turn_37, rfl⟩
theorem dX1_turn_38 : decode cX1_turn 38 = .ok (.iload_n 2, 1) := by decide +kernel
theorem eX1_turn_38 : dec cX1_turn 38 (.iload_n 2) 1 39 := ⟨dX1_turn_38, rfl⟩
theorem dX1_turn_39 : decode cX1_turn 39 = .ok (.aload_n 0, 1) := by decide +kernel
theorem eX1_turn_39 : dec cX1_turn 39 (.aload_n 0) 1 40 := ⟨dX1_turn_39, rfl⟩
theorem dX1_turn_40 : decode cX1_turn 40 = .ok (.getfield 35, 3) := by decide +kernel
theorem eX1_turn_40 : dec cX1_turn 40 (.getfield 35) 3 43 := ⟨dX1_turn_40, rfl⟩
theorem dX1_turn_43 : decode cX1_turn 43 = .ok (.irem, 1) := by decide +kernel
theorem eX1_turn_43 : dec cX1_turn 43 .irem 1 44 := ⟨dX1_turn_43, rfl⟩
theorem dX1_turn_44 : decode cX1_turn 44 = .ok (.iload_n 2, 1) := by decide +kernel
theorem eX1_turn_44 : dec cX1_turn 44 (.iload_n 2) 1 45 := ⟨dX1_turn_44, rfl⟩
theorem dX1_turn_45 : decode cX1_turn 45 = .ok (.aload_n 0, 1) := by decide +kernel
theorem eX1_turn_45 : dec cX1_turn 45 (.aload_n 0) 1 46 := ⟨dX1_turn_45, rfl⟩
theorem dX1_turn_46 : decode cX1_turn 46 = .ok (.getfield 35, 3) := by decide +kernel
theorem eX1_turn_46 : dec cX1_turn 46 (.getfield 35) 3 49 := ⟨dX1_turn_46, rfl⟩
theorem dX1_turn_49 : decode cX1_turn 49 = .ok (.idiv, 1) := by decide +kernel
theorem eX1_turn_49 : dec cX1_turn 49 .idiv 1 50 := ⟨dX1_turn_49, rfl⟩
theorem dX1_turn_50 : decode cX1_turn 50 = .ok (.iload_n 1, 1) := by decide +kernel
theorem eX1_turn_50 : dec cX1_turn 50 (.iload_n 1) 1 51 := ⟨dX1_turn_50, rfl⟩
theorem dX1_turn_51 : decode cX1_turn 51 = .ok (.invokevirtual 85, 3) := by decide +kernel
theorem eX1_turn_51 : dec cX1_turn 51 (.invokevirtual 85) 3 54 := ⟨dX1_turn_51, rfl⟩
theorem dX1_turn_54 : decode cX1_turn 54 = .ok (.imul, 1) := by decide +kernel
theorem eX1_turn_54 : dec cX1_turn 54 .imul 1 55 := ⟨dX1_turn_54, rfl⟩
theorem dX1_turn_55 : decode cX1_turn 55 = .ok (.iload_n 2, 1) := by decide +kernel
theorem eX1_turn_55 : dec cX1_turn 55 (.iload_n 2) 1 56 := ⟨dX1_turn_55, rfl⟩
theorem dX1_turn_56 : decode cX1_turn 56 = .ok (.aload_n 0, 1) := by decide +kernel
theorem eX1_turn_56 : dec cX1_turn 56 (.aload_n 0) 1 57 := ⟨dX1_turn_56, rfl⟩
theorem dX1_turn_57 : decode cX1_turn 57 = .ok (.getfield 35, 3) := by decide +kernel
theorem eX1_turn_57 : dec cX1_turn 57 (.getfield 35) 3 60 := ⟨dX1_turn_57, rfl⟩
theorem dX1_turn_60 : decode cX1_turn 60 = .ok (.irem, 1) := by decide +kernel
theorem eX1_turn_60 : dec cX1_turn 60 .irem 1 61 := ⟨dX1_turn_60, rfl⟩
theorem dX1_turn_61 : decode cX1_turn 61 = .ok (.iadd, 1) := by decide +kernel
theorem eX1_turn_61 : dec cX1_turn 61 .iadd 1 62 := ⟨dX1_turn_61, rfl⟩
theorem dX1_turn_62 : decode cX1_turn 62 = .ok (.aload_n 0, 1) := by decide +kernel
theorem eX1_turn_62 : dec cX1_turn 62 (.aload_n 0) 1 63 := ⟨dX1_turn_62, rfl⟩
theorem dX1_turn_63 : decode cX1_turn 63 = .ok (.getfield 7, 3) := by decide +kernel
theorem eX1_turn_63 : dec cX1_turn 63 (.getfield 7) 3 66 := ⟨dX1_turn_63, rfl⟩
theorem dX1_turn_66 : decode cX1_turn 66 = .ok (.iload_n 2, 1) := by decide +kernel
theorem eX1_turn_66 : dec cX1_turn 66 (.iload_n 2) 1 67 := ⟨dX1_turn_66, rfl⟩
theorem dX1_turn_67 : decode cX1_turn 67 = .ok (.iaload, 1) := by decide +kernel
theorem eX1_turn_67 : dec cX1_turn 67 .iaload 1 68 := ⟨dX1_turn_67, rfl⟩
theorem dX1_turn_68 : decode cX1_turn 68 = .ok (.iastore, 1) := by decide +kernel
theorem eX1_turn_68 : dec cX1_turn 68 .iastore 1 69 := ⟨dX1_turn_68, rfl⟩
theorem dX1_turn_69 : decode cX1_turn 69 = .ok (.iinc 2 1, 3) := by decide +kernel
theorem eX1_turn_69 : dec cX1_turn 69 (.iinc 2 1) 3 72 := ⟨dX1_turn_69, rfl⟩
theorem dX1_turn_72 : decode cX1_turn 72 = .ok (.goto (-51), 3) := by decide +kernel
theorem eX1_turn_72 : dec cX1_turn 72 (.goto (-51)) 3 75 := ⟨dX1_turn_72, rfl⟩
theorem dX1_turn_75 : decode cX1_turn 75 = .ok (.aload_n 0, 1) := by decide +kernel
theorem eX1_turn_75 : dec cX1_turn 75 (.aload_n 0) 1 76 := ⟨dX1_turn_75, rfl⟩
theorem dX1_turn_76 : decode cX1_turn 76 = .ok (.invokevirtual 89, 3) := by decide +kernel
theorem eX1_turn_76 : dec cX1_turn 76 (.invokevirtual 89) 3 79 := ⟨dX1_turn_76, rfl⟩
theorem dX1_turn_79 : decode cX1_turn 79 = .ok (.ireturn, 1) := by decide +kernel
theorem eX1_turn_79 : dec cX1_turn 79 .ireturn 1 80 := ⟨dX1_turn_79, rfl⟩
theorem dX1_pack_0 : decode cX1_pack 0 = .ok (.aload_n 0, 1) := by decide +kernel
theorem eX1_pack_0 : dec cX1_pack 0 (.aload_n 0) 1 1 := ⟨dX1_pack_0, rfl⟩
theorem dX1_pack_1 : decode cX1_pack 1 = .ok (.iconst 0, 1) := by decide +kernel
theorem eX1_pack_1 : dec cX1_pack 1 (.iconst 0) 1 2 := ⟨dX1_pack_1, rfl⟩
theorem dX1_pack_2 : decode cX1_pack 2 = .ok (.putfield 45, 3) := by decide +kernel
theorem eX1_pack_2 : dec cX1_pack 2 (.putfield 45) 3 5 := ⟨dX1_pack_2, rfl⟩
theorem dX1_pack_5 : decode cX1_pack 5 = .ok (.aload_n 0, 1) := by decide +kernel
theorem eX1_pack_5 : dec cX1_pack 5 (.aload_n 0) 1 6 := ⟨dX1_pack_5, rfl⟩
theorem dX1_pack_6 : decode cX1_pack 6 = .ok (.iconst 0, 1) := by decide +kernel
theorem eX1_pack_6 : dec cX1_pack 6 (.iconst 0) 1 7 := ⟨dX1_pack_6, rfl⟩
theorem dX1_pack_7 : decode cX1_pack 7 = .ok (.putfield 92, 3) := by decide +kernel
theorem eX1_pack_7 : dec cX1_pack 7 (.putfield 92) 3 10 := ⟨dX1_pack_7, rfl⟩
theorem dX1_pack_10 : decode cX1_pack 10 = .ok (.iconst 0, 1) := by decide +kernel
theorem eX1_pack_10 : dec cX1_pack 10 (.iconst 0) 1 11 := ⟨dX1_pack_10, rfl⟩
theorem dX1_pack_11 : decode cX1_pack 11 = .ok (.istore_n 1, 1) := by decide +kernel
theorem eX1_pack_11 : dec cX1_pack 11 (.istore_n 1) 1 12 := ⟨dX1_pack_11, rfl⟩
theorem dX1_pack_12 : decode cX1_pack 12 = .ok (.iload_n 1, 1) := by decide +kernel
theorem eX1_pack_12 : dec cX1_pack 12 (.iload_n 1) 1 13 := ⟨dX1_pack_12, rfl⟩
theorem dX1_pack_13 : decode cX1_pack 13 = .ok (.aload_n 0, 1) := by decide +kernel
theorem eX1_pack_13 : dec cX1_pack 13 (.aload_n 0) 1 14 := ⟨dX1_pack_13, rfl⟩
theorem dX1_pack_14 : decode cX1_pack 14 = .ok (.getfield 42, 3) := by decide +kernel
theorem eX1_pack_14 : dec cX1_pack 14 (.getfield 42) 3 17 := ⟨dX1_pack_14, rfl⟩
theorem dX1_pack_17 : decode cX1_pack 17 = .ok (.if_icmp .ge 91, 3) := by decide +kernel
theorem eX1_pack_17 : dec cX1_pack 17 (.if_icmp .ge 91) 3 20 := ⟨dX1_pack_17, rfl⟩
theorem dX1_pack_20 : decode cX1_pack 20 = .ok (.iconst 1, 1) := by decide +kernel
theorem eX1_pack_20 : dec cX1_pack 20 (.iconst 1) 1 21 := ⟨dX1_pack_20, rfl⟩
theorem dX1_pack_21 : decode cX1_pack 21 = .ok (.istore_n 2, 1) := by decide +kernel
theorem eX1_pack_21 : dec cX1_pack 21 (.istore_n 2) 1 22 := ⟨dX1_pack_21, rfl⟩
theorem dX1_pack_22 : decode cX1_pack 22 = .ok (.iload_n 2, 1) := by decide +kernel
theorem eX1_pack_22 : dec cX1_pack 22 (.iload_n 2) 1 23 := ⟨dX1_pack_22, rfl⟩
theorem dX1_pack_23 : decode cX1_pack 23 = .ok (.sipush 255, 3) := by decide +kernel
theorem eX1_pack_23 : dec cX1_pack 23 (.sipush 255) 3 26 := ⟨dX1_pack_23, rfl⟩
theorem dX1_pack_26 : decode cX1_pack 26 = .ok (.if_icmp .ge 36, 3) := by decide +kernel
theorem eX1_pack_26 : dec cX1_pack 26 (.if_icmp .ge 36) 3 29 := ⟨dX1_pack_26, rfl⟩
theorem dX1_pack_29 : decode cX1_pack 29 = .ok (.iload_n 1, 1) := by decide +kernel
theorem eX1_pack_29 : dec cX1_pack 29 (.iload_n 1) 1 30 := ⟨dX1_pack_29, rfl⟩
theorem dX1_pack_30 : decode cX1_pack 30 = .ok (.iload_n 2, 1) := by decide +kernel
theorem eX1_pack_30 : dec cX1_pack 30 (.iload_n 2) 1 31 := ⟨dX1_pack_30, rfl⟩
theorem dX1_pack_31 : decode cX1_pack 31 = .ok (.iadd, 1) := by decide +kernel
theorem eX1_pack_31 : dec cX1_pack 31 .iadd 1 32 := ⟨dX1_pack_31, rfl⟩
theorem dX1_pack_32 : decode cX1_pack 32 = .ok (.aload_n 0, 1) := by decide +kernel
theorem eX1_pack_32 : dec cX1_pack 32 (.aload_n 0) 1 33 := ⟨dX1_pack_32, rfl⟩
theorem dX1_pack_33 : decode cX1_pack 33 = .ok (.getfield 42, 3) := by decide +kernel
theorem eX1_pack_33 : dec cX1_pack 33 (.getfield 42) 3 36 := ⟨dX1_pack_33, rfl⟩
theorem dX1_pack_36 : decode cX1_pack 36 = .ok (.if_icmp .ge 26, 3) := by decide +kernel
theorem eX1_pack_36 : dec cX1_pack 36 (.if_icmp .ge 26) 3 39 := ⟨dX1_pack_36, rfl⟩
theorem dX1_pack_39 : decode cX1_pack 39 = .ok (.aload_n 0, 1) := by decide +kernel
theorem eX1_pack_39 : dec cX1_pack 39 (.aload_n 0) 1 40 := ⟨dX1_pack_39, rfl⟩
theorem dX1_pack_40 : decode cX1_pack 40 = .ok (.getfield 7, 3) := by decide +kernel
theorem eX1_pack_40 : dec cX1_pack 40 (.getfield 7) 3 43 := ⟨dX1_pack_40, rfl⟩
theorem dX1_pack_43 : decode cX1_pack 43 = .ok (.iload_n 1, 1) := by decide +kernel
theorem eX1_pack_43 : dec cX1_pack 43 (.iload_n 1) 1 44 := ⟨dX1_pack_43, rfl⟩
theorem dX1_pack_44 : decode cX1_pack 44 = .ok (.iload_n 2, 1) := by decide +kernel
theorem eX1_pack_44 : dec cX1_pack 44 (.iload_n 2) 1 45 := ⟨dX1_pack_44, rfl⟩
theorem dX1_pack_45 : decode cX1_pack 45 = .ok (.iadd, 1) := by decide +kernel
theorem eX1_pack_45 : dec cX1_pack 45 .iadd 1 46 := ⟨dX1_pack_45, rfl⟩
theorem dX1_pack_46 : decode cX1_pack 46 = .ok (.iaload, 1) := by decide +kernel
theorem eX1_pack_46 : dec cX1_pack 46 .iaload 1 47 := ⟨dX1_pack_46, rfl⟩
theorem dX1_pack_47 : decode cX1_pack 47 = .ok (.aload_n 0, 1) := by decide +kernel
theorem eX1_pack_47 : dec cX1_pack 47 (.aload_n 0) 1 48 := ⟨dX1_pack_47, rfl⟩
theorem dX1_pack_48 : decode cX1_pack 48 = .ok (.getfield 7, 3) := by decide +kernel
theorem eX1_pack_48 : dec cX1_pack 48 (.getfield 7) 3 51 := ⟨dX1_pack_48, rfl⟩
theorem dX1_pack_51 : decode cX1_pack 51 = .ok (.iload_n 1, 1) := by decide +kernel
theorem eX1_pack_51 : dec cX1_pack 51 (.iload_n 1) 1 52 := ⟨dX1_pack_51, rfl⟩
theorem dX1_pack_52 : decode cX1_pack 52 = .ok (.iaload, 1) := by decide +kernel
theorem eX1_pack_52 : dec cX1_pack 52 .iaload 1 53 := ⟨dX1_pack_52, rfl⟩
theorem dX1_pack_53 : decode cX1_pack 53 = .ok (.if_icmp .ne 9, 3) := by decide +kernel
theorem eX1_pack_53 : dec cX1_pack 53 (.if_icmp .ne 9) 3 56 := ⟨dX1_pack_53, rfl⟩
theorem dX1_pack_56 : decode cX1_pack 56 = .ok (.iinc 2 1, 3) := by decide +kernel
theorem eX1_pack_56 : dec cX1_pack 56 (.iinc 2 1) 3 59 := ⟨dX1_pack_56, rfl⟩
theorem dX1_pack_59 : decode cX1_pack 59 = .ok (.goto (-37), 3) := by decide +kernel
theorem eX1_pack_59 : dec cX1_pack 59 (.goto (-37)) 3 62 := ⟨dX1_pack_59, rfl⟩
theorem dX1_pack_62 : decode cX1_pack 62 = .ok (.aload_n 0, 1) := by decide +kernel
theorem eX1_pack_62 : dec cX1_pack 62 (.aload_n 0) 1 63 := ⟨dX1_pack_62, rfl⟩
theorem dX1_pack_63 : decode cX1_pack 63 = .ok (.getfield 28, 3) := by decide +kernel
theorem eX1_pack_63 : dec cX1_pack 63 (.getfield 28) 3 66 := ⟨dX1_pack_63, rfl⟩
theorem dX1_pack_66 : decode cX1_pack 66 = .ok (.aload_n 0, 1) := by decide +kernel
theorem eX1_pack_66 : dec cX1_pack 66 (.aload_n 0) 1 67 := ⟨dX1_pack_66, rfl⟩
theorem dX1_pack_67 : decode cX1_pack 67 = .ok (.getfield 92, 3) := by decide +kernel
theorem eX1_pack_67 : dec cX1_pack 67 (.getfield 92) 3 70 := ⟨dX1_pack_67, rfl⟩
theorem dX1_pack_70 : decode cX1_pack 70 = .ok (.iload_n 2, 1) := by decide +kernel
theorem eX1_pack_70 : dec cX1_pack 70 (.iload_n 2) 1 71 := ⟨dX1_pack_70, rfl⟩
theorem dX1_pack_71 : decode cX1_pack 71 = .ok (.i2b, 1) := by decide +kernel
theorem eX1_pack_71 : dec cX1_pack 71 .i2b 1 72 := ⟨dX1_pack_71, rfl⟩
theorem dX1_pack_72 : decode cX1_pack 72 = .ok (.bastore, 1) := by decide +kernel
theorem eX1_pack_72 : dec cX1_pack 72 .bastore 1 73 := ⟨dX1_pack_72, rfl⟩
theorem dX1_pack_73 : decode cX1_pack 73 = .ok (.aload_n 0, 1) := by decide +kernel
theorem eX1_pack_73 : dec cX1_pack 73 (.aload_n 0) 1 74 := ⟨dX1_pack_73, rfl⟩
theorem dX1_pack_74 : decode cX1_pack 74 = .ok (.getfield 28, 3) := by decide +kernel
theorem eX1_pack_74 : dec cX1_pack 74 (.getfield 28) 3 77 := ⟨dX1_pack_74, rfl⟩
theorem dX1_pack_77 : decode cX1_pack 77 = .ok (.aload_n 0, 1) := by decide +kernel
theorem eX1_pack_77 : dec cX1_pack 77 (.aload_n 0) 1 78 := ⟨dX1_pack_77, rfl⟩
theorem dX1_pack_78 : decode cX1_pack 78 = .ok (.getfield 92, 3) := by decide +kernel
theorem eX1_pack_78 : dec cX1_pack 78 (.getfield 92) 3 81 := ⟨dX1_pack_78, rfl⟩
theorem dX1_pack_81 : decode cX1_pack 81 = .ok (.iconst 1, 1) := by decide +kernel
theorem eX1_pack_81 : dec cX1_pack 81 (.iconst 1) 1 82 := ⟨dX1_pack_81, rfl⟩
theorem dX1_pack_82 : decode cX1_pack 82 = .ok (.iadd, 1) := by decide +kernel
theorem eX1_pack_82 : dec cX1_pack 82 .iadd 1 83 := ⟨dX1_pack_82, rfl⟩
theorem dX1_pack_83 : decode cX1_pack 83 = .ok (.aload_n 0, 1) := by decide +kernel
theorem eX1_pack_83 : dec cX1_pack 83 (.aload_n 0) 1 84 := ⟨dX1_pack_83, rfl⟩
theorem dX1_pack_84 : decode cX1_pack 84 = .ok (.getfield 7, 3) := by decide +kernel
theorem eX1_pack_84 : dec cX1_pack 84 (.getfield 7) 3 87 := ⟨dX1_pack_84, rfl⟩
theorem dX1_pack_87 : decode cX1_pack 87 = .ok (.iload_n 1, 1) := by decide +kernel
theorem eX1_pack_87 : dec cX1_pack 87 (.iload_n 1) 1 88 := ⟨dX1_pack_87, rfl⟩
theorem dX1_pack_88 : decode cX1_pack 88 = .ok (.iaload, 1) := by decide +kernel
theorem eX1_pack_88 : dec cX1_pack 88 .iaload 1 89 := ⟨dX1_pack_88, rfl⟩
theorem dX1_pack_89 : decode cX1_pack 89 = .ok (.i2b, 1) := by decide +kernel
theorem eX1_pack_89 : dec cX1_pack 89 .i2b 1 90 := ⟨dX1_pack_89, rfl⟩
theorem dX1_pack_90 : decode cX1_pack 90 = .ok (.bastore, 1) := by decide +kernel
theorem eX1_pack_90 : dec cX1_pack 90 .bastore 1 91 := ⟨dX1_pack_90, rfl⟩
theorem dX1_pack_91 : decode cX1_pack 91 = .ok (.aload_n 0, 1) := by decide +kernel
theorem eX1_pack_91 : dec cX1_pack 91 (.aload_n 0) 1 92 := ⟨dX1_pack_91, rfl⟩
theorem dX1_pack_92 : decode cX1_pack 92 = .ok (.aload_n 0, 1) := by decide +kernel
theorem eX1_pack_92 : dec cX1_pack 92 (.aload_n 0) 1 93 := ⟨dX1_pack_92, rfl⟩
theorem dX1_pack_93 : decode cX1_pack 93 = .ok (.getfield 92, 3) := by decide +kernel
theorem eX1_pack_93 : dec cX1_pack 93 (.getfield 92) 3 96 := ⟨dX1_pack_93, rfl⟩
theorem dX1_pack_96 : decode cX1_pack 96 = .ok (.iconst 2, 1) := by decide +kernel
theorem eX1_pack_96 : dec cX1_pack 96 (.iconst 2) 1 97 := ⟨dX1_pack_96, rfl⟩
theorem dX1_pack_97 : decode cX1_pack 97 = .ok (.iadd, 1) := by decide +kernel
theorem eX1_pack_97 : dec cX1_pack 97 .iadd 1 98 := ⟨dX1_pack_97, rfl⟩
theorem dX1_pack_98 : decode cX1_pack 98 = .ok (.putfield 92, 3) := by decide +kernel
theorem eX1_pack_98 : dec cX1_pack 98 (.putfield 92) 3 101 := ⟨dX1_pack_98, rfl⟩
theorem dX1_pack_101 : decode cX1_pack 101 = .ok (.iload_n 1, 1) := by decide +kernel
theorem eX1_pack_101 : dec cX1_pack 101 (.iload_n 1) 1 102 := ⟨dX1_pack_101, rfl⟩
theorem dX1_pack_102 : decode cX1_pack 102 = .ok (.iload_n 2, 1) := by decide +kernel
theorem eX1_pack_102 : dec cX1_pack 102 (.iload_n 2) 1 103 := ⟨dX1_pack_102, rfl⟩
theorem dX1_pack_103 : decode cX1_pack 103 = .ok (.iadd, 1) := by decide +kernel
theorem eX1_pack_103 : dec cX1_pack 103 .iadd 1 104 := ⟨dX1_pack_103, rfl⟩
theorem dX1_pack_104 : decode cX1_pack 104 = .ok (.istore_n 1, 1) := by decide +kernel
theorem eX1_pack_104 : dec cX1_pack 104 (.istore_n 1) 1 105 := ⟨dX1_pack_104, rfl⟩
theorem dX1_pack_105 : decode cX1_pack 105 = .ok (.goto (-93), 3) := by decide +kernel
theorem eX1_pack_105 : dec cX1_pack 105 (.goto (-93)) 3 108 := ⟨dX1_pack_105, rfl⟩
theorem dX1_pack_108 : decode cX1_pack 108 = .ok (.aload_n 0, 1) := by decide +kernel
theorem eX1_pack_108 : dec cX1_pack 108 (.aload_n 0) 1 109 := ⟨dX1_pack_108, rfl⟩
theorem dX1_pack_109 : decode cX1_pack 109 = .ok (.getfield 92, 3) := by decide +kernel
theorem eX1_pack_109 : dec cX1_pack 109 (.getfield 92) 3 112 := ⟨dX1_pack_109, rfl⟩
theorem dX1_pack_112 : decode cX1_pack 112 = .ok (.ireturn, 1) := by decide +kernel
theorem eX1_pack_112 : dec cX1_pack 112 .ireturn 1 113 := ⟨dX1_pack_112, rfl⟩
set_option maxRecDepth 20000 in
theorem ggX1_octet_X1_refused : GoodIn wsX1_octet wsX1_refused := goodIn_r _ [7, 8, 9, 10, 11, 12, 13, 14, 15, 16, 17, 18, 19, 20, 21, 22, 23] (by decide +kernel) (by decide +kernel)
set_option maxRecDepth 20000 in
theorem gX1_octet_X1_refused : GoodIn wsX1_octet (wsV RX1 52 RX1 yX1_refused wsX1_refused) := goodIn_app (goodIn_of _ (by decide +kernel)) ggX1_octet_X1_refused
theorem dX1_octet_0 : decode cX1_octet 0 = .ok (.aload_n 0, 1) := by decide +kernel
theorem eX1_octet_0 : dec cX1_octet 0 (.aload_n 0) 1 1 := ⟨dX1_octet_0, rfl⟩
theorem dX1_octet_1 : decode cX1_octet 1 = .ok (.iload_n 1, 1) := by decide +kernel
theorem eX1_octet_1 : dec cX1_octet 1 (.iload_n 1) 1 2 := ⟨dX1_octet_1, rfl⟩
theorem dX1_octet_2 : decode cX1_octet 2 = .ok (.ifCond .lt 11, 3) := by decide +kernel
theorem eX1_octet_2 : dec cX1_octet 2 (.ifCond .lt 11) 3 5 := ⟨dX1_octet_2, rfl⟩
theorem dX1_octet_5 : decode cX1_octet 5 = .ok (.iload_n 1, 1) := by decide +kernel
theorem eX1_octet_5 : dec cX1_octet 5 (.iload_n 1) 1 6 := ⟨dX1_octet_5, rfl⟩
theorem dX1_octet_6 : decode cX1_octet 6 = .ok (.aload_n 0, 1) := by decide +kernel
theorem eX1_octet_6 : dec cX1_octet 6 (.aload_n 0) 1 7 := ⟨dX1_octet_6, rfl⟩
theorem dX1_octet_7 : decode cX1_octet 7 = .ok (.getfield 92, 3) := by decide +kernel
theorem eX1_octet_7 : dec cX1_octet 7 (.getfield 92) 3 10 := ⟨dX1_octet_7, rfl⟩
theorem dX1_octet_10 : decode cX1_octet 10 = .ok (.if_icmp .lt 7, 3) := by decide +kernel
theorem eX1_octet_10 : dec cX1_octet 10 (.if_icmp .lt 7) 3 13 := ⟨dX1_octet_10, rfl⟩
theorem dX1_octet_13 : decode cX1_octet 13 = .ok (.iconst 1, 1) := by decide +kernel
theorem eX1_octet_13 : dec cX1_octet 13 (.iconst 1) 1 14 := ⟨dX1_octet_13, rfl⟩
theorem dX1_octet_14 : decode cX1_octet 14 = .ok (.goto 4, 3) := by decide +kernel
theorem eX1_octet_14 : dec cX1_octet 14 (.goto 4) 3 17 := ⟨dX1_octet_14, rfl⟩
theorem dX1_octet_17 : decode cX1_octet 17 = .ok (.iconst 0, 1) := by decide +kernel
theorem eX1_octet_17 : dec cX1_octet 17 (.iconst 0) 1 18 := ⟨dX1_octet_17, rfl⟩
theorem dX1_octet_18 : decode cX1_octet 18 = .ok (.invokevirtual 52, 3) := by decide +kernel
theorem eX1_octet_18 : dec cX1_octet 18 (.invokevirtual 52) 3 21 := ⟨dX1_octet_18, rfl⟩
theorem dX1_octet_21 : decode cX1_octet 21 = .ok (.ifCond .eq 7, 3) := by decide +kernel
theorem eX1_octet_21 : dec cX1_octet 21 (.ifCond .eq 7) 3 24 := ⟨dX1_octet_21, rfl⟩
theorem dX1_octet_24 : decode cX1_octet 24 = .ok (.iconst 0, 1) := by decide +kernel
theorem eX1_octet_24 : dec cX1_octet 24 (.iconst 0) 1 25 := ⟨dX1_octet_24, rfl⟩
theorem dX1_octet_25 : decode cX1_octet 25 = .ok (.goto 9, 3) := by decide +kernel
theorem eX1_octet_25 : dec cX1_octet 25 (.goto 9) 3 28 := ⟨dX1_octet_25, rfl⟩
theorem dX1_octet_28 : decode cX1_octet 28 = .ok (.aload_n 0, 1) := by decide +kernel
theorem eX1_octet_28 : dec cX1_octet 28 (.aload_n 0) 1 29 := ⟨dX1_octet_28, rfl⟩
theorem dX1_octet_29 : decode cX1_octet 29 = .ok (.getfield 28, 3) := by decide +kernel
theorem eX1_octet_29 : dec cX1_octet 29 (.getfield 28) 3 32 := ⟨dX1_octet_29, rfl⟩
theorem dX1_octet_32 : decode cX1_octet 32 = .ok (.iload_n 1, 1) := by decide +kernel
theorem eX1_octet_32 : dec cX1_octet 32 (.iload_n 1) 1 33 := ⟨dX1_octet_32, rfl⟩
theorem dX1_octet_33 : decode cX1_octet 33 = .ok (.baload, 1) := by decide +kernel
theorem eX1_octet_33 : dec cX1_octet 33 .baload 1 34 := ⟨dX1_octet_33, rfl⟩
theorem dX1_octet_34 : decode cX1_octet 34 = .ok (.ireturn, 1) := by decide +kernel
theorem eX1_octet_34 : dec cX1_octet 34 .ireturn 1 35 := ⟨dX1_octet_34, rfl⟩
theorem dX1_add_0 : decode cX1_add 0 = .ok (.aload_n 0, 1) := by decide +kernel
theorem eX1_add_0 : dec cX1_add 0 (.aload_n 0) 1 1 := ⟨dX1_add_0, rfl⟩
theorem dX1_add_1 : decode cX1_add 1 = .ok (.iconst 0, 1) := by decide +kernel
theorem eX1_add_1 : dec cX1_add 1 (.iconst 0) 1 2 := ⟨dX1_add_1, rfl⟩
theorem dX1_add_2 : decode cX1_add 2 = .ok (.putfield 45, 3) := by decide +kernel
theorem eX1_add_2 : dec cX1_add 2 (.putfield 45) 3 5 := ⟨dX1_add_2, rfl⟩
theorem dX1_add_5 : decode cX1_add 5 = .ok (.aload_n 0, 1) := by decide +kernel
theorem eX1_add_5 : dec cX1_add 5 (.aload_n 0) 1 6 := ⟨dX1_add_5, rfl⟩
theorem dX1_add_6 : decode cX1_add 6 = .ok (.getfield 95, 3) := by decide +kernel
theorem eX1_add_6 : dec cX1_add 6 (.getfield 95) 3 9 := ⟨dX1_add_6, rfl⟩
theorem dX1_add_9 : decode cX1_add 9 = .ok (.sipush 5000, 3) := by decide +kernel
theorem eX1_add_9 : dec cX1_add 9 (.sipush 5000) 3 12 := ⟨dX1_add_9, rfl⟩
theorem dX1_add_12 : decode cX1_add 12 = .ok (.if_icmp .ge 23, 3) := by decide +kernel
theorem eX1_add_12 : dec cX1_add 12 (.if_icmp .ge 23) 3 15 := ⟨dX1_add_12, rfl⟩
theorem dX1_add_15 : decode cX1_add 15 = .ok (.aload_n 0, 1) := by decide +kernel
theorem eX1_add_15 : dec cX1_add 15 (.aload_n 0) 1 16 := ⟨dX1_add_15, rfl⟩
theorem dX1_add_16 : decode cX1_add 16 = .ok (.getfield 32, 3) := by decide +kernel
theorem eX1_add_16 : dec cX1_add 16 (.getfield 32) 3 19 := ⟨dX1_add_16, rfl⟩
theorem dX1_add_19 : decode cX1_add 19 = .ok (.aload_n 0, 1) := by decide +kernel
theorem eX1_add_19 : dec cX1_add 19 (.aload_n 0) 1 20 := ⟨dX1_add_19, rfl⟩
theorem dX1_add_20 : decode cX1_add 20 = .ok (.getfield 95, 3) := by decide +kernel
theorem eX1_add_20 : dec cX1_add 20 (.getfield 95) 3 23 := ⟨dX1_add_20, rfl⟩
theorem dX1_add_23 : decode cX1_add 23 = .ok (.iload_n 1, 1) := by decide +kernel
theorem eX1_add_23 : dec cX1_add 23 (.iload_n 1) 1 24 := ⟨dX1_add_23, rfl⟩
theorem dX1_add_24 : decode cX1_add 24 = .ok (.bastore, 1) := by decide +kernel
theorem eX1_add_24 : dec cX1_add 24 .bastore 1 25 := ⟨dX1_add_24, rfl⟩
theorem dX1_add_25 : decode cX1_add 25 = .ok (.aload_n 0, 1) := by decide +kernel
theorem eX1_add_25 : dec cX1_add 25 (.aload_n 0) 1 26 := ⟨dX1_add_25, rfl⟩
theorem dX1_add_26 : decode cX1_add 26 = .ok (.dup, 1) := by decide +kernel
theorem eX1_add_26 : dec cX1_add 26 .dup 1 27 := ⟨dX1_add_26, rfl⟩
theorem dX1_add_27 : decode cX1_add 27 = .ok (.getfield 95, 3) := by decide +kernel
theorem eX1_add_27 : dec cX1_add 27 (.getfield 95) 3 30 := ⟨dX1_add_27, rfl⟩
theorem dX1_add_30 : decode cX1_add 30 = .ok (.iconst 1, 1) := by decide +kernel
theorem eX1_add_30 : dec cX1_add 30 (.iconst 1) 1 31 := ⟨dX1_add_30, rfl⟩
theorem dX1_add_31 : decode cX1_add 31 = .ok (.iadd, 1) := by decide +kernel
theorem eX1_add_31 : dec cX1_add 31 .iadd 1 32 := ⟨dX1_add_31, rfl⟩
theorem dX1_add_32 : decode cX1_add 32 = .ok (.putfield 95, 3) := by decide +kernel
theorem eX1_add_32 : dec cX1_add 32 (.putfield 95) 3 35 := ⟨dX1_add_32, rfl⟩
theorem dX1_add_35 : decode cX1_add 35 = .ok (.return_, 1) := by decide +kernel
theorem eX1_add_35 : dec cX1_add 35 .return_ 1 36 := ⟨dX1_add_35, rfl⟩
set_option maxRecDepth 20000 in
theorem ggX1_unpack_X1_change : GoodIn wsX1_unpack wsX1_change := goodIn_r _ [10, 3, 5, 11, 12, 13, 14, 15, 16, 17, 18, 19, 20, 21, 22, 23, 24, 25, 26] (by decide +kernel) (by decide +kernel)
set_option maxRecDepth 20000 in
theorem gX1_unpack_X1_change : GoodIn wsX1_unpack (wsV RX1 89 RX1 yX1_change wsX1_change) := goodIn_app (goodIn_of _ (by decide +kernel)) ggX1_unpack_X1_change
theorem dX1_unpack_0 : decode cX1_unpack 0 = .ok (.aload_n 0, 1) := by decide +kernel
theorem eX1_unpack_0 : dec cX1_unpack 0 (.aload_n 0) 1 1 := ⟨dX1_unpack_0, rfl⟩
theorem dX1_unpack_1 : decode cX1_unpack 1 = .ok (.iconst 0, 1) := by decide +kernel
theorem eX1_unpack_1 : dec cX1_unpack 1 (.iconst 0) 1 2 := ⟨dX1_unpack_1, rfl⟩
theorem dX1_unpack_2 : decode cX1_unpack 2 = .ok (.putfield 45, 3) := by decide +kernel
theorem eX1_unpack_2 : dec cX1_unpack 2 (.putfield 45) 3 5 := ⟨dX1_unpack_2, rfl⟩
theorem dX1_unpack_5 : decode cX1_unpack 5 = .ok (.aload_n 0, 1) := by decide +kernel
theorem eX1_unpack_5 : dec cX1_unpack 5 (.aload_n 0) 1 6 := ⟨dX1_unpack_5, rfl⟩
theorem dX1_unpack_6 : decode cX1_unpack 6 = .ok (.getfield 95, 3) := by decide +kernel
theorem eX1_unpack_6 : dec cX1_unpack 6 (.getfield 95) 3 9 := ⟨dX1_unpack_6, rfl⟩
theorem dX1_unpack_9 : decode cX1_unpack 9 = .ok (.istore_n 1, 1) := by decide +kernel
theorem eX1_unpack_9 : dec cX1_unpack 9 (.istore_n 1) 1 10 := ⟨dX1_unpack_9, rfl⟩
theorem dX1_unpack_10 : decode cX1_unpack 10 = .ok (.aload_n 0, 1) := by decide +kernel
theorem eX1_unpack_10 : dec cX1_unpack 10 (.aload_n 0) 1 11 := ⟨dX1_unpack_10, rfl⟩
theorem dX1_unpack_11 : decode cX1_unpack 11 = .ok (.iconst 0, 1) := by decide +kernel
theorem eX1_unpack_11 : dec cX1_unpack 11 (.iconst 0) 1 12 := ⟨dX1_unpack_11, rfl⟩
theorem dX1_unpack_12 : decode cX1_unpack 12 = .ok (.putfield 95, 3) := by decide +kernel
theorem eX1_unpack_12 : dec cX1_unpack 12 (.putfield 95) 3 15 := ⟨dX1_unpack_12, rfl⟩
theorem dX1_unpack_15 : decode cX1_unpack 15 = .ok (.iconst 0, 1) := by decide +kernel
theorem eX1_unpack_15 : dec cX1_unpack 15 (.iconst 0) 1 16 := ⟨dX1_unpack_15, rfl⟩
theorem dX1_unpack_16 : decode cX1_unpack 16 = .ok (.istore_n 2, 1) := by decide +kernel
theorem eX1_unpack_16 : dec cX1_unpack 16 (.istore_n 2) 1 17 := ⟨dX1_unpack_16, rfl⟩
theorem dX1_unpack_17 : decode cX1_unpack 17 = .ok (.iconst 0, 1) := by decide +kernel
theorem eX1_unpack_17 : dec cX1_unpack 17 (.iconst 0) 1 18 := ⟨dX1_unpack_17, rfl⟩
theorem dX1_unpack_18 : decode cX1_unpack 18 = .ok (.istore_n 3, 1) := by decide +kernel
theorem eX1_unpack_18 : dec cX1_unpack 18 (.istore_n 3) 1 19 := ⟨dX1_unpack_18, rfl⟩
theorem dX1_unpack_19 : decode cX1_unpack 19 = .ok (.iload_n 3, 1) := by decide +kernel
theorem eX1_unpack_19 : dec cX1_unpack 19 (.iload_n 3) 1 20 := ⟨dX1_unpack_19, rfl⟩
theorem dX1_unpack_20 : decode cX1_unpack 20 = .ok (.aload_n 0, 1) := by decide +kernel
theorem eX1_unpack_20 : dec cX1_unpack 20 (.aload_n 0) 1 21 := ⟨dX1_unpack_20, rfl⟩
theorem dX1_unpack_21 : decode cX1_unpack 21 = .ok (.getfield 42, 3) := by decide +kernel
theorem eX1_unpack_21 : dec cX1_unpack 21 (.getfield 42) 3 24 := ⟨dX1_unpack_21, rfl⟩
theorem dX1_unpack_24 : decode cX1_unpack 24 = .ok (.if_icmp .ge 104, 3) := by decide +kernel
theorem eX1_unpack_24 : dec cX1_unpack 24 (.if_icmp .ge 104) 3 27 := ⟨dX1_unpack_24, rfl⟩
theorem dX1_unpack_27 : decode cX1_unpack 27 = .ok (.iload_n 2, 1) := by decide +kernel
theorem eX1_unpack_27 : dec cX1_unpack 27 (.iload_n 2) 1 28 := ⟨dX1_unpack_27, rfl⟩
theorem dX1_unpack_28 : decode cX1_unpack 28 = .ok (.iload_n 1, 1) := by decide +kernel
theorem eX1_unpack_28 : dec cX1_unpack 28 (.iload_n 1) 1 29 := ⟨dX1_unpack_28, rfl⟩
theorem dX1_unpack_29 : decode cX1_unpack 29 = .ok (.if_icmp .lt 7, 3) := by decide +kernel
theorem eX1_unpack_29 : dec cX1_unpack 29 (.if_icmp .lt 7) 3 32 := ⟨dX1_unpack_29, rfl⟩
theorem dX1_unpack_32 : decode cX1_unpack 32 = .ok (.iconst (-1), 1) := by decide +kernel
theorem eX1_unpack_32 : dec cX1_unpack 32 (.iconst (-1)) 1 33 := ⟨dX1_unpack_32, rfl⟩
theorem dX1_unpack_33 : decode cX1_unpack 33 = .ok (.iload_n 1, 1) := by decide +kernel
theorem eX1_unpack_33 : dec cX1_unpack 33 (.iload_n 1) 1 34 := ⟨dX1_unpack_33, rfl⟩
theorem dX1_unpack_34 : decode cX1_unpack 34 = .ok (.isub, 1) := by decide +kernel
theorem eX1_unpack_34 : dec cX1_unpack 34 .isub 1 35 := ⟨dX1_unpack_34, rfl⟩
theorem dX1_unpack_35 : decode cX1_unpack 35 = .ok (.ireturn, 1) := by decide +kernel
theorem eX1_unpack_35 : dec cX1_unpack 35 .ireturn 1 36 := ⟨dX1_unpack_35, rfl⟩
theorem dX1_unpack_36 : decode cX1_unpack 36 = .ok (.aload_n 0, 1) := by decide +kernel
theorem eX1_unpack_36 : dec cX1_unpack 36 (.aload_n 0) 1 37 := ⟨dX1_unpack_36, rfl⟩
theorem dX1_unpack_37 : decode cX1_unpack 37 = .ok (.getfield 32, 3) := by decide +kernel
theorem eX1_unpack_37 : dec cX1_unpack 37 (.getfield 32) 3 40 := ⟨dX1_unpack_37, rfl⟩
theorem dX1_unpack_40 : decode cX1_unpack 40 = .ok (.iload_n 2, 1) := by decide +kernel
theorem eX1_unpack_40 : dec cX1_unpack 40 (.iload_n 2) 1 41 := ⟨dX1_unpack_40, rfl⟩
theorem dX1_unpack_41 : decode cX1_unpack 41 = .ok (.baload, 1) := by decide +kernel
theorem eX1_unpack_41 : dec cX1_unpack 41 .baload 1 42 := ⟨dX1_unpack_41, rfl⟩
theorem dX1_unpack_42 : decode cX1_unpack 42 = .ok (.sipush 255, 3) := by decide +kernel
theorem eX1_unpack_42 : dec cX1_unpack 42 (.sipush 255) 3 45 := ⟨dX1_unpack_42, rfl⟩
theorem dX1_unpack_45 : decode cX1_unpack 45 = .ok (.iand, 1) := by decide +kernel
theorem eX1_unpack_45 : dec cX1_unpack 45 .iand 1 46 := ⟨dX1_unpack_45, rfl⟩
theorem dX1_unpack_46 : decode cX1_unpack 46 = .ok (.istore 4, 2) := by decide +kernel
theorem eX1_unpack_46 : dec cX1_unpack 46 (.istore 4) 2 48 := ⟨dX1_unpack_46, rfl⟩
theorem dX1_unpack_48 : decode cX1_unpack 48 = .ok (.iload 4, 2) := by decide +kernel
theorem eX1_unpack_48 : dec cX1_unpack 48 (.iload 4) 2 50 := ⟨dX1_unpack_48, rfl⟩
theorem dX1_unpack_50 : decode cX1_unpack 50 = .ok (.ifCond .eq 14, 3) := by decide +kernel
theorem eX1_unpack_50 : dec cX1_unpack 50 (.ifCond .eq 14) 3 53 := ⟨dX1_unpack_50, rfl⟩
theorem dX1_unpack_53 : decode cX1_unpack 53 = .ok (.iload_n 3, 1) := by decide +kernel
theorem eX1_unpack_53 : dec cX1_unpack 53 (.iload_n 3) 1 54 := ⟨dX1_unpack_53, rfl⟩
theorem dX1_unpack_54 : decode cX1_unpack 54 = .ok (.iload 4, 2) := by decide +kernel
theorem eX1_unpack_54 : dec cX1_unpack 54 (.iload 4) 2 56 := ⟨dX1_unpack_54, rfl⟩
theorem dX1_unpack_56 : decode cX1_unpack 56 = .ok (.iadd, 1) := by decide +kernel
theorem eX1_unpack_56 : dec cX1_unpack 56 .iadd 1 57 := ⟨dX1_unpack_56, rfl⟩
theorem dX1_unpack_57 : decode cX1_unpack 57 = .ok (.aload_n 0, 1) := by decide +kernel
theorem eX1_unpack_57 : dec cX1_unpack 57 (.aload_n 0) 1 58 := ⟨dX1_unpack_57, rfl⟩
theorem dX1_unpack_58 : decode cX1_unpack 58 = .ok (.getfield 42, 3) := by decide +kernel
theorem eX1_unpack_58 : dec cX1_unpack 58 (.getfield 42) 3 61 := ⟨dX1_unpack_58, rfl⟩
theorem dX1_unpack_61 : decode cX1_unpack 61 = .ok (.if_icmp .le 7, 3) := by decide +kernel
theorem eX1_unpack_61 : dec cX1_unpack 61 (.if_icmp .le 7) 3 64 := ⟨dX1_unpack_61, rfl⟩
theorem dX1_unpack_64 : decode cX1_unpack 64 = .ok (.iconst (-1), 1) := by decide +kernel
theorem eX1_unpack_64 : dec cX1_unpack 64 (.iconst (-1)) 1 65 := ⟨dX1_unpack_64, rfl⟩
theorem dX1_unpack_65 : decode cX1_unpack 65 = .ok (.iload_n 2, 1) := by decide +kernel
theorem eX1_unpack_65 : dec cX1_unpack 65 (.iload_n 2) 1 66 := ⟨dX1_unpack_65, rfl⟩
theorem dX1_unpack_66 : decode cX1_unpack 66 = .ok (.isub, 1) := by decide +kernel
theorem eX1_unpack_66 : dec cX1_unpack 66 .isub 1 67 := ⟨dX1_unpack_66, rfl⟩
theorem dX1_unpack_67 : decode cX1_unpack 67 = .ok (.ireturn, 1) := by decide +kernel
theorem eX1_unpack_67 : dec cX1_unpack 67 .ireturn 1 68 := ⟨dX1_unpack_67, rfl⟩
theorem dX1_unpack_68 : decode cX1_unpack 68 = .ok (.iload_n 2, 1) := by decide +kernel
theorem eX1_unpack_68 : dec cX1_unpack 68 (.iload_n 2) 1 69 := ⟨dX1_unpack_68, rfl⟩
theorem dX1_unpack_69 : decode cX1_unpack 69 = .ok (.iconst 1, 1) := by decide +kernel
theorem eX1_unpack_69 : dec cX1_unpack 69 (.iconst 1) 1 70 := ⟨dX1_unpack_69, rfl⟩
theorem dX1_unpack_70 : decode cX1_unpack 70 = .ok (.iadd, 1) := by decide +kernel
theorem eX1_unpack_70 : dec cX1_unpack 70 .iadd 1 71 := ⟨dX1_unpack_70, rfl⟩
theorem dX1_unpack_71 : decode cX1_unpack 71 = .ok (.iload_n 1, 1) := by decide +kernel
theorem eX1_unpack_71 : dec cX1_unpack 71 (.iload_n 1) 1 72 := ⟨dX1_unpack_71, rfl⟩
theorem dX1_unpack_72 : decode cX1_unpack 72 = .ok (.if_icmp .lt 7, 3) := by decide +kernel
theorem eX1_unpack_72 : dec cX1_unpack 72 (.if_icmp .lt 7) 3 75 := ⟨dX1_unpack_72, rfl⟩
theorem dX1_unpack_75 : decode cX1_unpack 75 = .ok (.iconst (-1), 1) := by decide +kernel
theorem eX1_unpack_75 : dec cX1_unpack 75 (.iconst (-1)) 1 76 := ⟨dX1_unpack_75, rfl⟩
theorem dX1_unpack_76 : decode cX1_unpack 76 = .ok (.iload_n 1, 1) := by decide +kernel
theorem eX1_unpack_76 : dec cX1_unpack 76 (.iload_n 1) 1 77 := ⟨dX1_unpack_76, rfl⟩
theorem dX1_unpack_77 : decode cX1_unpack 77 = .ok (.isub, 1) := by decide +kernel
theorem eX1_unpack_77 : dec cX1_unpack 77 .isub 1 78 := ⟨dX1_unpack_77, rfl⟩
theorem dX1_unpack_78 : decode cX1_unpack 78 = .ok (.ireturn, 1) := by decide +kernel
theorem eX1_unpack_78 : dec cX1_unpack 78 .ireturn 1 79 := ⟨dX1_unpack_78, rfl⟩
theorem dX1_unpack_79 : decode cX1_unpack 79 = .ok (.iconst 0, 1) := by decide +kernel
theorem eX1_unpack_79 : dec cX1_unpack 79 (.iconst 0) 1 80 := ⟨dX1_unpack_79, rfl⟩
theorem dX1_unpack_80 : decode cX1_unpack 80 = .ok (.istore 5, 2) := by decide +kernel
theorem eX1_unpack_80 : dec cX1_unpack 80 (.istore 5) 2 82 := ⟨dX1_unpack_80, rfl⟩
theorem dX1_unpack_82 : decode cX1_unpack 82 = .ok (.iload 5, 2) := by decide +kernel
theorem eX1_unpack_82 : dec cX1_unpack 82 (.iload 5) 2 84 := ⟨dX1_unpack_82, rfl⟩
theorem dX1_unpack_84 : decode cX1_unpack 84 = .ok (.iload 4, 2) := by decide +kernel
theorem eX1_unpack_84 : dec cX1_unpack 84 (.iload 4) 2 86 := ⟨dX1_unpack_84, rfl⟩
theorem dX1_unpack_86 : decode cX1_unpack 86 = .ok (.if_icmp .ge 30, 3) := by decide +kernel
theorem eX1_unpack_86 : dec cX1_unpack 86 (.if_icmp .ge 30) 3 89 := ⟨dX1_unpack_86, rfl⟩
theorem dX1_unpack_89 : decode cX1_unpack 89 = .ok (.aload_n 0, 1) := by decide +kernel
theorem eX1_unpack_89 : dec cX1_unpack 89 (.aload_n 0) 1 90 := ⟨dX1_unpack_89, rfl⟩
theorem dX1_unpack_90 : decode cX1_unpack 90 = .ok (.getfield 13, 3) := by decide +kernel
theorem eX1_unpack_90 : dec cX1_unpack 90 (.getfield 13) 3 93 := ⟨dX1_unpack_90, rfl⟩
theorem dX1_unpack_93 : decode cX1_unpack 93 = .ok (.iload_n 3, 1) := by decide +kernel
theorem eX1_unpack_93 : dec cX1_unpack 93 (.iload_n 3) 1 94 := ⟨dX1_unpack_93, rfl⟩
theorem dX1_unpack_94 : decode cX1_unpack 94 = .ok (.iload 5, 2) := by decide +kernel
theorem eX1_unpack_94 : dec cX1_unpack 94 (.iload 5) 2 96 := ⟨dX1_unpack_94, rfl⟩
theorem dX1_unpack_96 : decode cX1_unpack 96 = .ok (.iadd, 1) := by decide +kernel
theorem eX1_unpack_96 : dec cX1_unpack 96 .iadd 1 97 := ⟨dX1_unpack_96, rfl⟩
theorem dX1_unpack_97 : decode cX1_unpack 97 = .ok (.aload_n 0, 1) := by decide +kernel
theorem eX1_unpack_97 : dec cX1_unpack 97 (.aload_n 0) 1 98 := ⟨dX1_unpack_97, rfl⟩
theorem dX1_unpack_98 : decode cX1_unpack 98 = .ok (.getfield 32, 3) := by decide +kernel
theorem eX1_unpack_98 : dec cX1_unpack 98 (.getfield 32) 3 101 := ⟨dX1_unpack_98, rfl⟩
theorem dX1_unpack_101 : decode cX1_unpack 101 = .ok (.iload_n 2, 1) := by decide +kernel
theorem eX1_unpack_101 : dec cX1_unpack 101 (.iload_n 2) 1 102 := ⟨dX1_unpack_101, rfl⟩
theorem dX1_unpack_102 : decode cX1_unpack 102 = .ok (.iconst 1, 1) := by decide +kernel
theorem eX1_unpack_102 : dec cX1_unpack 102 (.iconst 1) 1 103 := ⟨dX1_unpack_102, rfl⟩
theorem dX1_unpack_103 : decode cX1_unpack 103 = .ok (.iadd, 1) := by decide +kernel
theorem eX1_unpack_103 : dec cX1_unpack 103 .iadd 1 104 := ⟨dX1_unpack_103, rfl⟩
theorem dX1_unpack_104 : decode cX1_unpack 104 = .ok (.baload, 1) := by decide +kernel
theorem eX1_unpack_104 : dec cX1_unpack 104 .baload 1 105 := ⟨dX1_unpack_104, rfl⟩
theorem dX1_unpack_105 : decode cX1_unpack 105 = .ok (.sipush 255, 3) := by decide +kernel
theorem eX1_unpack_105 : dec cX1_unpack 105 (.sipush 255) 3 108 := ⟨dX1_unpack_105, rfl⟩
theorem dX1_unpack_108 : decode cX1_unpack 108 = .ok (.iand, 1) := by decide +kernel
theorem eX1_unpack_108 : dec cX1_unpack 108 .iand 1 109 := ⟨dX1_unpack_108, rfl⟩
theorem dX1_unpack_109 : decode cX1_unpack 109 = .ok (.iastore, 1) := by decide +kernel
theorem eX1_unpack_109 : dec cX1_unpack 109 .iastore 1 110 := ⟨dX1_unpack_109, rfl⟩
theorem dX1_unpack_110 : decode cX1_unpack 110 = .ok (.iinc 5 1, 3) := by decide +kernel
theorem eX1_unpack_110 : dec cX1_unpack 110 (.iinc 5 1) 3 113 := ⟨dX1_unpack_110, rfl⟩
theorem dX1_unpack_113 : decode cX1_unpack 113 = .ok (.goto (-31), 3) := by decide +kernel
theorem eX1_unpack_113 : dec cX1_unpack 113 (.goto (-31)) 3 116 := ⟨dX1_unpack_113, rfl⟩
theorem dX1_unpack_116 : decode cX1_unpack 116 = .ok (.iload_n 3, 1) := by decide +kernel
theorem eX1_unpack_116 : dec cX1_unpack 116 (.iload_n 3) 1 117 := ⟨dX1_unpack_116, rfl⟩
theorem dX1_unpack_117 : decode cX1_unpack 117 = .ok (.iload 4, 2) := by decide +kernel
theorem eX1_unpack_117 : dec cX1_unpack 117 (.iload 4) 2 119 := ⟨dX1_unpack_117, rfl⟩
theorem dX1_unpack_119 : decode cX1_unpack 119 = .ok (.iadd, 1) := by decide +kernel
theorem eX1_unpack_119 : dec cX1_unpack 119 .iadd 1 120 := ⟨dX1_unpack_119, rfl⟩
theorem dX1_unpack_120 : decode cX1_unpack 120 = .ok (.istore_n 3, 1) := by decide +kernel
theorem eX1_unpack_120 : dec cX1_unpack 120 (.istore_n 3) 1 121 := ⟨dX1_unpack_120, rfl⟩
theorem dX1_unpack_121 : decode cX1_unpack 121 = .ok (.iload_n 2, 1) := by decide +kernel
theorem eX1_unpack_121 : dec cX1_unpack 121 (.iload_n 2) 1 122 := ⟨dX1_unpack_121, rfl⟩
theorem dX1_unpack_122 : decode cX1_unpack 122 = .ok (.iconst 2, 1) := by decide +kernel
theorem eX1_unpack_122 : dec cX1_unpack 122 (.iconst 2) 1 123 := ⟨dX1_unpack_122, rfl⟩
theorem dX1_unpack_123 : decode cX1_unpack 123 = .ok (.iadd, 1) := by decide +kernel
theorem eX1_unpack_123 : dec cX1_unpack 123 .iadd 1 124 := ⟨dX1_unpack_123, rfl⟩
theorem dX1_unpack_124 : decode cX1_unpack 124 = .ok (.istore_n 2, 1) := by decide +kernel
theorem eX1_unpack_124 : dec cX1_unpack 124 (.istore_n 2) 1 125 := ⟨dX1_unpack_124, rfl⟩
theorem dX1_unpack_125 : decode cX1_unpack 125 = .ok (.goto (-106), 3) := by decide +kernel
theorem eX1_unpack_125 : dec cX1_unpack 125 (.goto (-106)) 3 128 := ⟨dX1_unpack_125, rfl⟩
theorem dX1_unpack_128 : decode cX1_unpack 128 = .ok (.iload_n 2, 1) := by decide +kernel
theorem eX1_unpack_128 : dec cX1_unpack 128 (.iload_n 2) 1 129 := ⟨dX1_unpack_128, rfl⟩
theorem dX1_unpack_129 : decode cX1_unpack 129 = .ok (.iload_n 1, 1) := by decide +kernel
theorem eX1_unpack_129 : dec cX1_unpack 129 (.iload_n 1) 1 130 := ⟨dX1_unpack_129, rfl⟩
theorem dX1_unpack_130 : decode cX1_unpack 130 = .ok (.if_icmp .ge 7, 3) := by decide +kernel
theorem eX1_unpack_130 : dec cX1_unpack 130 (.if_icmp .ge 7) 3 133 := ⟨dX1_unpack_130, rfl⟩
theorem dX1_unpack_133 : decode cX1_unpack 133 = .ok (.iconst (-1), 1) := by decide +kernel
theorem eX1_unpack_133 : dec cX1_unpack 133 (.iconst (-1)) 1 134 := ⟨dX1_unpack_133, rfl⟩
theorem dX1_unpack_134 : decode cX1_unpack 134 = .ok (.iload_n 2, 1) := by decide +kernel
theorem eX1_unpack_134 : dec cX1_unpack 134 (.iload_n 2) 1 135 := ⟨dX1_unpack_134, rfl⟩
theorem dX1_unpack_135 : decode cX1_unpack 135 = .ok (.isub, 1) := by decide +kernel
theorem eX1_unpack_135 : dec cX1_unpack 135 .isub 1 136 := ⟨dX1_unpack_135, rfl⟩
theorem dX1_unpack_136 : decode cX1_unpack 136 = .ok (.ireturn, 1) := by decide +kernel
theorem eX1_unpack_136 : dec cX1_unpack 136 .ireturn 1 137 := ⟨dX1_unpack_136, rfl⟩
theorem dX1_unpack_137 : decode cX1_unpack 137 = .ok (.aload_n 0, 1) := by decide +kernel
theorem eX1_unpack_137 : dec cX1_unpack 137 (.aload_n 0) 1 138 := ⟨dX1_unpack_137, rfl⟩
theorem dX1_unpack_138 : decode cX1_unpack 138 = .ok (.invokevirtual 89, 3) := by decide +kernel
theorem eX1_unpack_138 : dec cX1_unpack 138 (.invokevirtual 89) 3 141 := ⟨dX1_unpack_138, rfl⟩
theorem dX1_unpack_141 : decode cX1_unpack 141 = .ok (.pop, 1) := by decide +kernel
theorem eX1_unpack_141 : dec cX1_unpack 141 .pop 1 142 := ⟨dX1_unpack_141, rfl⟩
theorem dX1_unpack_142 : decode cX1_unpack 142 = .ok (.iconst 1, 1) := by decide +kernel
theorem eX1_unpack_142 : dec cX1_unpack 142 (.iconst 1) 1 143 := ⟨dX1_unpack_142, rfl⟩
theorem dX1_unpack_143 : decode cX1_unpack 143 = .ok (.ireturn, 1) := by decide +kernel
theorem eX1_unpack_143 : dec cX1_unpack 143 .ireturn 1 144 := ⟨dX1_unpack_143, rfl⟩
theorem dX1_mean_0 : decode cX1_mean 0 = .ok (.iconst 2, 1) := by decide +kernel
theorem eX1_mean_0 : dec cX1_mean 0 (.iconst 2) 1 1 := ⟨dX1_mean_0, rfl⟩
theorem dX1_mean_1 : decode cX1_mean 1 = .ok (.aload_n 0, 1) := by decide +kernel
theorem eX1_mean_1 : dec cX1_mean 1 (.aload_n 0) 1 2 := ⟨dX1_mean_1, rfl⟩
theorem dX1_mean_2 : decode cX1_mean 2 = .ok (.getfield 35, 3) := by decide +kernel
theorem eX1_mean_2 : dec cX1_mean 2 (.getfield 35) 3 5 := ⟨dX1_mean_2, rfl⟩
theorem dX1_mean_5 : decode cX1_mean 5 = .ok (.imul, 1) := by decide +kernel
theorem eX1_mean_5 : dec cX1_mean 5 .imul 1 6 := ⟨dX1_mean_5, rfl⟩
theorem dX1_mean_6 : decode cX1_mean 6 = .ok (.iload_n 2, 1) := by decide +kernel
theorem eX1_mean_6 : dec cX1_mean 6 (.iload_n 2) 1 7 := ⟨dX1_mean_6, rfl⟩
theorem dX1_mean_7 : decode cX1_mean 7 = .ok (.imul, 1) := by decide +kernel
theorem eX1_mean_7 : dec cX1_mean 7 .imul 1 8 := ⟨dX1_mean_7, rfl⟩
theorem dX1_mean_8 : decode cX1_mean 8 = .ok (.iconst 2, 1) := by decide +kernel
theorem eX1_mean_8 : dec cX1_mean 8 (.iconst 2) 1 9 := ⟨dX1_mean_8, rfl⟩
theorem dX1_mean_9 : decode cX1_mean 9 = .ok (.iload_n 1, 1) := by decide +kernel
theorem eX1_mean_9 : dec cX1_mean 9 (.iload_n 1) 1 10 := ⟨dX1_mean_9, rfl⟩
theorem dX1_mean_10 : decode cX1_mean 10 = .ok (.imul, 1) := by decide +kernel
theorem eX1_mean_10 : dec cX1_mean 10 .imul 1 11 := ⟨dX1_mean_10, rfl⟩
theorem dX1_mean_11 : decode cX1_mean 11 = .ok (.iadd, 1) := by decide +kernel
theorem eX1_mean_11 : dec cX1_mean 11 .iadd 1 12 := ⟨dX1_mean_11, rfl⟩
theorem dX1_mean_12 : decode cX1_mean 12 = .ok (.istore_n 3, 1) := by decide +kernel
theorem eX1_mean_12 : dec cX1_mean 12 (.istore_n 3) 1 13 := ⟨dX1_mean_12, rfl⟩
theorem dX1_mean_13 : decode cX1_mean 13 = .ok (.aload_n 0, 1) := by decide +kernel
theorem eX1_mean_13 : dec cX1_mean 13 (.aload_n 0) 1 14 := ⟨dX1_mean_13, rfl⟩
theorem dX1_mean_14 : decode cX1_mean 14 = .ok (.getfield 7, 3) := by decide +kernel
theorem eX1_mean_14 : dec cX1_mean 14 (.getfield 7) 3 17 := ⟨dX1_mean_14, rfl⟩
theorem dX1_mean_17 : decode cX1_mean 17 = .ok (.iload_n 3, 1) := by decide +kernel
theorem eX1_mean_17 : dec cX1_mean 17 (.iload_n 3) 1 18 := ⟨dX1_mean_17, rfl⟩
theorem dX1_mean_18 : decode cX1_mean 18 = .ok (.iaload, 1) := by decide +kernel
theorem eX1_mean_18 : dec cX1_mean 18 .iaload 1 19 := ⟨dX1_mean_18, rfl⟩
theorem dX1_mean_19 : decode cX1_mean 19 = .ok (.aload_n 0, 1) := by decide +kernel
theorem eX1_mean_19 : dec cX1_mean 19 (.aload_n 0) 1 20 := ⟨dX1_mean_19, rfl⟩
theorem dX1_mean_20 : decode cX1_mean 20 = .ok (.getfield 7, 3) := by decide +kernel
theorem eX1_mean_20 : dec cX1_mean 20 (.getfield 7) 3 23 := ⟨dX1_mean_20, rfl⟩
theorem dX1_mean_23 : decode cX1_mean 23 = .ok (.iload_n 3, 1) := by decide +kernel
theorem eX1_mean_23 : dec cX1_mean 23 (.iload_n 3) 1 24 := ⟨dX1_mean_23, rfl⟩
theorem dX1_mean_24 : decode cX1_mean 24 = .ok (.iconst 1, 1) := by decide +kernel
theorem eX1_mean_24 : dec cX1_mean 24 (.iconst 1) 1 25 := ⟨dX1_mean_24, rfl⟩
theorem dX1_mean_25 : decode cX1_mean 25 = .ok (.iadd, 1) := by decide +kernel
theorem eX1_mean_25 : dec cX1_mean 25 .iadd 1 26 := ⟨dX1_mean_25, rfl⟩
theorem dX1_mean_26 : decode cX1_mean 26 = .ok (.iaload, 1) := by decide +kernel
theorem eX1_mean_26 : dec cX1_mean 26 .iaload 1 27 := ⟨dX1_mean_26, rfl⟩
theorem dX1_mean_27 : decode cX1_mean 27 = .ok (.iadd, 1) := by decide +kernel
theorem eX1_mean_27 : dec cX1_mean 27 .iadd 1 28 := ⟨dX1_mean_27, rfl⟩
theorem dX1_mean_28 : decode cX1_mean 28 = .ok (.aload_n 0, 1) := by decide +kernel
theorem eX1_mean_28 : dec cX1_mean 28 (.aload_n 0) 1 29 := ⟨dX1_mean_28, rfl⟩
theorem dX1_mean_29 : decode cX1_mean 29 = .ok (.getfield 7, 3) := by decide +kernel
theorem eX1_mean_29 : dec cX1_mean 29 (.getfield 7) 3 32 := ⟨dX1_mean_29, rfl⟩
theorem dX1_mean_32 : decode cX1_mean 32 = .ok (.iload_n 3, 1) := by decide +kernel
theorem eX1_mean_32 : dec cX1_mean 32 (.iload_n 3) 1 33 := ⟨dX1_mean_32, rfl⟩
theorem dX1_mean_33 : decode cX1_mean 33 = .ok (.aload_n 0, 1) := by decide +kernel
theorem eX1_mean_33 : dec cX1_mean 33 (.aload_n 0) 1 34 := ⟨dX1_mean_33, rfl⟩
theorem dX1_mean_34 : decode cX1_mean 34 = .ok (.getfield 35, 3) := by decide +kernel
theorem eX1_mean_34 : dec cX1_mean 34 (.getfield 35) 3 37 := ⟨dX1_mean_34, rfl⟩
theorem dX1_mean_37 : decode cX1_mean 37 = .ok (.iadd, 1) := by decide +kernel
theorem eX1_mean_37 : dec cX1_mean 37 .iadd 1 38 := ⟨dX1_mean_37, rfl⟩
theorem dX1_mean_38 : decode cX1_mean 38 = .ok (.iaload, 1) := by decide +kernel
theorem eX1_mean_38 : dec cX1_mean 38 .iaload 1 39 := ⟨dX1_mean_38, rfl⟩
theorem dX1_mean_39 : decode cX1_mean 39 = .ok (.iadd, 1) := by decide +kernel
theorem eX1_mean_39 : dec cX1_mean 39 .iadd 1 40 := ⟨dX1_mean_39, rfl⟩
theorem dX1_mean_40 : decode cX1_mean 40 = .ok (.aload_n 0, 1) := by decide +kernel
theorem eX1_mean_40 : dec cX1_mean 40 (.aload_n 0) 1 41 := ⟨dX1_mean_40, rfl⟩
theorem dX1_mean_41 : decode cX1_mean 41 = .ok (.getfield 7, 3) := by decide +kernel
theorem eX1_mean_41 : dec cX1_mean 41 (.getfield 7) 3 44 := ⟨dX1_mean_41, rfl⟩
theorem dX1_mean_44 : decode cX1_mean 44 = .ok (.iload_n 3, 1) := by decide +kernel
theorem eX1_mean_44 : dec cX1_mean 44 (.iload_n 3) 1 45 := ⟨dX1_mean_44, rfl⟩
theorem dX1_mean_45 : decode cX1_mean 45 = .ok (.aload_n 0, 1) := by decide +kernel
theorem eX1_mean_45 : dec cX1_mean 45 (.aload_n 0) 1 46 := ⟨dX1_mean_45, rfl⟩
theorem dX1_mean_46 : decode cX1_mean 46 = .ok (.getfield 35, 3) := by decide +kernel
theorem eX1_mean_46 : dec cX1_mean 46 (.getfield 35) 3 49 := ⟨dX1_mean_46, rfl⟩
theorem dX1_mean_49 : decode cX1_mean 49 = .ok (.iadd, 1) := by decide +kernel
theorem eX1_mean_49 : dec cX1_mean 49 .iadd 1 50 := ⟨dX1_mean_49, rfl⟩
theorem dX1_mean_50 : decode cX1_mean 50 = .ok (.iconst 1, 1) := by decide +kernel
theorem eX1_mean_50 : dec cX1_mean 50 (.iconst 1) 1 51 := ⟨dX1_mean_50, rfl⟩
theorem dX1_mean_51 : decode cX1_mean 51 = .ok (.iadd, 1) := by decide +kernel
theorem eX1_mean_51 : dec cX1_mean 51 .iadd 1 52 := ⟨dX1_mean_51, rfl⟩
theorem dX1_mean_52 : decode cX1_mean 52 = .ok (.iaload, 1) := by decide +kernel
theorem eX1_mean_52 : dec cX1_mean 52 .iaload 1 53 := ⟨dX1_mean_52, rfl⟩
theorem dX1_mean_53 : decode cX1_mean 53 = .ok (.iadd, 1) := by decide +kernel
theorem eX1_mean_53 : dec cX1_mean 53 .iadd 1 54 := ⟨dX1_mean_53, rfl⟩
theorem dX1_mean_54 : decode cX1_mean 54 = .ok (.iconst 4, 1) := by decide +kernel
theorem eX1_mean_54 : dec cX1_mean 54 (.iconst 4) 1 55 := ⟨dX1_mean_54, rfl⟩
theorem dX1_mean_55 : decode cX1_mean 55 = .ok (.idiv, 1) := by decide +kernel
theorem eX1_mean_55 : dec cX1_mean 55 .idiv 1 56 := ⟨dX1_mean_55, rfl⟩
theorem dX1_mean_56 : decode cX1_mean 56 = .ok (.ireturn, 1) := by decide +kernel
theorem eX1_mean_56 : dec cX1_mean 56 .ireturn 1 57 := ⟨dX1_mean_56, rfl⟩
set_option maxRecDepth 20000 in
theorem ggX1_side_X1_mean : GoodIn wsX1_side wsX1_mean := goodIn_r _ [11, 3, 5, 16, 17, 18, 19, 20, 21, 22, 23, 24, 25, 26, 27, 28, 29, 30] (by decide +kernel) (by decide +kernel)
set_option maxRecDepth 20000 in
theorem gX1_side_X1_mean : GoodIn wsX1_side (wsV RX1 98 RX1 yX1_mean wsX1_mean) := goodIn_app (goodIn_of _ (by decide +kernel)) ggX1_side_X1_mean
set_option maxRecDepth 20000 in
theorem ggX1_side_X1_change : GoodIn wsX1_side wsX1_change := goodIn_r _ [15, 2, 4, 5, 16, 17, 18, 19, 20, 21, 22, 23, 24, 25, 26, 27, 28, 29, 30] (by decide +kernel) (by decide +kernel)
set_option maxRecDepth 20000 in
theorem gX1_side_X1_change : GoodIn wsX1_side (wsV RX1 89 RX1 yX1_change wsX1_change) := goodIn_app (goodIn_of _ (by decide +kernel)) ggX1_side_X1_change
theorem dX1_side_0 : decode cX1_side 0 = .ok (.aload_n 0, 1) := by decide +kernel
theorem eX1_side_0 : dec cX1_side 0 (.aload_n 0) 1 1 := ⟨dX1_side_0, rfl⟩
theorem dX1_side_1 : decode cX1_side 1 = .ok (.iconst 0, 1) := by decide +kernel
theorem eX1_side_1 : dec cX1_side 1 (.iconst 0) 1 2 := ⟨dX1_side_1, rfl⟩
theorem dX1_side_2 : decode cX1_side 2 = .ok (.putfield 45, 3) := by decide +kernel
theorem eX1_side_2 : dec cX1_side 2 (.putfield 45) 3 5 := ⟨dX1_side_2, rfl⟩
theorem dX1_side_5 : decode cX1_side 5 = .ok (.iload_n 1, 1) := by decide +kernel
theorem eX1_side_5 : dec cX1_side 5 (.iload_n 1) 1 6 := ⟨dX1_side_5, rfl⟩
theorem dX1_side_6 : decode cX1_side 6 = .ok (.ifCond .lt 8, 3) := by decide +kernel
theorem eX1_side_6 : dec cX1_side 6 (.ifCond .lt 8) 3 9 := ⟨dX1_side_6, rfl⟩
theorem dX1_side_9 : decode cX1_side 9 = .ok (.iload_n 1, 1) := by decide +kernel
theorem eX1_side_9 : dec cX1_side 9 (.iload_n 1) 1 10 := ⟨dX1_side_9, rfl⟩
theorem dX1_side_10 : decode cX1_side 10 = .ok (.iconst 3, 1) := by decide +kernel
theorem eX1_side_10 : dec cX1_side 10 (.iconst 3) 1 11 := ⟨dX1_side_10, rfl⟩
theorem dX1_side_11 : decode cX1_side 11 = .ok (.if_icmp .le 5, 3) := by decide +kernel
theorem eX1_side_11 : dec cX1_side 11 (.if_icmp .le 5) 3 14 := ⟨dX1_side_11, rfl⟩
theorem dX1_side_14 : decode cX1_side 14 = .ok (.iconst (-1), 1) := by decide +kernel
theorem eX1_side_14 : dec cX1_side 14 (.iconst (-1)) 1 15 := ⟨dX1_side_14, rfl⟩
theorem dX1_side_15 : decode cX1_side 15 = .ok (.ireturn, 1) := by decide +kernel
theorem eX1_side_15 : dec cX1_side 15 .ireturn 1 16 := ⟨dX1_side_15, rfl⟩
theorem dX1_side_16 : decode cX1_side 16 = .ok (.iconst 0, 1) := by decide +kernel
theorem eX1_side_16 : dec cX1_side 16 (.iconst 0) 1 17 := ⟨dX1_side_16, rfl⟩
theorem dX1_side_17 : decode cX1_side 17 = .ok (.istore_n 2, 1) := by decide +kernel
theorem eX1_side_17 : dec cX1_side 17 (.istore_n 2) 1 18 := ⟨dX1_side_17, rfl⟩
theorem dX1_side_18 : decode cX1_side 18 = .ok (.iload_n 2, 1) := by decide +kernel
theorem eX1_side_18 : dec cX1_side 18 (.iload_n 2) 1 19 := ⟨dX1_side_18, rfl⟩
theorem dX1_side_19 : decode cX1_side 19 = .ok (.aload_n 0, 1) := by decide +kernel
theorem eX1_side_19 : dec cX1_side 19 (.aload_n 0) 1 20 := ⟨dX1_side_19, rfl⟩
theorem dX1_side_20 : decode cX1_side 20 = .ok (.getfield 42, 3) := by decide +kernel
theorem eX1_side_20 : dec cX1_side 20 (.getfield 42) 3 23 := ⟨dX1_side_20, rfl⟩
theorem dX1_side_23 : decode cX1_side 23 = .ok (.if_icmp .ge 157, 3) := by decide +kernel
theorem eX1_side_23 : dec cX1_side 23 (.if_icmp .ge 157) 3 26 := ⟨dX1_side_23, rfl⟩
theorem dX1_side_26 : decode cX1_side 26 = .ok (.iload_n 2, 1) := by decide +kernel
theorem eX1_side_26 : dec cX1_side 26 (.iload_n 2) 1 27 := ⟨dX1_side_26, rfl⟩
theorem dX1_side_27 : decode cX1_side 27 = .ok (.aload_n 0, 1) := by decide +kernel
theorem eX1_side_27 : dec cX1_side 27 (.aload_n 0) 1 28 := ⟨dX1_side_27, rfl⟩
theorem dX1_side_28 : decode cX1_side 28 = .ok (.getfield 35, 3) := by decide +kernel
theorem eX1_side_28 : dec cX1_side 28 (.getfield 35) 3 31 := ⟨dX1_side_28, rfl⟩
theorem dX1_side_31 : decode cX1_side 31 = .ok (.irem, 1) := by decide +kernel
theorem eX1_side_31 : dec cX1_side 31 .irem 1 32 := ⟨dX1_side_31, rfl⟩
theorem dX1_side_32 : decode cX1_side 32 = .ok (.istore_n 3, 1) := by decide +kernel
theorem eX1_side_32 : dec cX1_side 32 (.istore_n 3) 1 33 := ⟨dX1_side_32, rfl⟩
theorem dX1_side_33 : decode cX1_side 33 = .ok (.iload_n 2, 1) := by decide +kernel
theorem eX1_side_33 : dec cX1_side 33 (.iload_n 2) 1 34 := ⟨dX1_side_33, rfl⟩
theorem dX1_side_34 : decode cX1_side 34 = .ok (.aload_n 0, 1) := by decide +kernel
theorem eX1_side_34 : dec cX1_side 34 (.aload_n 0) 1 35 := ⟨dX1_side_34, rfl⟩
theorem dX1_side_35 : decode cX1_side 35 = .ok (.getfield 35, 3) := by decide +kernel
theorem eX1_side_35 : dec cX1_side 35 (.getfield 35) 3 38 := ⟨dX1_side_35, rfl⟩
theorem dX1_side_38 : decode cX1_side 38 = .ok (.idiv, 1) := by decide +kernel
theorem eX1_side_38 : dec cX1_side 38 .idiv 1 39 := ⟨dX1_side_38, rfl⟩
theorem dX1_side_39 : decode cX1_side 39 = .ok (.istore 4, 2) := by decide +kernel
theorem eX1_side_39 : dec cX1_side 39 (.istore 4) 2 41 := ⟨dX1_side_39, rfl⟩
theorem dX1_side_41 : decode cX1_side 41 = .ok (.iload_n 1, 1) := by decide +kernel
theorem eX1_side_41 : dec cX1_side 41 (.iload_n 1) 1 42 := ⟨dX1_side_41, rfl⟩
theorem dX1_side_42 : decode cX1_side 42 = .ok (.ifCond .ne 33, 3) := by decide +kernel
theorem eX1_side_42 : dec cX1_side 42 (.ifCond .ne 33) 3 45 := ⟨dX1_side_42, rfl⟩
theorem dX1_side_45 : decode cX1_side 45 = .ok (.aload_n 0, 1) := by decide +kernel
theorem eX1_side_45 : dec cX1_side 45 (.aload_n 0) 1 46 := ⟨dX1_side_45, rfl⟩
theorem dX1_side_46 : decode cX1_side 46 = .ok (.getfield 13, 3) := by decide +kernel
theorem eX1_side_46 : dec cX1_side 46 (.getfield 13) 3 49 := ⟨dX1_side_46, rfl⟩
theorem dX1_side_49 : decode cX1_side 49 = .ok (.iload_n 2, 1) := by decide +kernel
theorem eX1_side_49 : dec cX1_side 49 (.iload_n 2) 1 50 := ⟨dX1_side_49, rfl⟩
theorem dX1_side_50 : decode cX1_side 50 = .ok (.aload_n 0, 1) := by decide +kernel
theorem eX1_side_50 : dec cX1_side 50 (.aload_n 0) 1 51 := ⟨dX1_side_50, rfl⟩
theorem dX1_side_51 : decode cX1_side 51 = .ok (.getfield 7, 3) := by decide +kernel
theorem eX1_side_51 : dec cX1_side 51 (.getfield 7) 3 54 := ⟨dX1_side_51, rfl⟩
theorem dX1_side_54 : decode cX1_side 54 = .ok (.aload_n 0, 1) := by decide +kernel
theorem eX1_side_54 : dec cX1_side 54 (.aload_n 0) 1 55 := ⟨dX1_side_54, rfl⟩
theorem dX1_side_55 : decode cX1_side 55 = .ok (.getfield 35, 3) := by decide +kernel
theorem eX1_side_55 : dec cX1_side 55 (.getfield 35) 3 58 := ⟨dX1_side_55, rfl⟩
theorem dX1_side_58 : decode cX1_side 58 = .ok (.iload 4, 2) := by decide +kernel
theorem eX1_side_58 : dec cX1_side 58 (.iload 4) 2 60 := ⟨dX1_side_58, rfl⟩
theorem dX1_side_60 : decode cX1_side 60 = .ok (.imul, 1) := by decide +kernel
theorem eX1_side_60 : dec cX1_side 60 .imul 1 61 := ⟨dX1_side_60, rfl⟩
theorem dX1_side_61 : decode cX1_side 61 = .ok (.aload_n 0, 1) := by decide +kernel
theorem eX1_side_61 : dec cX1_side 61 (.aload_n 0) 1 62 := ⟨dX1_side_61, rfl⟩
theorem dX1_side_62 : decode cX1_side 62 = .ok (.getfield 35, 3) := by decide +kernel
theorem eX1_side_62 : dec cX1_side 62 (.getfield 35) 3 65 := ⟨dX1_side_62, rfl⟩
theorem dX1_side_65 : decode cX1_side 65 = .ok (.iadd, 1) := by decide +kernel
theorem eX1_side_65 : dec cX1_side 65 .iadd 1 66 := ⟨dX1_side_65, rfl⟩
theorem dX1_side_66 : decode cX1_side 66 = .ok (.iconst 1, 1) := by decide +kernel
theorem eX1_side_66 : dec cX1_side 66 (.iconst 1) 1 67 := ⟨dX1_side_66, rfl⟩
theorem dX1_side_67 : decode cX1_side 67 = .ok (.isub, 1) := by decide +kernel
theorem eX1_side_67 : dec cX1_side 67 .isub 1 68 := ⟨dX1_side_67, rfl⟩
theorem dX1_side_68 : decode cX1_side 68 = .ok (.iload_n 3, 1) := by decide +kernel
theorem eX1_side_68 : dec cX1_side 68 (.iload_n 3) 1 69 := ⟨dX1_side_68, rfl⟩
theorem dX1_side_69 : decode cX1_side 69 = .ok (.isub, 1) := by decide +kernel
theorem eX1_side_69 : dec cX1_side 69 .isub 1 70 := ⟨dX1_side_69, rfl⟩
theorem dX1_side_70 : decode cX1_side 70 = .ok (.iaload, 1) := by decide +kernel
theorem eX1_side_70 : dec cX1_side 70 .iaload 1 71 := ⟨dX1_side_70, rfl⟩
theorem dX1_side_71 : decode cX1_side 71 = .ok (.iastore, 1) := by decide +kernel
theorem eX1_side_71 : dec cX1_side 71 .iastore 1 72 := ⟨dX1_side_71, rfl⟩
theorem dX1_side_72 : decode cX1_side 72 = .ok (.goto 102, 3) := by decide +kernel
theorem eX1_side_72 : dec cX1_side 72 (.goto 102) 3 75 := ⟨dX1_side_72, rfl⟩
theorem dX1_side_75 : decode cX1_side 75 = .ok (.iload_n 1, 1) := by decide +kernel
theorem eX1_side_75 : dec cX1_side 75 (.iload_n 1) 1 76 := ⟨dX1_side_75, rfl⟩
theorem dX1_side_76 : decode cX1_side 76 = .ok (.iconst 1, 1) := by decide +kernel
theorem eX1_side_76 : dec cX1_side 76 (.iconst 1) 1 77 := ⟨dX1_side_76, rfl⟩
theorem dX1_side_77 : decode cX1_side 77 = .ok (.if_icmp .ne 33, 3) := by decide +kernel
theorem eX1_side_77 : dec cX1_side 77 (.if_icmp .ne 33) 3 80 := ⟨dX1_side_77, rfl⟩
theorem dX1_side_80 : decode cX1_side 80 = .ok (.aload_n 0, 1) := by decide +kernel
theorem eX1_side_80 : dec cX1_side 80 (.aload_n 0) 1 81 := ⟨dX1_side_80, rfl⟩
theorem dX1_side_81 : decode cX1_side 81 = .ok (.getfield 13, 3) := by decide +kernel
theorem eX1_side_81 : dec cX1_side 81 (.getfield 13) 3 84 := ⟨dX1_side_81, rfl⟩
theorem dX1_side_84 : decode cX1_side 84 = .ok (.iload_n 2, 1) := by decide +kernel
theorem eX1_side_84 : dec cX1_side 84 (.iload_n 2) 1 85 := ⟨dX1_side_84, rfl⟩
theorem dX1_side_85 : decode cX1_side 85 = .ok (.aload_n 0, 1) := by decide +kernel
theorem eX1_side_85 : dec cX1_side 85 (.aload_n 0) 1 86 := ⟨dX1_side_85, rfl⟩
theorem dX1_side_86 : decode cX1_side 86 = .ok (.getfield 7, 3) := by decide +kernel
theorem eX1_side_86 : dec cX1_side 86 (.getfield 7) 3 89 := ⟨dX1_side_86, rfl⟩
theorem dX1_side_89 : decode cX1_side 89 = .ok (.aload_n 0, 1) := by decide +kernel
theorem eX1_side_89 : dec cX1_side 89 (.aload_n 0) 1 90 := ⟨dX1_side_89, rfl⟩
theorem dX1_side_90 : decode cX1_side 90 = .ok (.getfield 35, 3) := by decide +kernel
theorem eX1_side_90 : dec cX1_side 90 (.getfield 35) 3 93 := ⟨dX1_side_90, rfl⟩
theorem dX1_side_93 : decode cX1_side 93 = .ok (.aload_n 0, 1) := by decide +kernel
theorem eX1_side_93 : dec cX1_side 93 (.aload_n 0) 1 94 := ⟨dX1_side_93, rfl⟩
theorem dX1_side_94 : decode cX1_side 94 = .ok (.getfield 39, 3) := by decide +kernel
theorem eX1_side_94 : dec cX1_side 94 (.getfield 39) 3 97 := ⟨dX1_side_94, rfl⟩
theorem dX1_side_97 : decode cX1_side 97 = .ok (.iconst 1, 1) := by decide +kernel
theorem eX1_side_97 : dec cX1_side 97 (.iconst 1) 1 98 := ⟨dX1_side_97, rfl⟩
theorem dX1_side_98 : decode cX1_side 98 = .ok (.isub, 1) := by decide +kernel
theorem eX1_side_98 : dec cX1_side 98 .isub 1 99 := ⟨dX1_side_98, rfl⟩
theorem dX1_side_99 : decode cX1_side 99 = .ok (.iload 4, 2) := by decide +kernel
theorem eX1_side_99 : dec cX1_side 99 (.iload 4) 2 101 := ⟨dX1_side_99, rfl⟩
theorem dX1_side_101 : decode cX1_side 101 = .ok (.isub, 1) := by decide +kernel
theorem eX1_side_101 : dec cX1_side 101 .isub 1 102 := ⟨dX1_side_101, rfl⟩
theorem dX1_side_102 : decode cX1_side 102 = .ok (.imul, 1) := by decide +kernel
theorem eX1_side_102 : dec cX1_side 102 .imul 1 103 := ⟨dX1_side_102, rfl⟩
theorem dX1_side_103 : decode cX1_side 103 = .ok (.iload_n 3, 1) := by decide +kernel
theorem eX1_side_103 : dec cX1_side 103 (.iload_n 3) 1 104 := ⟨dX1_side_103, rfl⟩
theorem dX1_side_104 : decode cX1_side 104 = .ok (.iadd, 1) := by decide +kernel
theorem eX1_side_104 : dec cX1_side 104 .iadd 1 105 := ⟨dX1_side_104, rfl⟩
theorem dX1_side_105 : decode cX1_side 105 = .ok (.iaload, 1) := by decide +kernel
theorem eX1_side_105 : dec cX1_side 105 .iaload 1 106 := ⟨dX1_side_105, rfl⟩
theorem dX1_side_106 : decode cX1_side 106 = .ok (.iastore, 1) := by decide +kernel
theorem eX1_side_106 : dec cX1_side 106 .iastore 1 107 := ⟨dX1_side_106, rfl⟩
theorem dX1_side_107 : decode cX1_side 107 = .ok (.goto 67, 3) := by decide +kernel
theorem eX1_side_107 : dec cX1_side 107 (.goto 67) 3 110 := ⟨dX1_side_107, rfl⟩
theorem dX1_side_110 : decode cX1_side 110 = .ok (.iload_n 1, 1) := by decide +kernel
theorem eX1_side_110 : dec cX1_side 110 (.iload_n 1) 1 111 := ⟨dX1_side_110, rfl⟩
theorem dX1_side_111 : decode cX1_side 111 = .ok (.iconst 2, 1) := by decide +kernel
theorem eX1_side_111 : dec cX1_side 111 (.iconst 2) 1 112 := ⟨dX1_side_111, rfl⟩
theorem dX1_side_112 : decode cX1_side 112 = .ok (.if_icmp .ne 22, 3) := by decide +kernel
theorem eX1_side_112 : dec cX1_side 112 (.if_icmp .ne 22) 3 115 := ⟨dX1_side_112, rfl⟩
theorem dX1_side_115 : decode cX1_side 115 = .ok (.aload_n 0, 1) := by decide +kernel
theorem eX1_side_115 : dec cX1_side 115 (.aload_n 0) 1 116 := ⟨dX1_side_115, rfl⟩
theorem dX1_side_116 : decode cX1_side 116 = .ok (.getfield 13, 3) := by decide +kernel
theorem eX1_side_116 : dec cX1_side 116 (.getfield 13) 3 119 := ⟨dX1_side_116, rfl⟩
theorem dX1_side_119 : decode cX1_side 119 = .ok (.iload_n 2, 1) := by decide +kernel
theorem eX1_side_119 : dec cX1_side 119 (.iload_n 2) 1 120 := ⟨dX1_side_119, rfl⟩
theorem dX1_side_120 : decode cX1_side 120 = .ok (.sipush 255, 3) := by decide +kernel
theorem eX1_side_120 : dec cX1_side 120 (.sipush 255) 3 123 := ⟨dX1_side_120, rfl⟩
theorem dX1_side_123 : decode cX1_side 123 = .ok (.aload_n 0, 1) := by decide +kernel
theorem eX1_side_123 : dec cX1_side 123 (.aload_n 0) 1 124 := ⟨dX1_side_123, rfl⟩
theorem dX1_side_124 : decode cX1_side 124 = .ok (.getfield 7, 3) := by decide +kernel
theorem eX1_side_124 : dec cX1_side 124 (.getfield 7) 3 127 := ⟨dX1_side_124, rfl⟩
theorem dX1_side_127 : decode cX1_side 127 = .ok (.iload_n 2, 1) := by decide +kernel
theorem eX1_side_127 : dec cX1_side 127 (.iload_n 2) 1 128 := ⟨dX1_side_127, rfl⟩
theorem dX1_side_128 : decode cX1_side 128 = .ok (.iaload, 1) := by decide +kernel
theorem eX1_side_128 : dec cX1_side 128 .iaload 1 129 := ⟨dX1_side_128, rfl⟩
theorem dX1_side_129 : decode cX1_side 129 = .ok (.isub, 1) := by decide +kernel
theorem eX1_side_129 : dec cX1_side 129 .isub 1 130 := ⟨dX1_side_129, rfl⟩
theorem dX1_side_130 : decode cX1_side 130 = .ok (.iastore, 1) := by decide +kernel
theorem eX1_side_130 : dec cX1_side 130 .iastore 1 131 := ⟨dX1_side_130, rfl⟩
theorem dX1_side_131 : decode cX1_side 131 = .ok (.goto 43, 3) := by decide +kernel
theorem eX1_side_131 : dec cX1_side 131 (.goto 43) 3 134 := ⟨dX1_side_131, rfl⟩
theorem dX1_side_134 : decode cX1_side 134 = .ok (.aload_n 0, 1) := by decide +kernel
theorem eX1_side_134 : dec cX1_side 134 (.aload_n 0) 1 135 := ⟨dX1_side_134, rfl⟩
theorem dX1_side_135 : decode cX1_side 135 = .ok (.getfield 13, 3) := by decide +kernel
theorem eX1_side_135 : dec cX1_side 135 (.getfield 13) 3 138 := ⟨dX1_side_135, rfl⟩
theorem dX1_side_138 : decode cX1_side 138 = .ok (.iload_n 2, 1) := by decide +kernel
theorem eX1_side_138 : dec cX1_side 138 (.iload_n 2) 1 139 := ⟨dX1_side_138, rfl⟩
theorem dX1_side_139 : decode cX1_side 139 = .ok (.iload_n 3, 1) := by decide +kernel
theorem eX1_side_139 : dec cX1_side 139 (.iload_n 3) 1 140 := ⟨dX1_side_139, rfl⟩
theorem dX1_side_140 : decode cX1_side 140 = .ok (.aload_n 0, 1) := by decide +kernel
theorem eX1_side_140 : dec cX1_side 140 (.aload_n 0) 1 141 := ⟨dX1_side_140, rfl⟩
theorem dX1_side_141 : decode cX1_side 141 = .ok (.getfield 35, 3) := by decide +kernel
theorem eX1_side_141 : dec cX1_side 141 (.getfield 35) 3 144 := ⟨dX1_side_141, rfl⟩
theorem dX1_side_144 : decode cX1_side 144 = .ok (.iconst 2, 1) := by decide +kernel
theorem eX1_side_144 : dec cX1_side 144 (.iconst 2) 1 145 := ⟨dX1_side_144, rfl⟩
theorem dX1_side_145 : decode cX1_side 145 = .ok (.idiv, 1) := by decide +kernel
theorem eX1_side_145 : dec cX1_side 145 .idiv 1 146 := ⟨dX1_side_145, rfl⟩
theorem dX1_side_146 : decode cX1_side 146 = .ok (.if_icmp .ge 24, 3) := by decide +kernel
theorem eX1_side_146 : dec cX1_side 146 (.if_icmp .ge 24) 3 149 := ⟨dX1_side_146, rfl⟩
theorem dX1_side_149 : decode cX1_side 149 = .ok (.iload 4, 2) := by decide +kernel
theorem eX1_side_149 : dec cX1_side 149 (.iload 4) 2 151 := ⟨dX1_side_149, rfl⟩
theorem dX1_side_151 : decode cX1_side 151 = .ok (.aload_n 0, 1) := by decide +kernel
theorem eX1_side_151 : dec cX1_side 151 (.aload_n 0) 1 152 := ⟨dX1_side_151, rfl⟩
theorem dX1_side_152 : decode cX1_side 152 = .ok (.getfield 39, 3) := by decide +kernel
theorem eX1_side_152 : dec cX1_side 152 (.getfield 39) 3 155 := ⟨dX1_side_152, rfl⟩
theorem dX1_side_155 : decode cX1_side 155 = .ok (.iconst 2, 1) := by decide +kernel
theorem eX1_side_155 : dec cX1_side 155 (.iconst 2) 1 156 := ⟨dX1_side_155, rfl⟩
theorem dX1_side_156 : decode cX1_side 156 = .ok (.idiv, 1) := by decide +kernel
theorem eX1_side_156 : dec cX1_side 156 .idiv 1 157 := ⟨dX1_side_156, rfl⟩
theorem dX1_side_157 : decode cX1_side 157 = .ok (.if_icmp .ge 13, 3) := by decide +kernel
theorem eX1_side_157 : dec cX1_side 157 (.if_icmp .ge 13) 3 160 := ⟨dX1_side_157, rfl⟩
theorem dX1_side_160 : decode cX1_side 160 = .ok (.aload_n 0, 1) := by decide +kernel
theorem eX1_side_160 : dec cX1_side 160 (.aload_n 0) 1 161 := ⟨dX1_side_160, rfl⟩
theorem dX1_side_161 : decode cX1_side 161 = .ok (.iload_n 3, 1) := by decide +kernel
theorem eX1_side_161 : dec cX1_side 161 (.iload_n 3) 1 162 := ⟨dX1_side_161, rfl⟩
theorem dX1_side_162 : decode cX1_side 162 = .ok (.iload 4, 2) := by decide +kernel
theorem eX1_side_162 : dec cX1_side 162 (.iload 4) 2 164 := ⟨dX1_side_162, rfl⟩
theorem dX1_side_164 : decode cX1_side 164 = .ok (.invokevirtual 98, 3) := by decide +kernel
theorem eX1_side_164 : dec cX1_side 164 (.invokevirtual 98) 3 167 := ⟨dX1_side_164, rfl⟩
theorem dX1_side_167 : decode cX1_side 167 = .ok (.goto 6, 3) := by decide +kernel
theorem eX1_side_167 : dec cX1_side 167 (.goto 6) 3 170 := ⟨dX1_side_167, rfl⟩
theorem dX1_side_170 : decode cX1_side 170 = .ok (.sipush 255, 3) := by decide +kernel
theorem eX1_side_170 : dec cX1_side 170 (.sipush 255) 3 173 := ⟨dX1_side_170, rfl⟩
theorem dX1_side_173 : decode cX1_side 173 = .ok (.iastore, 1) := by decide +kernel
theorem eX1_side_173 : dec cX1_side 173 .iastore 1 174 := ⟨dX1_side_173, rfl⟩
theorem dX1_side_174 : decode cX1_side 174 = .ok (.iinc 2 1, 3) := by decide +kernel
theorem eX1_side_174 : dec cX1_side 174 (.iinc 2 1) 3 177 := ⟨dX1_side_174, rfl⟩
theorem dX1_side_177 : decode cX1_side 177 = .ok (.goto (-159), 3) := by decide +kernel
theorem eX1_side_177 : dec cX1_side 177 (.goto (-159)) 3 180 := ⟨dX1_side_177, rfl⟩
theorem dX1_side_180 : decode cX1_side 180 = .ok (.aload_n 0, 1) := by decide +kernel
theorem eX1_side_180 : dec cX1_side 180 (.aload_n 0) 1 181 := ⟨dX1_side_180, rfl⟩
theorem dX1_side_181 : decode cX1_side 181 = .ok (.invokevirtual 89, 3) := by decide +kernel
theorem eX1_side_181 : dec cX1_side 181 (.invokevirtual 89) 3 184 := ⟨dX1_side_181, rfl⟩
theorem dX1_side_184 : decode cX1_side 184 = .ok (.ireturn, 1) := by decide +kernel
theorem eX1_side_184 : dec cX1_side 184 .ireturn 1 185 := ⟨dX1_side_184, rfl⟩
end
section
theorem dJx00060_init_a7421_0 : decode cJx00060_init_a7421 0 = .ok (.aload_n 0, 1) := by decide +kernel
theorem eJx00060_init_a7421_0 : dec cJx00060_init_a7421 0 (.aload_n 0) 1 1 := ⟨dJx00060_init_a7421_0, rfl⟩
theorem dJx00060_init_a7421_1 : decode cJx00060_init_a7421 1 = .ok (.aload_n 1, 1) := by decide +kernel
theorem eJx00060_init_a7421_1 : dec cJx00060_init_a7421 1 (.aload_n 1) 1 2 := ⟨dJx00060_init_a7421_1, rfl⟩
theorem dJx00060_init_a7421_2 : decode cJx00060_init_a7421 2 = .ok (.invokespecial 7, 3) := by decide +kernel
theorem eJx00060_init_a7421_2 : dec cJx00060_init_a7421 2 (.invokespecial 7) 3 5 := ⟨dJx00060_init_a7421_2, rfl⟩
theorem dJx00060_init_a7421_5 : decode cJx00060_init_a7421 5 = .ok (.return_, 1) := by decide +kernel
theorem eJx00060_init_a7421_5 : dec cJx00060_init_a7421 5 .return_ 1 6 := ⟨dJx00060_init_a7421_5, rfl⟩
theorem dJ9_floorDiv_7cf53_0 : decode cJ9_floorDiv_7cf53 0 = .ok (.iload_n 0, 1) := by decide +kernel
theorem eJ9_floorDiv_7cf53_0 : dec cJ9_floorDiv_7cf53 0 (.iload_n 0) 1 1 := ⟨dJ9_floorDiv_7cf53_0, rfl⟩
theorem dJ9_floorDiv_7cf53_1 : decode cJ9_floorDiv_7cf53 1 = .ok (.iload_n 1, 1) := by decide +kernel
theorem eJ9_floorDiv_7cf53_1 : dec cJ9_floorDiv_7cf53 1 (.iload_n 1) 1 2 := ⟨dJ9_floorDiv_7cf53_1, rfl⟩
theorem dJ9_floorDiv_7cf53_2 : decode cJ9_floorDiv_7cf53 2 = .ok (.idiv, 1) := by decide +kernel
theorem eJ9_floorDiv_7cf53_2 : dec cJ9_floorDiv_7cf53 2 .idiv 1 3 := ⟨dJ9_floorDiv_7cf53_2, rfl⟩
theorem dJ9_floorDiv_7cf53_3 : decode cJ9_floorDiv_7cf53 3 = .ok (.istore_n 2, 1) := by decide +kernel
theorem eJ9_floorDiv_7cf53_3 : dec cJ9_floorDiv_7cf53 3 (.istore_n 2) 1 4 := ⟨dJ9_floorDiv_7cf53_3, rfl⟩
theorem dJ9_floorDiv_7cf53_4 : decode cJ9_floorDiv_7cf53 4 = .ok (.iload_n 0, 1) := by decide +kernel
theorem eJ9_floorDiv_7cf53_4 : dec cJ9_floorDiv_7cf53 4 (.iload_n 0) 1 5 := ⟨dJ9_floorDiv_7cf53_4, rfl⟩
theorem dJ9_floorDiv_7cf53_5 : decode cJ9_floorDiv_7cf53 5 = .ok (.iload_n 1, 1) := by decide +kernel
theorem eJ9_floorDiv_7cf53_5 : dec cJ9_floorDiv_7cf53 5 (.iload_n 1) 1 6 := ⟨dJ9_floorDiv_7cf53_5, rfl⟩
theorem dJ9_floorDiv_7cf53_6 : decode cJ9_floorDiv_7cf53 6 = .ok (.ixor, 1) := by decide +kernel
theorem eJ9_floorDiv_7cf53_6 : dec cJ9_floorDiv_7cf53 6 .ixor 1 7 := ⟨dJ9_floorDiv_7cf53_6, rfl⟩
theorem dJ9_floorDiv_7cf53_7 : decode cJ9_floorDiv_7cf53 7 = .ok (.ifCond .ge 14, 3) := by decide +kernel
theorem eJ9_floorDiv_7cf53_7 : dec cJ9_floorDiv_7cf53 7 (.ifCond .ge 14) 3 10 := ⟨dJ9_floorDiv_7cf53_7, rfl⟩
theorem dJ9_floorDiv_7cf53_10 : decode cJ9_floorDiv_7cf53 10 = .ok (.iload_n 2, 1) := by decide +kernel
theorem eJ9_floorDiv_7cf53_10 : dec cJ9_floorDiv_7cf53 10 (.iload_n 2) 1 11 := ⟨dJ9_floorDiv_7cf53_10, rfl⟩
theorem dJ9_floorDiv_7cf53_11 : decode cJ9_floorDiv_7cf53 11 = .ok (.iload_n 1, 1) := by decide +kernel
theorem eJ9_floorDiv_7cf53_11 : dec cJ9_floorDiv_7cf53 11 (.iload_n 1) 1 12 := ⟨dJ9_floorDiv_7cf53_11, rfl⟩
theorem dJ9_floorDiv_7cf53_12 : decode cJ9_floorDiv_7cf53 12 = .ok (.imul, 1) := by decide +kernel
theorem eJ9_floorDiv_7cf53_12 : dec cJ9_floorDiv_7cf53 12 .imul 1 13 := ⟨dJ9_floorDiv_7cf53_12, rfl⟩
theorem dJ9_floorDiv_7cf53_13 : decode cJ9_floorDiv_7cf53 13 = .ok (.iload_n 0, 1) := by decide +kernel
theorem eJ9_floorDiv_7cf53_13 : dec cJ9_floorDiv_7cf53 13 (.iload_n 0) 1 14 := ⟨dJ9_floorDiv_7cf53_13, rfl⟩
theorem dJ9_floorDiv_7cf53_14 : decode cJ9_floorDiv_7cf53 14 = .ok (.if_icmp .eq 7, 3) := by decide +kernel
theorem eJ9_floorDiv_7cf53_14 : dec cJ9_floorDiv_7cf53 14 (.if_icmp .eq 7) 3 17 := ⟨dJ9_floorDiv_7cf53_14, rfl⟩
theorem dJ9_floorDiv_7cf53_17 : decode cJ9_floorDiv_7cf53 17 = .ok (.iload_n 2, 1) := by decide +kernel
theorem eJ9_floorDiv_7cf53_17 : dec cJ9_floorDiv_7cf53 17 (.iload_n 2) 1 18 := ⟨dJ9_floorDiv_7cf53_17, rfl⟩
theorem dJ9_floorDiv_7cf53_18 : decode cJ9_floorDiv_7cf53 18 = .ok (.iconst 1, 1) := by decide +kernel
theorem eJ9_floorDiv_7cf53_18 : dec cJ9_floorDiv_7cf53 18 (.iconst 1) 1 19 := ⟨dJ9_floorDiv_7cf53_18, rfl⟩
theorem dJ9_floorDiv_7cf53_19 : decode cJ9_floorDiv_7cf53 19 = .ok (.isub, 1) := by decide +kernel
theorem eJ9_floorDiv_7cf53_19 : dec cJ9_floorDiv_7cf53 19 .isub 1 20 := ⟨dJ9_floorDiv_7cf53_19, rfl⟩
theorem dJ9_floorDiv_7cf53_20 : decode cJ9_floorDiv_7cf53 20 = .ok (.ireturn, 1) := by decide +kernel
theorem eJ9_floorDiv_7cf53_20 : dec cJ9_floorDiv_7cf53 20 .ireturn 1 21 := ⟨dJ9_floorDiv_7cf53_20, rfl⟩
theorem dJ9_floorDiv_7cf53_21 : decode cJ9_floorDiv_7cf53 21 = .ok (.iload_n 2, 1) := by decide +kernel
theorem eJ9_floorDiv_7cf53_21 : dec cJ9_floorDiv_7cf53 21 (.iload_n 2) 1 22 := ⟨dJ9_floorDiv_7cf53_21, rfl⟩
theorem dJ9_floorDiv_7cf53_22 : decode cJ9_floorDiv_7cf53 22 = .ok (.ireturn, 1) := by decide +kernel
theorem eJ9_floorDiv_7cf53_22 : dec cJ9_floorDiv_7cf53 22 .ireturn 1 23 := ⟨dJ9_floorDiv_7cf53_22, rfl⟩
theorem dJ9_floorMod_7cf53_0 : decode cJ9_floorMod_7cf53 0 = .ok (.iload_n 0, 1) := by decide +kernel
theorem eJ9_floorMod_7cf53_0 : dec cJ9_floorMod_7cf53 0 (.iload_n 0) 1 1 := ⟨dJ9_floorMod_7cf53_0, rfl⟩
theorem dJ9_floorMod_7cf53_1 : decode cJ9_floorMod_7cf53 1 = .ok (.iload_n 1, 1) := by decide +kernel
theorem eJ9_floorMod_7cf53_1 : dec cJ9_floorMod_7cf53 1 (.iload_n 1) 1 2 := ⟨dJ9_floorMod_7cf53_1, rfl⟩
theorem dJ9_floorMod_7cf53_2 : decode cJ9_floorMod_7cf53 2 = .ok (.irem, 1) := by decide +kernel
theorem eJ9_floorMod_7cf53_2 : dec cJ9_floorMod_7cf53 2 .irem 1 3 := ⟨dJ9_floorMod_7cf53_2, rfl⟩
theorem dJ9_floorMod_7cf53_3 : decode cJ9_floorMod_7cf53 3 = .ok (.istore_n 2, 1) := by decide +kernel
theorem eJ9_floorMod_7cf53_3 : dec cJ9_floorMod_7cf53 3 (.istore_n 2) 1 4 := ⟨dJ9_floorMod_7cf53_3, rfl⟩
theorem dJ9_floorMod_7cf53_4 : decode cJ9_floorMod_7cf53 4 = .ok (.iload_n 0, 1) := by decide +kernel
theorem eJ9_floorMod_7cf53_4 : dec cJ9_floorMod_7cf53 4 (.iload_n 0) 1 5 := ⟨dJ9_floorMod_7cf53_4, rfl⟩
theorem dJ9_floorMod_7cf53_5 : decode cJ9_floorMod_7cf53 5 = .ok (.iload_n 1, 1) := by decide +kernel
theorem eJ9_floorMod_7cf53_5 : dec cJ9_floorMod_7cf53 5 (.iload_n 1) 1 6 := ⟨dJ9_floorMod_7cf53_5, rfl⟩
theorem dJ9_floorMod_7cf53_6 : decode cJ9_floorMod_7cf53 6 = .ok (.ixor, 1) := by decide +kernel
theorem eJ9_floorMod_7cf53_6 : dec cJ9_floorMod_7cf53 6 .ixor 1 7 := ⟨dJ9_floorMod_7cf53_6, rfl⟩
theorem dJ9_floorMod_7cf53_7 : decode cJ9_floorMod_7cf53 7 = .ok (.ifCond .ge 11, 3) := by decide +kernel
theorem eJ9_floorMod_7cf53_7 : dec cJ9_floorMod_7cf53 7 (.ifCond .ge 11) 3 10 := ⟨dJ9_floorMod_7cf53_7, rfl⟩
theorem dJ9_floorMod_7cf53_10 : decode cJ9_floorMod_7cf53 10 = .ok (.iload_n 2, 1) := by decide +kernel
theorem eJ9_floorMod_7cf53_10 : dec cJ9_floorMod_7cf53 10 (.iload_n 2) 1 11 := ⟨dJ9_floorMod_7cf53_10, rfl⟩
theorem dJ9_floorMod_7cf53_11 : decode cJ9_floorMod_7cf53 11 = .ok (.ifCond .eq 7, 3) := by decide +kernel
theorem eJ9_floorMod_7cf53_11 : dec cJ9_floorMod_7cf53 11 (.ifCond .eq 7) 3 14 := ⟨dJ9_floorMod_7cf53_11, rfl⟩
theorem dJ9_floorMod_7cf53_14 : decode cJ9_floorMod_7cf53 14 = .ok (.iload_n 2, 1) := by decide +kernel
theorem eJ9_floorMod_7cf53_14 : dec cJ9_floorMod_7cf53 14 (.iload_n 2) 1 15 := ⟨dJ9_floorMod_7cf53_14, rfl⟩
theorem dJ9_floorMod_7cf53_15 : decode cJ9_floorMod_7cf53 15 = .ok (.iload_n 1, 1) := by decide +kernel
theorem eJ9_floorMod_7cf53_15 : dec cJ9_floorMod_7cf53 15 (.iload_n 1) 1 16 := ⟨dJ9_floorMod_7cf53_15, rfl⟩
theorem dJ9_floorMod_7cf53_16 : decode cJ9_floorMod_7cf53 16 = .ok (.iadd, 1) := by decide +kernel
theorem eJ9_floorMod_7cf53_16 : dec cJ9_floorMod_7cf53 16 .iadd 1 17 := ⟨dJ9_floorMod_7cf53_16, rfl⟩
theorem dJ9_floorMod_7cf53_17 : decode cJ9_floorMod_7cf53 17 = .ok (.ireturn, 1) := by decide +kernel
theorem eJ9_floorMod_7cf53_17 : dec cJ9_floorMod_7cf53 17 .ireturn 1 18 := ⟨dJ9_floorMod_7cf53_17, rfl⟩
theorem dJ9_floorMod_7cf53_18 : decode cJ9_floorMod_7cf53 18 = .ok (.iload_n 2, 1) := by decide +kernel
theorem eJ9_floorMod_7cf53_18 : dec cJ9_floorMod_7cf53 18 (.iload_n 2) 1 19 := ⟨dJ9_floorMod_7cf53_18, rfl⟩
theorem dJ9_floorMod_7cf53_19 : decode cJ9_floorMod_7cf53 19 = .ok (.ireturn, 1) := by decide +kernel
theorem eJ9_floorMod_7cf53_19 : dec cJ9_floorMod_7cf53 19 .ireturn 1 20 := ⟨dJ9_floorMod_7cf53_19, rfl⟩
theorem dJ9_max_7cf53_0 : decode cJ9_max_7cf53 0 = .ok (.iload_n 0, 1) := by decide +kernel
theorem eJ9_max_7cf53_0 : dec cJ9_max_7cf53 0 (.iload_n 0) 1 1 := ⟨dJ9_max_7cf53_0, rfl⟩
theorem dJ9_max_7cf53_1 : decode cJ9_max_7cf53 1 = .ok (.iload_n 1, 1) := by decide +kernel
theorem eJ9_max_7cf53_1 : dec cJ9_max_7cf53 1 (.iload_n 1) 1 2 := ⟨dJ9_max_7cf53_1, rfl⟩
theorem dJ9_max_7cf53_2 : decode cJ9_max_7cf53 2 = .ok (.if_icmp .lt 7, 3) := by decide +kernel
theorem eJ9_max_7cf53_2 : dec cJ9_max_7cf53 2 (.if_icmp .lt 7) 3 5 := ⟨dJ9_max_7cf53_2, rfl⟩
theorem dJ9_max_7cf53_5 : decode cJ9_max_7cf53 5 = .ok (.iload_n 0, 1) := by decide +kernel
theorem eJ9_max_7cf53_5 : dec cJ9_max_7cf53 5 (.iload_n 0) 1 6 := ⟨dJ9_max_7cf53_5, rfl⟩
theorem dJ9_max_7cf53_6 : decode cJ9_max_7cf53 6 = .ok (.goto 4, 3) := by decide +kernel
theorem eJ9_max_7cf53_6 : dec cJ9_max_7cf53 6 (.goto 4) 3 9 := ⟨dJ9_max_7cf53_6, rfl⟩
theorem dJ9_max_7cf53_9 : decode cJ9_max_7cf53 9 = .ok (.iload_n 1, 1) := by decide +kernel
theorem eJ9_max_7cf53_9 : dec cJ9_max_7cf53 9 (.iload_n 1) 1 10 := ⟨dJ9_max_7cf53_9, rfl⟩
theorem dJ9_max_7cf53_10 : decode cJ9_max_7cf53 10 = .ok (.ireturn, 1) := by decide +kernel
theorem eJ9_max_7cf53_10 : dec cJ9_max_7cf53 10 .ireturn 1 11 := ⟨dJ9_max_7cf53_10, rfl⟩
theorem dJ9_min_7cf53_0 : decode cJ9_min_7cf53 0 = .ok (.iload_n 0, 1) := by decide +kernel
theorem eJ9_min_7cf53_0 : dec cJ9_min_7cf53 0 (.iload_n 0) 1 1 := ⟨dJ9_min_7cf53_0, rfl⟩
theorem dJ9_min_7cf53_1 : decode cJ9_min_7cf53 1 = .ok (.iload_n 1, 1) := by decide +kernel
theorem eJ9_min_7cf53_1 : dec cJ9_min_7cf53 1 (.iload_n 1) 1 2 := ⟨dJ9_min_7cf53_1, rfl⟩
theorem dJ9_min_7cf53_2 : decode cJ9_min_7cf53 2 = .ok (.if_icmp .gt 7, 3) := by decide +kernel
theorem eJ9_min_7cf53_2 : dec cJ9_min_7cf53 2 (.if_icmp .gt 7) 3 5 := ⟨dJ9_min_7cf53_2, rfl⟩
theorem dJ9_min_7cf53_5 : decode cJ9_min_7cf53 5 = .ok (.iload_n 0, 1) := by decide +kernel
theorem eJ9_min_7cf53_5 : dec cJ9_min_7cf53 5 (.iload_n 0) 1 6 := ⟨dJ9_min_7cf53_5, rfl⟩
theorem dJ9_min_7cf53_6 : decode cJ9_min_7cf53 6 = .ok (.goto 4, 3) := by decide +kernel
theorem eJ9_min_7cf53_6 : dec cJ9_min_7cf53 6 (.goto 4) 3 9 := ⟨dJ9_min_7cf53_6, rfl⟩
theorem dJ9_min_7cf53_9 : decode cJ9_min_7cf53 9 = .ok (.iload_n 1, 1) := by decide +kernel
theorem eJ9_min_7cf53_9 : dec cJ9_min_7cf53 9 (.iload_n 1) 1 10 := ⟨dJ9_min_7cf53_9, rfl⟩
theorem dJ9_min_7cf53_10 : decode cJ9_min_7cf53 10 = .ok (.ireturn, 1) := by decide +kernel
theorem eJ9_min_7cf53_10 : dec cJ9_min_7cf53 10 .ireturn 1 11 := ⟨dJ9_min_7cf53_10, rfl⟩
theorem dJ7_fill_53178_0 : decode cJ7_fill_53178 0 = .ok (.iconst 0, 1) := by decide +kernel
theorem eJ7_fill_53178_0 : dec cJ7_fill_53178 0 (.iconst 0) 1 1 := ⟨dJ7_fill_53178_0, rfl⟩
theorem dJ7_fill_53178_1 : decode cJ7_fill_53178 1 = .ok (.istore_n 2, 1) := by decide +kernel
theorem eJ7_fill_53178_1 : dec cJ7_fill_53178 1 (.istore_n 2) 1 2 := ⟨dJ7_fill_53178_1, rfl⟩
theorem dJ7_fill_53178_2 : decode cJ7_fill_53178 2 = .ok (.aload_n 0, 1) := by decide +kernel
theorem eJ7_fill_53178_2 : dec cJ7_fill_53178 2 (.aload_n 0) 1 3 := ⟨dJ7_fill_53178_2, rfl⟩
theorem dJ7_fill_53178_3 : decode cJ7_fill_53178 3 = .ok (.arraylength, 1) := by decide +kernel
theorem eJ7_fill_53178_3 : dec cJ7_fill_53178 3 .arraylength 1 4 := ⟨dJ7_fill_53178_3, rfl⟩
theorem dJ7_fill_53178_4 : decode cJ7_fill_53178 4 = .ok (.istore_n 3, 1) := by decide +kernel
theorem eJ7_fill_53178_4 : dec cJ7_fill_53178 4 (.istore_n 3) 1 5 := ⟨dJ7_fill_53178_4, rfl⟩
theorem dJ7_fill_53178_5 : decode cJ7_fill_53178 5 = .ok (.iload_n 2, 1) := by decide +kernel
theorem eJ7_fill_53178_5 : dec cJ7_fill_53178 5 (.iload_n 2) 1 6 := ⟨dJ7_fill_53178_5, rfl⟩
theorem dJ7_fill_53178_6 : decode cJ7_fill_53178 6 = .ok (.iload_n 3, 1) := by decide +kernel
theorem eJ7_fill_53178_6 : dec cJ7_fill_53178 6 (.iload_n 3) 1 7 := ⟨dJ7_fill_53178_6, rfl⟩
theorem dJ7_fill_53178_7 : decode cJ7_fill_53178 7 = .ok (.if_icmp .ge 13, 3) := by decide +kernel
theorem eJ7_fill_53178_7 : dec cJ7_fill_53178 7 (.if_icmp .ge 13) 3 10 := ⟨dJ7_fill_53178_7, rfl⟩
theorem dJ7_fill_53178_10 : decode cJ7_fill_53178 10 = .ok (.aload_n 0, 1) := by decide +kernel
theorem eJ7_fill_53178_10 : dec cJ7_fill_53178 10 (.aload_n 0) 1 11 := ⟨dJ7_fill_53178_10, rfl⟩
theorem dJ7_fill_53178_11 : decode cJ7_fill_53178 11 = .ok (.iload_n 2, 1) := by decide +kernel
theorem eJ7_fill_53178_11 : dec cJ7_fill_53178 11 (.iload_n 2) 1 12 := ⟨dJ7_fill_53178_11, rfl⟩
theorem dJ7_fill_53178_12 : decode cJ7_fill_53178 12 = .ok (.iload_n 1, 1) := by decide +kernel
theorem eJ7_fill_53178_12 : dec cJ7_fill_53178 12 (.iload_n 1) 1 13 := ⟨dJ7_fill_53178_12, rfl⟩
theorem dJ7_fill_53178_13 : decode cJ7_fill_53178 13 = .ok (.iastore, 1) := by decide +kernel
theorem eJ7_fill_53178_13 : dec cJ7_fill_53178 13 .iastore 1 14 := ⟨dJ7_fill_53178_13, rfl⟩
theorem dJ7_fill_53178_14 : decode cJ7_fill_53178 14 = .ok (.iinc 2 1, 3) := by decide +kernel
theorem eJ7_fill_53178_14 : dec cJ7_fill_53178 14 (.iinc 2 1) 3 17 := ⟨dJ7_fill_53178_14, rfl⟩
theorem dJ7_fill_53178_17 : decode cJ7_fill_53178 17 = .ok (.goto (-12), 3) := by decide +kernel
theorem eJ7_fill_53178_17 : dec cJ7_fill_53178 17 (.goto (-12)) 3 20 := ⟨dJ7_fill_53178_17, rfl⟩
theorem dJ7_fill_53178_20 : decode cJ7_fill_53178 20 = .ok (.return_, 1) := by decide +kernel
theorem eJ7_fill_53178_20 : dec cJ7_fill_53178 20 .return_ 1 21 := ⟨dJ7_fill_53178_20, rfl⟩
theorem dJ7_fill_031fb_0 : decode cJ7_fill_031fb 0 = .ok (.iconst 0, 1) := by decide +kernel
theorem eJ7_fill_031fb_0 : dec cJ7_fill_031fb 0 (.iconst 0) 1 1 := ⟨dJ7_fill_031fb_0, rfl⟩
theorem dJ7_fill_031fb_1 : decode cJ7_fill_031fb 1 = .ok (.istore_n 2, 1) := by decide +kernel
theorem eJ7_fill_031fb_1 : dec cJ7_fill_031fb 1 (.istore_n 2) 1 2 := ⟨dJ7_fill_031fb_1, rfl⟩
theorem dJ7_fill_031fb_2 : decode cJ7_fill_031fb 2 = .ok (.aload_n 0, 1) := by decide +kernel
theorem eJ7_fill_031fb_2 : dec cJ7_fill_031fb 2 (.aload_n 0) 1 3 := ⟨dJ7_fill_031fb_2, rfl⟩
theorem dJ7_fill_031fb_3 : decode cJ7_fill_031fb 3 = .ok (.arraylength, 1) := by decide +kernel
theorem eJ7_fill_031fb_3 : dec cJ7_fill_031fb 3 .arraylength 1 4 := ⟨dJ7_fill_031fb_3, rfl⟩
theorem dJ7_fill_031fb_4 : decode cJ7_fill_031fb 4 = .ok (.istore_n 3, 1) := by decide +kernel
theorem eJ7_fill_031fb_4 : dec cJ7_fill_031fb 4 (.istore_n 3) 1 5 := ⟨dJ7_fill_031fb_4, rfl⟩
theorem dJ7_fill_031fb_5 : decode cJ7_fill_031fb 5 = .ok (.iload_n 2, 1) := by decide +kernel
theorem eJ7_fill_031fb_5 : dec cJ7_fill_031fb 5 (.iload_n 2) 1 6 := ⟨dJ7_fill_031fb_5, rfl⟩
theorem dJ7_fill_031fb_6 : decode cJ7_fill_031fb 6 = .ok (.iload_n 3, 1) := by decide +kernel
theorem eJ7_fill_031fb_6 : dec cJ7_fill_031fb 6 (.iload_n 3) 1 7 := ⟨dJ7_fill_031fb_6, rfl⟩
theorem dJ7_fill_031fb_7 : decode cJ7_fill_031fb 7 = .ok (.if_icmp .ge 13, 3) := by decide +kernel
theorem eJ7_fill_031fb_7 : dec cJ7_fill_031fb 7 (.if_icmp .ge 13) 3 10 := ⟨dJ7_fill_031fb_7, rfl⟩
theorem dJ7_fill_031fb_10 : decode cJ7_fill_031fb 10 = .ok (.aload_n 0, 1) := by decide +kernel
theorem eJ7_fill_031fb_10 : dec cJ7_fill_031fb 10 (.aload_n 0) 1 11 := ⟨dJ7_fill_031fb_10, rfl⟩
theorem dJ7_fill_031fb_11 : decode cJ7_fill_031fb 11 = .ok (.iload_n 2, 1) := by decide +kernel
theorem eJ7_fill_031fb_11 : dec cJ7_fill_031fb 11 (.iload_n 2) 1 12 := ⟨dJ7_fill_031fb_11, rfl⟩
theorem dJ7_fill_031fb_12 : decode cJ7_fill_031fb 12 = .ok (.iload_n 1, 1) := by decide +kernel
theorem eJ7_fill_031fb_12 : dec cJ7_fill_031fb 12 (.iload_n 1) 1 13 := ⟨dJ7_fill_031fb_12, rfl⟩
theorem dJ7_fill_031fb_13 : decode cJ7_fill_031fb 13 = .ok (.bastore, 1) := by decide +kernel
theorem eJ7_fill_031fb_13 : dec cJ7_fill_031fb 13 .bastore 1 14 := ⟨dJ7_fill_031fb_13, rfl⟩
theorem dJ7_fill_031fb_14 : decode cJ7_fill_031fb 14 = .ok (.iinc 2 1, 3) := by decide +kernel
theorem eJ7_fill_031fb_14 : dec cJ7_fill_031fb 14 (.iinc 2 1) 3 17 := ⟨dJ7_fill_031fb_14, rfl⟩
theorem dJ7_fill_031fb_17 : decode cJ7_fill_031fb 17 = .ok (.goto (-12), 3) := by decide +kernel
theorem eJ7_fill_031fb_17 : dec cJ7_fill_031fb 17 (.goto (-12)) 3 20 := ⟨dJ7_fill_031fb_17, rfl⟩
theorem dJ7_fill_031fb_20 : decode cJ7_fill_031fb 20 = .ok (.return_, 1) := by decide +kernel
theorem eJ7_fill_031fb_20 : dec cJ7_fill_031fb 20 .return_ 1 21 := ⟨dJ7_fill_031fb_20, rfl⟩
theorem dL_cell_0 : decode cL_cell 0 = .ok (.iload_n 1, 1) := by decide +kernel
theorem eL_cell_0 : dec cL_cell 0 (.iload_n 1) 1 1 := ⟨dL_cell_0, rfl⟩
theorem dL_cell_1 : decode cL_cell 1 = .ok (.aload_n 0, 1) := by decide +kernel
theorem eL_cell_1 : dec cL_cell 1 (.aload_n 0) 1 2 := ⟨dL_cell_1, rfl⟩
theorem dL_cell_2 : decode cL_cell 2 = .ok (.arraylength, 1) := by decide +kernel
theorem eL_cell_2 : dec cL_cell 2 .arraylength 1 3 := ⟨dL_cell_2, rfl⟩
theorem dL_cell_3 : decode cL_cell 3 = .ok (.if_icmp .ge 9, 3) := by decide +kernel
theorem eL_cell_3 : dec cL_cell 3 (.if_icmp .ge 9) 3 6 := ⟨dL_cell_3, rfl⟩
theorem dL_cell_6 : decode cL_cell 6 = .ok (.aload_n 0, 1) := by decide +kernel
theorem eL_cell_6 : dec cL_cell 6 (.aload_n 0) 1 7 := ⟨dL_cell_6, rfl⟩
theorem dL_cell_7 : decode cL_cell 7 = .ok (.iload_n 1, 1) := by decide +kernel
theorem eL_cell_7 : dec cL_cell 7 (.iload_n 1) 1 8 := ⟨dL_cell_7, rfl⟩
theorem dL_cell_8 : decode cL_cell 8 = .ok (.iaload, 1) := by decide +kernel
theorem eL_cell_8 : dec cL_cell 8 .iaload 1 9 := ⟨dL_cell_8, rfl⟩
theorem dL_cell_9 : decode cL_cell 9 = .ok (.goto 4, 3) := by decide +kernel
theorem eL_cell_9 : dec cL_cell 9 (.goto 4) 3 12 := ⟨dL_cell_9, rfl⟩
theorem dL_cell_12 : decode cL_cell 12 = .ok (.iconst 0, 1) := by decide +kernel
theorem eL_cell_12 : dec cL_cell 12 (.iconst 0) 1 13 := ⟨dL_cell_12, rfl⟩
theorem dL_cell_13 : decode cL_cell 13 = .ok (.ireturn, 1) := by decide +kernel
theorem eL_cell_13 : dec cL_cell 13 .ireturn 1 14 := ⟨dL_cell_13, rfl⟩
set_option maxRecDepth 20000 in
theorem ggL_put_X0_put : GoodIn wsL_put wsX0_put := goodIn_r _ [5, 6, 7, 8, 9, 10, 11, 12, 13, 4, 14, 15, 16, 17, 18, 19, 20, 21, 22, 23, 24, 25, 26, 27, 28, 29, 30, 31, 32, 33, 34, 35, 36, 37] (by decide +kernel) (by decide +kernel)
set_option maxRecDepth 20000 in
theorem gL_put_X0_put : GoodIn wsL_put (wsV RL 7 RX0 yX0_put wsX0_put) := goodIn_app (goodIn_of _ (by decide +kernel)) ggL_put_X0_put
theorem dL_put_0 : decode cL_put 0 = .ok (.aload_n 0, 1) := by decide +kernel
theorem eL_put_0 : dec cL_put 0 (.aload_n 0) 1 1 := ⟨dL_put_0, rfl⟩
theorem dL_put_1 : decode cL_put 1 = .ok (.iload_n 1, 1) := by decide +kernel
theorem eL_put_1 : dec cL_put 1 (.iload_n 1) 1 2 := ⟨dL_put_1, rfl⟩
theorem dL_put_2 : decode cL_put 2 = .ok (.iload_n 2, 1) := by decide +kernel
theorem eL_put_2 : dec cL_put 2 (.iload_n 2) 1 3 := ⟨dL_put_2, rfl⟩
theorem dL_put_3 : decode cL_put 3 = .ok (.iload_n 3, 1) := by decide +kernel
theorem eL_put_3 : dec cL_put 3 (.iload_n 3) 1 4 := ⟨dL_put_3, rfl⟩
theorem dL_put_4 : decode cL_put 4 = .ok (.invokevirtual 7, 3) := by decide +kernel
theorem eL_put_4 : dec cL_put 4 (.invokevirtual 7) 3 7 := ⟨dL_put_4, rfl⟩
theorem dL_put_7 : decode cL_put 7 = .ok (.goto 7, 3) := by decide +kernel
theorem eL_put_7 : dec cL_put 7 (.goto 7) 3 10 := ⟨dL_put_7, rfl⟩
theorem dL_put_10 : decode cL_put 10 = .ok (.astore 4, 2) := by decide +kernel
theorem eL_put_10 : dec cL_put 10 (.astore 4) 2 12 := ⟨dL_put_10, rfl⟩
theorem dL_put_12 : decode cL_put 12 = .ok (.iconst 1, 1) := by decide +kernel
theorem eL_put_12 : dec cL_put 12 (.iconst 1) 1 13 := ⟨dL_put_12, rfl⟩
theorem dL_put_13 : decode cL_put 13 = .ok (.ireturn, 1) := by decide +kernel
theorem eL_put_13 : dec cL_put 13 .ireturn 1 14 := ⟨dL_put_13, rfl⟩
theorem dL_put_14 : decode cL_put 14 = .ok (.iconst 0, 1) := by decide +kernel
theorem eL_put_14 : dec cL_put 14 (.iconst 0) 1 15 := ⟨dL_put_14, rfl⟩
theorem dL_put_15 : decode cL_put 15 = .ok (.ireturn, 1) := by decide +kernel
theorem eL_put_15 : dec cL_put 15 .ireturn 1 16 := ⟨dL_put_15, rfl⟩
set_option maxRecDepth 20000 in
theorem ggL_octet_X0_octet : GoodIn wsL_octet wsX0_octet := goodIn_r _ [5, 6, 7, 8, 9, 10, 11, 12, 13, 14, 15, 16, 17, 18, 19, 20, 21, 22, 23, 24, 25, 26, 27, 28, 29, 30, 31, 32] (by decide +kernel) (by decide +kernel)
set_option maxRecDepth 20000 in
theorem gL_octet_X0_octet : GoodIn wsL_octet (wsV RL 15 RX0 yX0_octet wsX0_octet) := goodIn_app (goodIn_of _ (by decide +kernel)) ggL_octet_X0_octet
theorem dL_octet_0 : decode cL_octet 0 = .ok (.aload_n 2, 1) := by decide +kernel
theorem eL_octet_0 : dec cL_octet 0 (.aload_n 2) 1 1 := ⟨dL_octet_0, rfl⟩
theorem dL_octet_1 : decode cL_octet 1 = .ok (.iconst 0, 1) := by decide +kernel
theorem eL_octet_1 : dec cL_octet 1 (.iconst 0) 1 2 := ⟨dL_octet_1, rfl⟩
theorem dL_octet_2 : decode cL_octet 2 = .ok (.aload_n 0, 1) := by decide +kernel
theorem eL_octet_2 : dec cL_octet 2 (.aload_n 0) 1 3 := ⟨dL_octet_2, rfl⟩
theorem dL_octet_3 : decode cL_octet 3 = .ok (.iload_n 1, 1) := by decide +kernel
theorem eL_octet_3 : dec cL_octet 3 (.iload_n 1) 1 4 := ⟨dL_octet_3, rfl⟩
theorem dL_octet_4 : decode cL_octet 4 = .ok (.invokevirtual 15, 3) := by decide +kernel
theorem eL_octet_4 : dec cL_octet 4 (.invokevirtual 15) 3 7 := ⟨dL_octet_4, rfl⟩
theorem dL_octet_7 : decode cL_octet 7 = .ok (.i2l, 1) := by decide +kernel
theorem eL_octet_7 : dec cL_octet 7 .i2l 1 8 := ⟨dL_octet_7, rfl⟩
theorem dL_octet_8 : decode cL_octet 8 = .ok (.lastore, 1) := by decide +kernel
theorem eL_octet_8 : dec cL_octet 8 .lastore 1 9 := ⟨dL_octet_8, rfl⟩
theorem dL_octet_9 : decode cL_octet 9 = .ok (.goto 6, 3) := by decide +kernel
theorem eL_octet_9 : dec cL_octet 9 (.goto 6) 3 12 := ⟨dL_octet_9, rfl⟩
theorem dL_octet_12 : decode cL_octet 12 = .ok (.astore_n 3, 1) := by decide +kernel
theorem eL_octet_12 : dec cL_octet 12 (.astore_n 3) 1 13 := ⟨dL_octet_12, rfl⟩
theorem dL_octet_13 : decode cL_octet 13 = .ok (.iconst 1, 1) := by decide +kernel
theorem eL_octet_13 : dec cL_octet 13 (.iconst 1) 1 14 := ⟨dL_octet_13, rfl⟩
theorem dL_octet_14 : decode cL_octet 14 = .ok (.ireturn, 1) := by decide +kernel
theorem eL_octet_14 : dec cL_octet 14 .ireturn 1 15 := ⟨dL_octet_14, rfl⟩
theorem dL_octet_15 : decode cL_octet 15 = .ok (.iconst 0, 1) := by decide +kernel
theorem eL_octet_15 : dec cL_octet 15 (.iconst 0) 1 16 := ⟨dL_octet_15, rfl⟩
theorem dL_octet_16 : decode cL_octet 16 = .ok (.ireturn, 1) := by decide +kernel
theorem eL_octet_16 : dec cL_octet 16 .ireturn 1 17 := ⟨dL_octet_16, rfl⟩
set_option maxRecDepth 20000 in
theorem ggL_grey_X0_grey : GoodIn wsL_grey wsX0_grey := goodIn_r _ [5, 6, 7, 8, 9, 10, 11, 12, 13, 4, 14, 15, 16, 17, 18, 19, 20, 21, 22, 23, 24, 25, 26, 27, 28, 29, 30, 31, 32, 33, 34, 35, 36, 37] (by decide +kernel) (by decide +kernel)
set_option maxRecDepth 20000 in
theorem gL_grey_X0_grey : GoodIn wsL_grey (wsV RL 19 RX0 yX0_grey wsX0_grey) := goodIn_app (goodIn_of _ (by decide +kernel)) ggL_grey_X0_grey
theorem dL_grey_0 : decode cL_grey 0 = .ok (.aload_n 3, 1) := by decide +kernel
theorem eL_grey_0 : dec cL_grey 0 (.aload_n 3) 1 1 := ⟨dL_grey_0, rfl⟩
theorem dL_grey_1 : decode cL_grey 1 = .ok (.iconst 0, 1) := by decide +kernel
theorem eL_grey_1 : dec cL_grey 1 (.iconst 0) 1 2 := ⟨dL_grey_1, rfl⟩
theorem dL_grey_2 : decode cL_grey 2 = .ok (.aload_n 0, 1) := by decide +kernel
theorem eL_grey_2 : dec cL_grey 2 (.aload_n 0) 1 3 := ⟨dL_grey_2, rfl⟩
theorem dL_grey_3 : decode cL_grey 3 = .ok (.iload_n 1, 1) := by decide +kernel
theorem eL_grey_3 : dec cL_grey 3 (.iload_n 1) 1 4 := ⟨dL_grey_3, rfl⟩
theorem dL_grey_4 : decode cL_grey 4 = .ok (.iload_n 2, 1) := by decide +kernel
theorem eL_grey_4 : dec cL_grey 4 (.iload_n 2) 1 5 := ⟨dL_grey_4, rfl⟩
theorem dL_grey_5 : decode cL_grey 5 = .ok (.invokevirtual 19, 3) := by decide +kernel
theorem eL_grey_5 : dec cL_grey 5 (.invokevirtual 19) 3 8 := ⟨dL_grey_5, rfl⟩
theorem dL_grey_8 : decode cL_grey 8 = .ok (.i2l, 1) := by decide +kernel
theorem eL_grey_8 : dec cL_grey 8 .i2l 1 9 := ⟨dL_grey_8, rfl⟩
theorem dL_grey_9 : decode cL_grey 9 = .ok (.lastore, 1) := by decide +kernel
theorem eL_grey_9 : dec cL_grey 9 .lastore 1 10 := ⟨dL_grey_9, rfl⟩
theorem dL_grey_10 : decode cL_grey 10 = .ok (.goto 7, 3) := by decide +kernel
theorem eL_grey_10 : dec cL_grey 10 (.goto 7) 3 13 := ⟨dL_grey_10, rfl⟩
theorem dL_grey_13 : decode cL_grey 13 = .ok (.astore 4, 2) := by decide +kernel
theorem eL_grey_13 : dec cL_grey 13 (.astore 4) 2 15 := ⟨dL_grey_13, rfl⟩
theorem dL_grey_15 : decode cL_grey 15 = .ok (.iconst 1, 1) := by decide +kernel
theorem eL_grey_15 : dec cL_grey 15 (.iconst 1) 1 16 := ⟨dL_grey_15, rfl⟩
theorem dL_grey_16 : decode cL_grey 16 = .ok (.ireturn, 1) := by decide +kernel
theorem eL_grey_16 : dec cL_grey 16 .ireturn 1 17 := ⟨dL_grey_16, rfl⟩
theorem dL_grey_17 : decode cL_grey 17 = .ok (.iconst 0, 1) := by decide +kernel
theorem eL_grey_17 : dec cL_grey 17 (.iconst 0) 1 18 := ⟨dL_grey_17, rfl⟩
theorem dL_grey_18 : decode cL_grey 18 = .ok (.ireturn, 1) := by decide +kernel
theorem eL_grey_18 : dec cL_grey 18 .ireturn 1 19 := ⟨dL_grey_18, rfl⟩
set_option maxRecDepth 20000 in
theorem ggL_law_L_cell : GoodIn wsL_law wsL_cell := goodIn_r _ [10] (by decide +kernel) (by decide +kernel)
set_option maxRecDepth 20000 in
theorem gL_law_L_cell : GoodIn wsL_law (va_wsS RL 23 yL_cell wsL_cell) := goodIn_app (goodIn_of _ (by decide +kernel)) ggL_law_L_cell
set_option maxRecDepth 20000 in
theorem ggL_law_X0_init : GoodIn wsL_law wsX0_init := goodIn_r _ [13, 14, 15, 16, 17, 18, 19, 20, 21, 22, 23, 24, 25, 26, 27, 28, 29, 30, 31, 32, 33, 34, 35, 36, 37, 38, 39, 40, 41, 42, 325, 326, 327, 328, 329, 330, 331, 332, 333, 334, 335, 336, 337, 338, 339, 340] (by decide +kernel) (by decide +kernel)
set_option maxRecDepth 20000 in
theorem gL_law_X0_init : GoodIn wsL_law (wsX0_init) := ggL_law_X0_init
set_option maxRecDepth 20000 in
theorem ggL_law_X1_init : GoodIn wsL_law wsX1_init := goodIn_r _ [45, 46, 15, 16, 29, 47, 48, 49, 50, 51, 52, 26, 53, 54, 55, 56, 57, 341, 342, 343, 344, 345, 346, 347, 348, 349, 350, 351, 352, 353, 354, 355] (by decide +kernel) (by decide +kernel)
set_option maxRecDepth 20000 in
theorem gL_law_X1_init : GoodIn wsL_law (wsX1_init) := ggL_law_X1_init
set_option maxRecDepth 20000 in
theorem ggL_law_L_put : GoodIn wsL_law wsL_put := goodIn_r _ [60, 61, 62, 63, 2, 64, 65, 66, 67, 27, 24, 68, 69, 70, 71, 25, 356, 357, 358, 359, 360, 361, 325, 326, 327, 328, 329, 330, 331, 332, 333, 334, 335, 336, 337, 338, 339, 340] (by decide +kernel) (by decide +kernel)
set_option maxRecDepth 20000 in
theorem gL_law_L_put : GoodIn wsL_law (va_wsS RL 35 yL_put wsL_put) := goodIn_app (goodIn_of _ (by decide +kernel)) ggL_law_L_put
set_option maxRecDepth 20000 in
theorem ggL_law_X1_put : GoodIn wsL_law wsX1_put := goodIn_r _ [75, 47, 55, 76, 77, 78, 5, 79, 56, 80, 81, 82, 83, 84, 341, 342, 343, 344, 345, 346, 347, 348, 349, 350, 351, 352, 353, 354, 355] (by decide +kernel) (by decide +kernel)
set_option maxRecDepth 20000 in
theorem gL_law_X1_put : GoodIn wsL_law (wsV RL 38 RX1 yX1_put wsX1_put) := goodIn_app (goodIn_of _ (by decide +kernel)) ggL_law_X1_put
set_option maxRecDepth 20000 in
theorem ggL_law_X1_thrown : GoodIn wsL_law wsX1_thrown := goodIn_r _ [88, 84, 341, 342, 343, 344, 345, 346, 347, 348, 349, 350, 351, 352, 353, 354, 355] (by decide +kernel) (by decide +kernel)
set_option maxRecDepth 20000 in
theorem gL_law_X1_thrown : GoodIn wsL_law (wsV RL 39 RX1 yX1_thrown wsX1_thrown) := goodIn_app (goodIn_of _ (by decide +kernel)) ggL_law_X1_thrown
set_option maxRecDepth 20000 in
theorem ggL_law_X0_threshold : GoodIn wsL_law wsX0_threshold := goodIn_r _ [92, 93, 94, 95, 2, 96, 30, 27, 31, 97, 98, 41, 99, 100, 101, 102, 103, 104, 105, 106, 107, 325, 326, 327, 328, 329, 330, 331, 332, 333, 334, 335, 336, 337, 338, 339, 340] (by decide +kernel) (by decide +kernel)
set_option maxRecDepth 20000 in
theorem gL_law_X0_threshold : GoodIn wsL_law (wsV RL 43 RX0 yX0_threshold wsX0_threshold) := goodIn_app (goodIn_of _ (by decide +kernel)) ggL_law_X0_threshold
set_option maxRecDepth 20000 in
theorem ggL_law_X1_threshold : GoodIn wsL_law wsX1_threshold := goodIn_r _ [111, 84, 112, 113, 114, 5, 115, 49, 57, 47, 116, 117, 118, 119, 341, 342, 343, 344, 345, 346, 347, 348, 349, 350, 351, 352, 353, 354, 355] (by decide +kernel) (by decide +kernel)
set_option maxRecDepth 20000 in
theorem gL_law_X1_threshold : GoodIn wsL_law (wsV RL 46 RX1 yX1_threshold wsX1_threshold) := goodIn_app (goodIn_of _ (by decide +kernel)) ggL_law_X1_threshold
set_option maxRecDepth 20000 in
theorem ggL_law_X0_parts : GoodIn wsL_law wsX0_parts := goodIn_r _ [123, 124, 33, 125, 126, 127, 128, 2, 129, 27, 130, 90, 91, 92, 93, 94, 95, 96, 30, 31, 97, 98, 41, 99, 100, 101, 102, 103, 104, 105, 106, 107, 131, 132, 133, 134, 135, 136, 137, 138, 35, 24, 139, 140, 141, 142, 143, 144, 145, 146, 21, 22, 19, 23, 25, 17, 18, 20, 147, 148, 149, 150, 36, 325, 326, 327, 328, 329, 330, 331, 332, 333, 334, 335, 336, 337, 338, 339, 340] (by decide +kernel) (by decide +kernel)
set_option maxRecDepth 20000 in
theorem gL_law_X0_parts : GoodIn wsL_law (wsV RL 47 RX0 yX0_parts wsX0_parts) := goodIn_app (goodIn_of _ (by decide +kernel)) ggL_law_X0_parts
set_option maxRecDepth 20000 in
theorem ggL_law_X1_parts : GoodIn wsL_law wsX1_parts := goodIn_r _ [154, 84, 57, 50, 48, 155, 156, 157, 158, 5, 159, 47, 112, 113, 114, 115, 49, 116, 117, 118, 119, 160, 161, 162, 163, 164, 165, 166, 167, 55, 76, 77, 78, 79, 56, 168, 169, 170, 171, 172, 173, 174, 175, 52, 341, 342, 343, 344, 345, 346, 347, 348, 349, 350, 351, 352, 353, 354, 355] (by decide +kernel) (by decide +kernel)
set_option maxRecDepth 20000 in
theorem gL_law_X1_parts : GoodIn wsL_law (wsV RL 50 RX1 yX1_parts wsX1_parts) := goodIn_app (goodIn_of _ (by decide +kernel)) ggL_law_X1_parts
set_option maxRecDepth 20000 in
theorem ggL_law_X0_part : GoodIn wsL_law wsX0_part := goodIn_r _ [179, 124, 36, 325, 326, 327, 328, 329, 330, 331, 332, 333, 334, 335, 336, 337, 338, 339, 340] (by decide +kernel) (by decide +kernel)
set_option maxRecDepth 20000 in
theorem gL_law_X0_part : GoodIn wsL_law (wsV RL 51 RX0 yX0_part wsX0_part) := goodIn_app (goodIn_of _ (by decide +kernel)) ggL_law_X0_part
set_option maxRecDepth 20000 in
theorem ggL_law_X1_part : GoodIn wsL_law wsX1_part := goodIn_r _ [183, 84, 155, 52, 341, 342, 343, 344, 345, 346, 347, 348, 349, 350, 351, 352, 353, 354, 355] (by decide +kernel) (by decide +kernel)
set_option maxRecDepth 20000 in
theorem gL_law_X1_part : GoodIn wsL_law (wsV RL 54 RX1 yX1_part wsX1_part) := goodIn_app (goodIn_of _ (by decide +kernel)) ggL_law_X1_part
set_option maxRecDepth 20000 in
theorem ggL_law_X0_skew : GoodIn wsL_law wsX0_skew := goodIn_r _ [187, 126, 127, 128, 2, 129, 27, 33, 130, 90, 91, 92, 93, 94, 95, 96, 30, 31, 97, 98, 41, 99, 100, 101, 102, 103, 104, 105, 106, 107, 131, 132, 133, 134, 188, 189, 190, 191, 34, 24, 25, 192, 193, 194, 195, 196, 197, 198, 199, 200, 201, 202, 325, 326, 327, 328, 329, 330, 331, 332, 333, 334, 335, 336, 337, 338, 339, 340] (by decide +kernel) (by decide +kernel)
set_option maxRecDepth 20000 in
theorem gL_law_X0_skew : GoodIn wsL_law (wsV RL 55 RX0 yX0_skew wsX0_skew) := goodIn_app (goodIn_of _ (by decide +kernel)) ggL_law_X0_skew
set_option maxRecDepth 20000 in
theorem ggL_law_X1_skew : GoodIn wsL_law wsX1_skew := goodIn_r _ [206, 84, 56, 49, 57, 55, 48, 156, 157, 158, 5, 159, 47, 112, 113, 114, 115, 116, 117, 118, 119, 160, 161, 162, 163, 207, 208, 209, 210, 341, 342, 343, 344, 345, 346, 347, 348, 349, 350, 351, 352, 353, 354, 355] (by decide +kernel) (by decide +kernel)
set_option maxRecDepth 20000 in
theorem gL_law_X1_skew : GoodIn wsL_law (wsV RL 58 RX1 yX1_skew wsX1_skew) := goodIn_app (goodIn_of _ (by decide +kernel)) ggL_law_X1_skew
set_option maxRecDepth 20000 in
theorem ggL_law_X0_turn : GoodIn wsL_law wsX0_turn := goodIn_r _ [214, 24, 25, 28, 27, 192, 193, 194, 2, 195, 196, 197, 198, 199, 200, 201, 202, 215, 216, 217, 218, 325, 326, 327, 328, 329, 330, 331, 332, 333, 334, 335, 336, 337, 338, 339, 340] (by decide +kernel) (by decide +kernel)
set_option maxRecDepth 20000 in
theorem gL_law_X0_turn : GoodIn wsL_law (wsV RL 59 RX0 yX0_turn wsX0_turn) := goodIn_app (goodIn_of _ (by decide +kernel)) ggL_law_X0_turn
set_option maxRecDepth 20000 in
theorem ggL_law_X1_turn : GoodIn wsL_law wsX1_turn := goodIn_r _ [222, 84, 57, 48, 55, 47, 207, 208, 209, 5, 210, 56, 223, 224, 225, 226, 341, 342, 343, 344, 345, 346, 347, 348, 349, 350, 351, 352, 353, 354, 355] (by decide +kernel) (by decide +kernel)
set_option maxRecDepth 20000 in
theorem gL_law_X1_turn : GoodIn wsL_law (wsV RL 63 RX1 yX1_turn wsX1_turn) := goodIn_app (goodIn_of _ (by decide +kernel)) ggL_law_X1_turn
set_option maxRecDepth 20000 in
theorem ggL_law_X0_pack : GoodIn wsL_law wsX0_pack := goodIn_r _ [230, 231, 27, 232, 233, 234, 2, 235, 37, 325, 326, 327, 328, 329, 330, 331, 332, 333, 334, 335, 336, 337, 338, 339, 340] (by decide +kernel) (by decide +kernel)
set_option maxRecDepth 20000 in
theorem gL_law_X0_pack : GoodIn wsL_law (wsV RL 64 RX0 yX0_pack wsX0_pack) := goodIn_app (goodIn_of _ (by decide +kernel)) ggL_law_X0_pack
set_option maxRecDepth 20000 in
theorem ggL_law_X1_pack : GoodIn wsL_law wsX1_pack := goodIn_r _ [239, 84, 240, 57, 47, 53, 341, 342, 343, 344, 345, 346, 347, 348, 349, 350, 351, 352, 353, 354, 355] (by decide +kernel) (by decide +kernel)
set_option maxRecDepth 20000 in
theorem gL_law_X1_pack : GoodIn wsL_law (wsV RL 67 RX1 yX1_pack wsX1_pack) := goodIn_app (goodIn_of _ (by decide +kernel)) ggL_law_X1_pack
set_option maxRecDepth 20000 in
theorem ggL_law_L_octet : GoodIn wsL_law wsL_octet := goodIn_r _ [243, 244, 245, 246, 2, 247, 231, 65, 66, 67, 37, 325, 326, 327, 328, 329, 330, 331, 332, 333, 334, 335, 336, 337, 338, 339, 340, 356, 357, 358, 359, 360, 361] (by decide +kernel) (by decide +kernel)
set_option maxRecDepth 20000 in
theorem gL_law_L_octet : GoodIn wsL_law (va_wsS RL 68 yL_octet wsL_octet) := goodIn_app (goodIn_of _ (by decide +kernel)) ggL_law_L_octet
set_option maxRecDepth 20000 in
theorem ggL_law_X1_octet : GoodIn wsL_law wsX1_octet := goodIn_r _ [251, 240, 53, 80, 81, 82, 5, 83, 84, 341, 342, 343, 344, 345, 346, 347, 348, 349, 350, 351, 352, 353, 354, 355] (by decide +kernel) (by decide +kernel)
set_option maxRecDepth 20000 in
theorem gL_law_X1_octet : GoodIn wsL_law (wsV RL 71 RX1 yX1_octet wsX1_octet) := goodIn_app (goodIn_of _ (by decide +kernel)) ggL_law_X1_octet
set_option maxRecDepth 20000 in
theorem ggL_law_X0_add : GoodIn wsL_law wsX0_add := goodIn_r _ [255, 256, 38, 325, 326, 327, 328, 329, 330, 331, 332, 333, 334, 335, 336, 337, 338, 339, 340] (by decide +kernel) (by decide +kernel)
set_option maxRecDepth 20000 in
theorem gL_law_X0_add : GoodIn wsL_law (wsV RL 72 RX0 yX0_add wsX0_add) := goodIn_app (goodIn_of _ (by decide +kernel)) ggL_law_X0_add
set_option maxRecDepth 20000 in
theorem ggL_law_X1_add : GoodIn wsL_law wsX1_add := goodIn_r _ [260, 84, 261, 54, 341, 342, 343, 344, 345, 346, 347, 348, 349, 350, 351, 352, 353, 354, 355] (by decide +kernel) (by decide +kernel)
set_option maxRecDepth 20000 in
theorem gL_law_X1_add : GoodIn wsL_law (wsV RL 76 RX1 yX1_add wsX1_add) := goodIn_app (goodIn_of _ (by decide +kernel)) ggL_law_X1_add
set_option maxRecDepth 20000 in
theorem ggL_law_X0_unpack : GoodIn wsL_law wsX0_unpack := goodIn_r _ [265, 256, 266, 267, 268, 2, 269, 38, 28, 215, 216, 217, 218, 27, 325, 326, 327, 328, 329, 330, 331, 332, 333, 334, 335, 336, 337, 338, 339, 340] (by decide +kernel) (by decide +kernel)
set_option maxRecDepth 20000 in
theorem gL_law_X0_unpack : GoodIn wsL_law (wsV RL 77 RX0 yX0_unpack wsX0_unpack) := goodIn_app (goodIn_of _ (by decide +kernel)) ggL_law_X0_unpack
set_option maxRecDepth 20000 in
theorem ggL_law_X1_unpack : GoodIn wsL_law wsX1_unpack := goodIn_r _ [273, 84, 261, 57, 54, 48, 223, 224, 225, 5, 226, 47, 341, 342, 343, 344, 345, 346, 347, 348, 349, 350, 351, 352, 353, 354, 355] (by decide +kernel) (by decide +kernel)
set_option maxRecDepth 20000 in
theorem gL_law_X1_unpack : GoodIn wsL_law (wsV RL 80 RX1 yX1_unpack wsX1_unpack) := goodIn_app (goodIn_of _ (by decide +kernel)) ggL_law_X1_unpack
set_option maxRecDepth 20000 in
theorem ggL_law_X0_side : GoodIn wsL_law wsX0_side := goodIn_r _ [277, 278, 279, 280, 2, 281, 25, 24, 28, 27, 282, 283, 284, 285, 286, 287, 288, 289, 290, 291, 292, 293, 39, 40, 41, 42, 294, 295, 296, 297, 215, 216, 217, 218, 325, 326, 327, 328, 329, 330, 331, 332, 333, 334, 335, 336, 337, 338, 339, 340] (by decide +kernel) (by decide +kernel)
set_option maxRecDepth 20000 in
theorem gL_law_X0_side : GoodIn wsL_law (wsV RL 81 RX0 yX0_side wsX0_side) := goodIn_app (goodIn_of _ (by decide +kernel)) ggL_law_X0_side
set_option maxRecDepth 20000 in
theorem ggL_law_X1_side : GoodIn wsL_law wsX1_side := goodIn_r _ [301, 84, 57, 55, 48, 47, 56, 302, 303, 304, 5, 305, 223, 224, 225, 226, 341, 342, 343, 344, 345, 346, 347, 348, 349, 350, 351, 352, 353, 354, 355] (by decide +kernel) (by decide +kernel)
set_option maxRecDepth 20000 in
theorem gL_law_X1_side : GoodIn wsL_law (wsV RL 84 RX1 yX1_side wsX1_side) := goodIn_app (goodIn_of _ (by decide +kernel)) ggL_law_X1_side
set_option maxRecDepth 20000 in
theorem ggL_law_X0_inverted : GoodIn wsL_law wsX0_inverted := goodIn_r _ [309, 130, 90, 91, 2, 92, 93, 94, 95, 96, 30, 27, 31, 97, 98, 41, 99, 100, 101, 102, 103, 104, 105, 106, 107, 131, 132, 133, 134, 325, 326, 327, 328, 329, 330, 331, 332, 333, 334, 335, 336, 337, 338, 339, 340] (by decide +kernel) (by decide +kernel)
set_option maxRecDepth 20000 in
theorem gL_law_X0_inverted : GoodIn wsL_law (wsV RL 85 RX0 yX0_inverted wsX0_inverted) := goodIn_app (goodIn_of _ (by decide +kernel)) ggL_law_X0_inverted
set_option maxRecDepth 20000 in
theorem ggL_law_X1_inverted : GoodIn wsL_law wsX1_inverted := goodIn_r _ [313, 84, 112, 113, 114, 5, 115, 49, 57, 47, 116, 117, 118, 119, 160, 161, 162, 163, 341, 342, 343, 344, 345, 346, 347, 348, 349, 350, 351, 352, 353, 354, 355] (by decide +kernel) (by decide +kernel)
set_option maxRecDepth 20000 in
theorem gL_law_X1_inverted : GoodIn wsL_law (wsV RL 89 RX1 yX1_inverted wsX1_inverted) := goodIn_app (goodIn_of _ (by decide +kernel)) ggL_law_X1_inverted
set_option maxRecDepth 20000 in
theorem ggL_law_L_grey : GoodIn wsL_law wsL_grey := goodIn_r _ [316, 317, 318, 319, 2, 320, 65, 66, 67, 27, 24, 68, 69, 70, 71, 25, 356, 357, 358, 359, 360, 361, 325, 326, 327, 328, 329, 330, 331, 332, 333, 334, 335, 336, 337, 338, 339, 340] (by decide +kernel) (by decide +kernel)
set_option maxRecDepth 20000 in
theorem gL_law_L_grey : GoodIn wsL_law (va_wsS RL 90 yL_grey wsL_grey) := goodIn_app (goodIn_of _ (by decide +kernel)) ggL_law_L_grey
set_option maxRecDepth 20000 in
theorem ggL_law_X1_grey : GoodIn wsL_law wsX1_grey := goodIn_r _ [324, 47, 55, 76, 77, 78, 5, 79, 56, 80, 81, 82, 83, 84, 341, 342, 343, 344, 345, 346, 347, 348, 349, 350, 351, 352, 353, 354, 355] (by decide +kernel) (by decide +kernel)
set_option maxRecDepth 20000 in
theorem gL_law_X1_grey : GoodIn wsL_law (wsV RL 93 RX1 yX1_grey wsX1_grey) := goodIn_app (goodIn_of _ (by decide +kernel)) ggL_law_X1_grey
theorem dL_law_0 : decode cL_law 0 = .ok (.new 8, 3) := by decide +kernel
theorem eL_law_0 : dec cL_law 0 (.new 8) 3 3 := ⟨dL_law_0, rfl⟩
theorem dL_law_3 : decode cL_law 3 = .ok (.dup, 1) := by decide +kernel
theorem eL_law_3 : dec cL_law 3 .dup 1 4 := ⟨dL_law_3, rfl⟩
theorem dL_law_4 : decode cL_law 4 = .ok (.aload_n 0, 1) := by decide +kernel
theorem eL_law_4 : dec cL_law 4 (.aload_n 0) 1 5 := ⟨dL_law_4, rfl⟩
theorem dL_law_5 : decode cL_law 5 = .ok (.iconst 0, 1) := by decide +kernel
theorem eL_law_5 : dec cL_law 5 (.iconst 0) 1 6 := ⟨dL_law_5, rfl⟩
theorem dL_law_6 : decode cL_law 6 = .ok (.invokestatic 23, 3) := by decide +kernel
theorem eL_law_6 : dec cL_law 6 (.invokestatic 23) 3 9 := ⟨dL_law_6, rfl⟩
theorem dL_law_9 : decode cL_law 9 = .ok (.aload_n 0, 1) := by decide +kernel
theorem eL_law_9 : dec cL_law 9 (.aload_n 0) 1 10 := ⟨dL_law_9, rfl⟩
theorem dL_law_10 : decode cL_law 10 = .ok (.iconst 1, 1) := by decide +kernel
theorem eL_law_10 : dec cL_law 10 (.iconst 1) 1 11 := ⟨dL_law_10, rfl⟩
theorem dL_law_11 : decode cL_law 11 = .ok (.invokestatic 23, 3) := by decide +kernel
theorem eL_law_11 : dec cL_law 11 (.invokestatic 23) 3 14 := ⟨dL_law_11, rfl⟩
theorem dL_law_14 : decode cL_law 14 = .ok (.invokespecial 29, 3) := by decide +kernel
theorem eL_law_14 : dec cL_law 14 (.invokespecial 29) 3 17 := ⟨dL_law_14, rfl⟩
theorem dL_law_17 : decode cL_law 17 = .ok (.astore_n 1, 1) := by decide +kernel
theorem eL_law_17 : dec cL_law 17 (.astore_n 1) 1 18 := ⟨dL_law_17, rfl⟩
theorem dL_law_18 : decode cL_law 18 = .ok (.new 32, 3) := by decide +kernel
theorem eL_law_18 : dec cL_law 18 (.new 32) 3 21 := ⟨dL_law_18, rfl⟩
theorem dL_law_21 : decode cL_law 21 = .ok (.dup, 1) := by decide +kernel
theorem eL_law_21 : dec cL_law 21 .dup 1 22 := ⟨dL_law_21, rfl⟩
theorem dL_law_22 : decode cL_law 22 = .ok (.aload_n 0, 1) := by decide +kernel
theorem eL_law_22 : dec cL_law 22 (.aload_n 0) 1 23 := ⟨dL_law_22, rfl⟩
theorem dL_law_23 : decode cL_law 23 = .ok (.iconst 0, 1) := by decide +kernel
theorem eL_law_23 : dec cL_law 23 (.iconst 0) 1 24 := ⟨dL_law_23, rfl⟩
theorem dL_law_24 : decode cL_law 24 = .ok (.invokestatic 23, 3) := by decide +kernel
theorem eL_law_24 : dec cL_law 24 (.invokestatic 23) 3 27 := ⟨dL_law_24, rfl⟩
theorem dL_law_27 : decode cL_law 27 = .ok (.aload_n 0, 1) := by decide +kernel
theorem eL_law_27 : dec cL_law 27 (.aload_n 0) 1 28 := ⟨dL_law_27, rfl⟩
theorem dL_law_28 : decode cL_law 28 = .ok (.iconst 1, 1) := by decide +kernel
theorem eL_law_28 : dec cL_law 28 (.iconst 1) 1 29 := ⟨dL_law_28, rfl⟩
theorem dL_law_29 : decode cL_law 29 = .ok (.invokestatic 23, 3) := by decide +kernel
theorem eL_law_29 : dec cL_law 29 (.invokestatic 23) 3 32 := ⟨dL_law_29, rfl⟩
theorem dL_law_32 : decode cL_law 32 = .ok (.invokespecial 34, 3) := by decide +kernel
theorem eL_law_32 : dec cL_law 32 (.invokespecial 34) 3 35 := ⟨dL_law_32, rfl⟩
theorem dL_law_35 : decode cL_law 35 = .ok (.astore_n 2, 1) := by decide +kernel
theorem eL_law_35 : dec cL_law 35 (.astore_n 2) 1 36 := ⟨dL_law_35, rfl⟩
theorem dL_law_36 : decode cL_law 36 = .ok (.iconst 1, 1) := by decide +kernel
theorem eL_law_36 : dec cL_law 36 (.iconst 1) 1 37 := ⟨dL_law_36, rfl⟩
theorem dL_law_37 : decode cL_law 37 = .ok (.newarray .long, 2) := by decide +kernel
theorem eL_law_37 : dec cL_law 37 (.newarray .long) 2 39 := ⟨dL_law_37, rfl⟩
theorem dL_law_39 : decode cL_law 39 = .ok (.astore_n 3, 1) := by decide +kernel
theorem eL_law_39 : dec cL_law 39 (.astore_n 3) 1 40 := ⟨dL_law_39, rfl⟩
theorem dL_law_40 : decode cL_law 40 = .ok (.iconst 2, 1) := by decide +kernel
theorem eL_law_40 : dec cL_law 40 (.iconst 2) 1 41 := ⟨dL_law_40, rfl⟩
theorem dL_law_41 : decode cL_law 41 = .ok (.istore 4, 2) := by decide +kernel
theorem eL_law_41 : dec cL_law 41 (.istore 4) 2 43 := ⟨dL_law_41, rfl⟩
theorem dL_law_43 : decode cL_law 43 = .ok (.iload 4, 2) := by decide +kernel
theorem eL_law_43 : dec cL_law 43 (.iload 4) 2 45 := ⟨dL_law_43, rfl⟩
theorem dL_law_45 : decode cL_law 45 = .ok (.aload_n 0, 1) := by decide +kernel
theorem eL_law_45 : dec cL_law 45 (.aload_n 0) 1 46 := ⟨dL_law_45, rfl⟩
theorem dL_law_46 : decode cL_law 46 = .ok (.arraylength, 1) := by decide +kernel
theorem eL_law_46 : dec cL_law 46 .arraylength 1 47 := ⟨dL_law_46, rfl⟩
theorem dL_law_47 : decode cL_law 47 = .ok (.iconst 4, 1) := by decide +kernel
theorem eL_law_47 : dec cL_law 47 (.iconst 4) 1 48 := ⟨dL_law_47, rfl⟩
theorem dL_law_48 : decode cL_law 48 = .ok (.isub, 1) := by decide +kernel
theorem eL_law_48 : dec cL_law 48 .isub 1 49 := ⟨dL_law_48, rfl⟩
theorem dL_law_49 : decode cL_law 49 = .ok (.if_icmp .gt 457, 3) := by decide +kernel
theorem eL_law_49 : dec cL_law 49 (.if_icmp .gt 457) 3 52 := ⟨dL_law_49, rfl⟩
theorem dL_law_52 : decode cL_law 52 = .ok (.aload_n 0, 1) := by decide +kernel
theorem eL_law_52 : dec cL_law 52 (.aload_n 0) 1 53 := ⟨dL_law_52, rfl⟩
theorem dL_law_53 : decode cL_law 53 = .ok (.iload 4, 2) := by decide +kernel
theorem eL_law_53 : dec cL_law 53 (.iload 4) 2 55 := ⟨dL_law_53, rfl⟩
theorem dL_law_55 : decode cL_law 55 = .ok (.iaload, 1) := by decide +kernel
theorem eL_law_55 : dec cL_law 55 .iaload 1 56 := ⟨dL_law_55, rfl⟩
theorem dL_law_56 : decode cL_law 56 = .ok (.bipush 15, 2) := by decide +kernel
theorem eL_law_56 : dec cL_law 56 (.bipush 15) 2 58 := ⟨dL_law_56, rfl⟩
theorem dL_law_58 : decode cL_law 58 = .ok (.iand, 1) := by decide +kernel
theorem eL_law_58 : dec cL_law 58 .iand 1 59 := ⟨dL_law_58, rfl⟩
theorem dL_law_59 : decode cL_law 59 = .ok (.tableswitch 441 0 12 #[65, 127, 140, 153, 190, 203, 228, 241, 297, 322, 335, 360, 373], 65) := by decide +kernel
theorem eL_law_59 : dec cL_law 59 (.tableswitch 441 0 12 #[65, 127, 140, 153, 190, 203, 228, 241, 297, 322, 335, 360, 373]) 65 124 := ⟨dL_law_59, rfl⟩
theorem dL_law_124 : decode cL_law 124 = .ok (.aload_n 1, 1) := by decide +kernel
theorem eL_law_124 : dec cL_law 124 (.aload_n 1) 1 125 := ⟨dL_law_124, rfl⟩
theorem dL_law_125 : decode cL_law 125 = .ok (.aload_n 0, 1) := by decide +kernel
theorem eL_law_125 : dec cL_law 125 (.aload_n 0) 1 126 := ⟨dL_law_125, rfl⟩
theorem dL_law_126 : decode cL_law 126 = .ok (.iload 4, 2) := by decide +kernel
theorem eL_law_126 : dec cL_law 126 (.iload 4) 2 128 := ⟨dL_law_126, rfl⟩
theorem dL_law_128 : decode cL_law 128 = .ok (.iconst 1, 1) := by decide +kernel
theorem eL_law_128 : dec cL_law 128 (.iconst 1) 1 129 := ⟨dL_law_128, rfl⟩
theorem dL_law_129 : decode cL_law 129 = .ok (.iadd, 1) := by decide +kernel
theorem eL_law_129 : dec cL_law 129 .iadd 1 130 := ⟨dL_law_129, rfl⟩
theorem dL_law_130 : decode cL_law 130 = .ok (.iaload, 1) := by decide +kernel
theorem eL_law_130 : dec cL_law 130 .iaload 1 131 := ⟨dL_law_130, rfl⟩
theorem dL_law_131 : decode cL_law 131 = .ok (.aload_n 0, 1) := by decide +kernel
theorem eL_law_131 : dec cL_law 131 (.aload_n 0) 1 132 := ⟨dL_law_131, rfl⟩
theorem dL_law_132 : decode cL_law 132 = .ok (.iload 4, 2) := by decide +kernel
theorem eL_law_132 : dec cL_law 132 (.iload 4) 2 134 := ⟨dL_law_132, rfl⟩
theorem dL_law_134 : decode cL_law 134 = .ok (.iconst 2, 1) := by decide +kernel
theorem eL_law_134 : dec cL_law 134 (.iconst 2) 1 135 := ⟨dL_law_134, rfl⟩
theorem dL_law_135 : decode cL_law 135 = .ok (.iadd, 1) := by decide +kernel
theorem eL_law_135 : dec cL_law 135 .iadd 1 136 := ⟨dL_law_135, rfl⟩
theorem dL_law_136 : decode cL_law 136 = .ok (.iaload, 1) := by decide +kernel
theorem eL_law_136 : dec cL_law 136 .iaload 1 137 := ⟨dL_law_136, rfl⟩
theorem dL_law_137 : decode cL_law 137 = .ok (.aload_n 0, 1) := by decide +kernel
theorem eL_law_137 : dec cL_law 137 (.aload_n 0) 1 138 := ⟨dL_law_137, rfl⟩
theorem dL_law_138 : decode cL_law 138 = .ok (.iload 4, 2) := by decide +kernel
theorem eL_law_138 : dec cL_law 138 (.iload 4) 2 140 := ⟨dL_law_138, rfl⟩
theorem dL_law_140 : decode cL_law 140 = .ok (.iconst 3, 1) := by decide +kernel
theorem eL_law_140 : dec cL_law 140 (.iconst 3) 1 141 := ⟨dL_law_140, rfl⟩
theorem dL_law_141 : decode cL_law 141 = .ok (.iadd, 1) := by decide +kernel
theorem eL_law_141 : dec cL_law 141 .iadd 1 142 := ⟨dL_law_141, rfl⟩
theorem dL_law_142 : decode cL_law 142 = .ok (.iaload, 1) := by decide +kernel
theorem eL_law_142 : dec cL_law 142 .iaload 1 143 := ⟨dL_law_142, rfl⟩
theorem dL_law_143 : decode cL_law 143 = .ok (.i2b, 1) := by decide +kernel
theorem eL_law_143 : dec cL_law 143 .i2b 1 144 := ⟨dL_law_143, rfl⟩
theorem dL_law_144 : decode cL_law 144 = .ok (.invokestatic 35, 3) := by decide +kernel
theorem eL_law_144 : dec cL_law 144 (.invokestatic 35) 3 147 := ⟨dL_law_144, rfl⟩
theorem dL_law_147 : decode cL_law 147 = .ok (.istore 5, 2) := by decide +kernel
theorem eL_law_147 : dec cL_law 147 (.istore 5) 2 149 := ⟨dL_law_147, rfl⟩
theorem dL_law_149 : decode cL_law 149 = .ok (.aload_n 2, 1) := by decide +kernel
theorem eL_law_149 : dec cL_law 149 (.aload_n 2) 1 150 := ⟨dL_law_149, rfl⟩
theorem dL_law_150 : decode cL_law 150 = .ok (.aload_n 0, 1) := by decide +kernel
theorem eL_law_150 : dec cL_law 150 (.aload_n 0) 1 151 := ⟨dL_law_150, rfl⟩
theorem dL_law_151 : decode cL_law 151 = .ok (.iload 4, 2) := by decide +kernel
theorem eL_law_151 : dec cL_law 151 (.iload 4) 2 153 := ⟨dL_law_151, rfl⟩
theorem dL_law_153 : decode cL_law 153 = .ok (.iconst 1, 1) := by decide +kernel
theorem eL_law_153 : dec cL_law 153 (.iconst 1) 1 154 := ⟨dL_law_153, rfl⟩
theorem dL_law_154 : decode cL_law 154 = .ok (.iadd, 1) := by decide +kernel
theorem eL_law_154 : dec cL_law 154 .iadd 1 155 := ⟨dL_law_154, rfl⟩
theorem dL_law_155 : decode cL_law 155 = .ok (.iaload, 1) := by decide +kernel
theorem eL_law_155 : dec cL_law 155 .iaload 1 156 := ⟨dL_law_155, rfl⟩
theorem dL_law_156 : decode cL_law 156 = .ok (.aload_n 0, 1) := by decide +kernel
theorem eL_law_156 : dec cL_law 156 (.aload_n 0) 1 157 := ⟨dL_law_156, rfl⟩
theorem dL_law_157 : decode cL_law 157 = .ok (.iload 4, 2) := by decide +kernel
theorem eL_law_157 : dec cL_law 157 (.iload 4) 2 159 := ⟨dL_law_157, rfl⟩
theorem dL_law_159 : decode cL_law 159 = .ok (.iconst 2, 1) := by decide +kernel
theorem eL_law_159 : dec cL_law 159 (.iconst 2) 1 160 := ⟨dL_law_159, rfl⟩
theorem dL_law_160 : decode cL_law 160 = .ok (.iadd, 1) := by decide +kernel
theorem eL_law_160 : dec cL_law 160 .iadd 1 161 := ⟨dL_law_160, rfl⟩
theorem dL_law_161 : decode cL_law 161 = .ok (.iaload, 1) := by decide +kernel
theorem eL_law_161 : dec cL_law 161 .iaload 1 162 := ⟨dL_law_161, rfl⟩
theorem dL_law_162 : decode cL_law 162 = .ok (.aload_n 0, 1) := by decide +kernel
theorem eL_law_162 : dec cL_law 162 (.aload_n 0) 1 163 := ⟨dL_law_162, rfl⟩
theorem dL_law_163 : decode cL_law 163 = .ok (.iload 4, 2) := by decide +kernel
theorem eL_law_163 : dec cL_law 163 (.iload 4) 2 165 := ⟨dL_law_163, rfl⟩
theorem dL_law_165 : decode cL_law 165 = .ok (.iconst 3, 1) := by decide +kernel
theorem eL_law_165 : dec cL_law 165 (.iconst 3) 1 166 := ⟨dL_law_165, rfl⟩
theorem dL_law_166 : decode cL_law 166 = .ok (.iadd, 1) := by decide +kernel
theorem eL_law_166 : dec cL_law 166 .iadd 1 167 := ⟨dL_law_166, rfl⟩
theorem dL_law_167 : decode cL_law 167 = .ok (.iaload, 1) := by decide +kernel
theorem eL_law_167 : dec cL_law 167 .iaload 1 168 := ⟨dL_law_167, rfl⟩
theorem dL_law_168 : decode cL_law 168 = .ok (.i2b, 1) := by decide +kernel
theorem eL_law_168 : dec cL_law 168 .i2b 1 169 := ⟨dL_law_168, rfl⟩
theorem dL_law_169 : decode cL_law 169 = .ok (.invokevirtual 38, 3) := by decide +kernel
theorem eL_law_169 : dec cL_law 169 (.invokevirtual 38) 3 172 := ⟨dL_law_169, rfl⟩
theorem dL_law_172 : decode cL_law 172 = .ok (.aload_n 2, 1) := by decide +kernel
theorem eL_law_172 : dec cL_law 172 (.aload_n 2) 1 173 := ⟨dL_law_172, rfl⟩
theorem dL_law_173 : decode cL_law 173 = .ok (.invokevirtual 39, 3) := by decide +kernel
theorem eL_law_173 : dec cL_law 173 (.invokevirtual 39) 3 176 := ⟨dL_law_173, rfl⟩
theorem dL_law_176 : decode cL_law 176 = .ok (.iload 5, 2) := by decide +kernel
theorem eL_law_176 : dec cL_law 176 (.iload 5) 2 178 := ⟨dL_law_176, rfl⟩
theorem dL_law_178 : decode cL_law 178 = .ok (.if_icmp .eq 5, 3) := by decide +kernel
theorem eL_law_178 : dec cL_law 178 (.if_icmp .eq 5) 3 181 := ⟨dL_law_178, rfl⟩
theorem dL_law_181 : decode cL_law 181 = .ok (.iconst 0, 1) := by decide +kernel
theorem eL_law_181 : dec cL_law 181 (.iconst 0) 1 182 := ⟨dL_law_181, rfl⟩
theorem dL_law_182 : decode cL_law 182 = .ok (.ireturn, 1) := by decide +kernel
theorem eL_law_182 : dec cL_law 182 .ireturn 1 183 := ⟨dL_law_182, rfl⟩
theorem dL_law_183 : decode cL_law 183 = .ok (.goto 317, 3) := by decide +kernel
theorem eL_law_183 : dec cL_law 183 (.goto 317) 3 186 := ⟨dL_law_183, rfl⟩
theorem dL_law_186 : decode cL_law 186 = .ok (.aload_n 1, 1) := by decide +kernel
theorem eL_law_186 : dec cL_law 186 (.aload_n 1) 1 187 := ⟨dL_law_186, rfl⟩
theorem dL_law_187 : decode cL_law 187 = .ok (.invokevirtual 43, 3) := by decide +kernel
theorem eL_law_187 : dec cL_law 187 (.invokevirtual 43) 3 190 := ⟨dL_law_187, rfl⟩
theorem dL_law_190 : decode cL_law 190 = .ok (.aload_n 2, 1) := by decide +kernel
theorem eL_law_190 : dec cL_law 190 (.aload_n 2) 1 191 := ⟨dL_law_190, rfl⟩
theorem dL_law_191 : decode cL_law 191 = .ok (.invokevirtual 46, 3) := by decide +kernel
theorem eL_law_191 : dec cL_law 191 (.invokevirtual 46) 3 194 := ⟨dL_law_191, rfl⟩
theorem dL_law_194 : decode cL_law 194 = .ok (.if_icmp .eq 306, 3) := by decide +kernel
theorem eL_law_194 : dec cL_law 194 (.if_icmp .eq 306) 3 197 := ⟨dL_law_194, rfl⟩
theorem dL_law_197 : decode cL_law 197 = .ok (.iconst 0, 1) := by decide +kernel
theorem eL_law_197 : dec cL_law 197 (.iconst 0) 1 198 := ⟨dL_law_197, rfl⟩
theorem dL_law_198 : decode cL_law 198 = .ok (.ireturn, 1) := by decide +kernel
theorem eL_law_198 : dec cL_law 198 .ireturn 1 199 := ⟨dL_law_198, rfl⟩
theorem dL_law_199 : decode cL_law 199 = .ok (.aload_n 1, 1) := by decide +kernel
theorem eL_law_199 : dec cL_law 199 (.aload_n 1) 1 200 := ⟨dL_law_199, rfl⟩
theorem dL_law_200 : decode cL_law 200 = .ok (.invokevirtual 47, 3) := by decide +kernel
theorem eL_law_200 : dec cL_law 200 (.invokevirtual 47) 3 203 := ⟨dL_law_200, rfl⟩
theorem dL_law_203 : decode cL_law 203 = .ok (.aload_n 2, 1) := by decide +kernel
theorem eL_law_203 : dec cL_law 203 (.aload_n 2) 1 204 := ⟨dL_law_203, rfl⟩
theorem dL_law_204 : decode cL_law 204 = .ok (.invokevirtual 50, 3) := by decide +kernel
theorem eL_law_204 : dec cL_law 204 (.invokevirtual 50) 3 207 := ⟨dL_law_204, rfl⟩
theorem dL_law_207 : decode cL_law 207 = .ok (.if_icmp .eq 293, 3) := by decide +kernel
theorem eL_law_207 : dec cL_law 207 (.if_icmp .eq 293) 3 210 := ⟨dL_law_207, rfl⟩
theorem dL_law_210 : decode cL_law 210 = .ok (.iconst 0, 1) := by decide +kernel
theorem eL_law_210 : dec cL_law 210 (.iconst 0) 1 211 := ⟨dL_law_210, rfl⟩
theorem dL_law_211 : decode cL_law 211 = .ok (.ireturn, 1) := by decide +kernel
theorem eL_law_211 : dec cL_law 211 .ireturn 1 212 := ⟨dL_law_211, rfl⟩
theorem dL_law_212 : decode cL_law 212 = .ok (.aload_n 1, 1) := by decide +kernel
theorem eL_law_212 : dec cL_law 212 (.aload_n 1) 1 213 := ⟨dL_law_212, rfl⟩
theorem dL_law_213 : decode cL_law 213 = .ok (.aload_n 0, 1) := by decide +kernel
theorem eL_law_213 : dec cL_law 213 (.aload_n 0) 1 214 := ⟨dL_law_213, rfl⟩
theorem dL_law_214 : decode cL_law 214 = .ok (.iload 4, 2) := by decide +kernel
theorem eL_law_214 : dec cL_law 214 (.iload 4) 2 216 := ⟨dL_law_214, rfl⟩
theorem dL_law_216 : decode cL_law 216 = .ok (.iconst 1, 1) := by decide +kernel
theorem eL_law_216 : dec cL_law 216 (.iconst 1) 1 217 := ⟨dL_law_216, rfl⟩
theorem dL_law_217 : decode cL_law 217 = .ok (.iadd, 1) := by decide +kernel
theorem eL_law_217 : dec cL_law 217 .iadd 1 218 := ⟨dL_law_217, rfl⟩
theorem dL_law_218 : decode cL_law 218 = .ok (.iaload, 1) := by decide +kernel
theorem eL_law_218 : dec cL_law 218 .iaload 1 219 := ⟨dL_law_218, rfl⟩
theorem dL_law_219 : decode cL_law 219 = .ok (.aload_n 0, 1) := by decide +kernel
theorem eL_law_219 : dec cL_law 219 (.aload_n 0) 1 220 := ⟨dL_law_219, rfl⟩
theorem dL_law_220 : decode cL_law 220 = .ok (.iload 4, 2) := by decide +kernel
theorem eL_law_220 : dec cL_law 220 (.iload 4) 2 222 := ⟨dL_law_220, rfl⟩
theorem dL_law_222 : decode cL_law 222 = .ok (.iconst 2, 1) := by decide +kernel
theorem eL_law_222 : dec cL_law 222 (.iconst 2) 1 223 := ⟨dL_law_222, rfl⟩
theorem dL_law_223 : decode cL_law 223 = .ok (.iadd, 1) := by decide +kernel
theorem eL_law_223 : dec cL_law 223 .iadd 1 224 := ⟨dL_law_223, rfl⟩
theorem dL_law_224 : decode cL_law 224 = .ok (.iaload, 1) := by decide +kernel
theorem eL_law_224 : dec cL_law 224 .iaload 1 225 := ⟨dL_law_224, rfl⟩
theorem dL_law_225 : decode cL_law 225 = .ok (.invokevirtual 51, 3) := by decide +kernel
theorem eL_law_225 : dec cL_law 225 (.invokevirtual 51) 3 228 := ⟨dL_law_225, rfl⟩
theorem dL_law_228 : decode cL_law 228 = .ok (.aload_n 2, 1) := by decide +kernel
theorem eL_law_228 : dec cL_law 228 (.aload_n 2) 1 229 := ⟨dL_law_228, rfl⟩
theorem dL_law_229 : decode cL_law 229 = .ok (.aload_n 0, 1) := by decide +kernel
theorem eL_law_229 : dec cL_law 229 (.aload_n 0) 1 230 := ⟨dL_law_229, rfl⟩
theorem dL_law_230 : decode cL_law 230 = .ok (.iload 4, 2) := by decide +kernel
theorem eL_law_230 : dec cL_law 230 (.iload 4) 2 232 := ⟨dL_law_230, rfl⟩
theorem dL_law_232 : decode cL_law 232 = .ok (.iconst 1, 1) := by decide +kernel
theorem eL_law_232 : dec cL_law 232 (.iconst 1) 1 233 := ⟨dL_law_232, rfl⟩
theorem dL_law_233 : decode cL_law 233 = .ok (.iadd, 1) := by decide +kernel
theorem eL_law_233 : dec cL_law 233 .iadd 1 234 := ⟨dL_law_233, rfl⟩
theorem dL_law_234 : decode cL_law 234 = .ok (.iaload, 1) := by decide +kernel
theorem eL_law_234 : dec cL_law 234 .iaload 1 235 := ⟨dL_law_234, rfl⟩
theorem dL_law_235 : decode cL_law 235 = .ok (.aload_n 0, 1) := by decide +kernel
theorem eL_law_235 : dec cL_law 235 (.aload_n 0) 1 236 := ⟨dL_law_235, rfl⟩
theorem dL_law_236 : decode cL_law 236 = .ok (.iload 4, 2) := by decide +kernel
theorem eL_law_236 : dec cL_law 236 (.iload 4) 2 238 := ⟨dL_law_236, rfl⟩
theorem dL_law_238 : decode cL_law 238 = .ok (.iconst 2, 1) := by decide +kernel
theorem eL_law_238 : dec cL_law 238 (.iconst 2) 1 239 := ⟨dL_law_238, rfl⟩
theorem dL_law_239 : decode cL_law 239 = .ok (.iadd, 1) := by decide +kernel
theorem eL_law_239 : dec cL_law 239 .iadd 1 240 := ⟨dL_law_239, rfl⟩
theorem dL_law_240 : decode cL_law 240 = .ok (.iaload, 1) := by decide +kernel
theorem eL_law_240 : dec cL_law 240 .iaload 1 241 := ⟨dL_law_240, rfl⟩
theorem dL_law_241 : decode cL_law 241 = .ok (.invokevirtual 54, 3) := by decide +kernel
theorem eL_law_241 : dec cL_law 241 (.invokevirtual 54) 3 244 := ⟨dL_law_241, rfl⟩
theorem dL_law_244 : decode cL_law 244 = .ok (.if_icmp .eq 256, 3) := by decide +kernel
theorem eL_law_244 : dec cL_law 244 (.if_icmp .eq 256) 3 247 := ⟨dL_law_244, rfl⟩
theorem dL_law_247 : decode cL_law 247 = .ok (.iconst 0, 1) := by decide +kernel
theorem eL_law_247 : dec cL_law 247 (.iconst 0) 1 248 := ⟨dL_law_247, rfl⟩
theorem dL_law_248 : decode cL_law 248 = .ok (.ireturn, 1) := by decide +kernel
theorem eL_law_248 : dec cL_law 248 .ireturn 1 249 := ⟨dL_law_248, rfl⟩
theorem dL_law_249 : decode cL_law 249 = .ok (.aload_n 1, 1) := by decide +kernel
theorem eL_law_249 : dec cL_law 249 (.aload_n 1) 1 250 := ⟨dL_law_249, rfl⟩
theorem dL_law_250 : decode cL_law 250 = .ok (.invokevirtual 55, 3) := by decide +kernel
theorem eL_law_250 : dec cL_law 250 (.invokevirtual 55) 3 253 := ⟨dL_law_250, rfl⟩
theorem dL_law_253 : decode cL_law 253 = .ok (.aload_n 2, 1) := by decide +kernel
theorem eL_law_253 : dec cL_law 253 (.aload_n 2) 1 254 := ⟨dL_law_253, rfl⟩
theorem dL_law_254 : decode cL_law 254 = .ok (.invokevirtual 58, 3) := by decide +kernel
theorem eL_law_254 : dec cL_law 254 (.invokevirtual 58) 3 257 := ⟨dL_law_254, rfl⟩
theorem dL_law_257 : decode cL_law 257 = .ok (.if_icmp .eq 243, 3) := by decide +kernel
theorem eL_law_257 : dec cL_law 257 (.if_icmp .eq 243) 3 260 := ⟨dL_law_257, rfl⟩
theorem dL_law_260 : decode cL_law 260 = .ok (.iconst 0, 1) := by decide +kernel
theorem eL_law_260 : dec cL_law 260 (.iconst 0) 1 261 := ⟨dL_law_260, rfl⟩
theorem dL_law_261 : decode cL_law 261 = .ok (.ireturn, 1) := by decide +kernel
theorem eL_law_261 : dec cL_law 261 .ireturn 1 262 := ⟨dL_law_261, rfl⟩
theorem dL_law_262 : decode cL_law 262 = .ok (.aload_n 1, 1) := by decide +kernel
theorem eL_law_262 : dec cL_law 262 (.aload_n 1) 1 263 := ⟨dL_law_262, rfl⟩
theorem dL_law_263 : decode cL_law 263 = .ok (.aload_n 0, 1) := by decide +kernel
theorem eL_law_263 : dec cL_law 263 (.aload_n 0) 1 264 := ⟨dL_law_263, rfl⟩
theorem dL_law_264 : decode cL_law 264 = .ok (.iload 4, 2) := by decide +kernel
theorem eL_law_264 : dec cL_law 264 (.iload 4) 2 266 := ⟨dL_law_264, rfl⟩
theorem dL_law_266 : decode cL_law 266 = .ok (.iconst 1, 1) := by decide +kernel
theorem eL_law_266 : dec cL_law 266 (.iconst 1) 1 267 := ⟨dL_law_266, rfl⟩
theorem dL_law_267 : decode cL_law 267 = .ok (.iadd, 1) := by decide +kernel
theorem eL_law_267 : dec cL_law 267 .iadd 1 268 := ⟨dL_law_267, rfl⟩
theorem dL_law_268 : decode cL_law 268 = .ok (.iaload, 1) := by decide +kernel
theorem eL_law_268 : dec cL_law 268 .iaload 1 269 := ⟨dL_law_268, rfl⟩
theorem dL_law_269 : decode cL_law 269 = .ok (.invokevirtual 59, 3) := by decide +kernel
theorem eL_law_269 : dec cL_law 269 (.invokevirtual 59) 3 272 := ⟨dL_law_269, rfl⟩
theorem dL_law_272 : decode cL_law 272 = .ok (.aload_n 2, 1) := by decide +kernel
theorem eL_law_272 : dec cL_law 272 (.aload_n 2) 1 273 := ⟨dL_law_272, rfl⟩
theorem dL_law_273 : decode cL_law 273 = .ok (.aload_n 0, 1) := by decide +kernel
theorem eL_law_273 : dec cL_law 273 (.aload_n 0) 1 274 := ⟨dL_law_273, rfl⟩
theorem dL_law_274 : decode cL_law 274 = .ok (.iload 4, 2) := by decide +kernel
theorem eL_law_274 : dec cL_law 274 (.iload 4) 2 276 := ⟨dL_law_274, rfl⟩
theorem dL_law_276 : decode cL_law 276 = .ok (.iconst 1, 1) := by decide +kernel
theorem eL_law_276 : dec cL_law 276 (.iconst 1) 1 277 := ⟨dL_law_276, rfl⟩
theorem dL_law_277 : decode cL_law 277 = .ok (.iadd, 1) := by decide +kernel
theorem eL_law_277 : dec cL_law 277 .iadd 1 278 := ⟨dL_law_277, rfl⟩
theorem dL_law_278 : decode cL_law 278 = .ok (.iaload, 1) := by decide +kernel
theorem eL_law_278 : dec cL_law 278 .iaload 1 279 := ⟨dL_law_278, rfl⟩
theorem dL_law_279 : decode cL_law 279 = .ok (.invokevirtual 63, 3) := by decide +kernel
theorem eL_law_279 : dec cL_law 279 (.invokevirtual 63) 3 282 := ⟨dL_law_279, rfl⟩
theorem dL_law_282 : decode cL_law 282 = .ok (.if_icmp .eq 218, 3) := by decide +kernel
theorem eL_law_282 : dec cL_law 282 (.if_icmp .eq 218) 3 285 := ⟨dL_law_282, rfl⟩
theorem dL_law_285 : decode cL_law 285 = .ok (.iconst 0, 1) := by decide +kernel
theorem eL_law_285 : dec cL_law 285 (.iconst 0) 1 286 := ⟨dL_law_285, rfl⟩
theorem dL_law_286 : decode cL_law 286 = .ok (.ireturn, 1) := by decide +kernel
theorem eL_law_286 : dec cL_law 286 .ireturn 1 287 := ⟨dL_law_286, rfl⟩
theorem dL_law_287 : decode cL_law 287 = .ok (.aload_n 1, 1) := by decide +kernel
theorem eL_law_287 : dec cL_law 287 (.aload_n 1) 1 288 := ⟨dL_law_287, rfl⟩
theorem dL_law_288 : decode cL_law 288 = .ok (.invokevirtual 64, 3) := by decide +kernel
theorem eL_law_288 : dec cL_law 288 (.invokevirtual 64) 3 291 := ⟨dL_law_288, rfl⟩
theorem dL_law_291 : decode cL_law 291 = .ok (.aload_n 2, 1) := by decide +kernel
theorem eL_law_291 : dec cL_law 291 (.aload_n 2) 1 292 := ⟨dL_law_291, rfl⟩
theorem dL_law_292 : decode cL_law 292 = .ok (.invokevirtual 67, 3) := by decide +kernel
theorem eL_law_292 : dec cL_law 292 (.invokevirtual 67) 3 295 := ⟨dL_law_292, rfl⟩
theorem dL_law_295 : decode cL_law 295 = .ok (.if_icmp .eq 205, 3) := by decide +kernel
theorem eL_law_295 : dec cL_law 295 (.if_icmp .eq 205) 3 298 := ⟨dL_law_295, rfl⟩
theorem dL_law_298 : decode cL_law 298 = .ok (.iconst 0, 1) := by decide +kernel
theorem eL_law_298 : dec cL_law 298 (.iconst 0) 1 299 := ⟨dL_law_298, rfl⟩
theorem dL_law_299 : decode cL_law 299 = .ok (.ireturn, 1) := by decide +kernel
theorem eL_law_299 : dec cL_law 299 .ireturn 1 300 := ⟨dL_law_299, rfl⟩
theorem dL_law_300 : decode cL_law 300 = .ok (.aload_n 1, 1) := by decide +kernel
theorem eL_law_300 : dec cL_law 300 (.aload_n 1) 1 301 := ⟨dL_law_300, rfl⟩
theorem dL_law_301 : decode cL_law 301 = .ok (.aload_n 0, 1) := by decide +kernel
theorem eL_law_301 : dec cL_law 301 (.aload_n 0) 1 302 := ⟨dL_law_301, rfl⟩
theorem dL_law_302 : decode cL_law 302 = .ok (.iload 4, 2) := by decide +kernel
theorem eL_law_302 : dec cL_law 302 (.iload 4) 2 304 := ⟨dL_law_302, rfl⟩
theorem dL_law_304 : decode cL_law 304 = .ok (.iconst 1, 1) := by decide +kernel
theorem eL_law_304 : dec cL_law 304 (.iconst 1) 1 305 := ⟨dL_law_304, rfl⟩
theorem dL_law_305 : decode cL_law 305 = .ok (.iadd, 1) := by decide +kernel
theorem eL_law_305 : dec cL_law 305 .iadd 1 306 := ⟨dL_law_305, rfl⟩
theorem dL_law_306 : decode cL_law 306 = .ok (.iaload, 1) := by decide +kernel
theorem eL_law_306 : dec cL_law 306 .iaload 1 307 := ⟨dL_law_306, rfl⟩
theorem dL_law_307 : decode cL_law 307 = .ok (.aload_n 3, 1) := by decide +kernel
theorem eL_law_307 : dec cL_law 307 (.aload_n 3) 1 308 := ⟨dL_law_307, rfl⟩
theorem dL_law_308 : decode cL_law 308 = .ok (.invokestatic 68, 3) := by decide +kernel
theorem eL_law_308 : dec cL_law 308 (.invokestatic 68) 3 311 := ⟨dL_law_308, rfl⟩
theorem dL_law_311 : decode cL_law 311 = .ok (.istore 5, 2) := by decide +kernel
theorem eL_law_311 : dec cL_law 311 (.istore 5) 2 313 := ⟨dL_law_311, rfl⟩
theorem dL_law_313 : decode cL_law 313 = .ok (.aload_n 2, 1) := by decide +kernel
theorem eL_law_313 : dec cL_law 313 (.aload_n 2) 1 314 := ⟨dL_law_313, rfl⟩
theorem dL_law_314 : decode cL_law 314 = .ok (.aload_n 0, 1) := by decide +kernel
theorem eL_law_314 : dec cL_law 314 (.aload_n 0) 1 315 := ⟨dL_law_314, rfl⟩
theorem dL_law_315 : decode cL_law 315 = .ok (.iload 4, 2) := by decide +kernel
theorem eL_law_315 : dec cL_law 315 (.iload 4) 2 317 := ⟨dL_law_315, rfl⟩
theorem dL_law_317 : decode cL_law 317 = .ok (.iconst 1, 1) := by decide +kernel
theorem eL_law_317 : dec cL_law 317 (.iconst 1) 1 318 := ⟨dL_law_317, rfl⟩
theorem dL_law_318 : decode cL_law 318 = .ok (.iadd, 1) := by decide +kernel
theorem eL_law_318 : dec cL_law 318 .iadd 1 319 := ⟨dL_law_318, rfl⟩
theorem dL_law_319 : decode cL_law 319 = .ok (.iaload, 1) := by decide +kernel
theorem eL_law_319 : dec cL_law 319 .iaload 1 320 := ⟨dL_law_319, rfl⟩
theorem dL_law_320 : decode cL_law 320 = .ok (.invokevirtual 71, 3) := by decide +kernel
theorem eL_law_320 : dec cL_law 320 (.invokevirtual 71) 3 323 := ⟨dL_law_320, rfl⟩
theorem dL_law_323 : decode cL_law 323 = .ok (.istore 6, 2) := by decide +kernel
theorem eL_law_323 : dec cL_law 323 (.istore 6) 2 325 := ⟨dL_law_323, rfl⟩
theorem dL_law_325 : decode cL_law 325 = .ok (.aload_n 2, 1) := by decide +kernel
theorem eL_law_325 : dec cL_law 325 (.aload_n 2) 1 326 := ⟨dL_law_325, rfl⟩
theorem dL_law_326 : decode cL_law 326 = .ok (.invokevirtual 39, 3) := by decide +kernel
theorem eL_law_326 : dec cL_law 326 (.invokevirtual 39) 3 329 := ⟨dL_law_326, rfl⟩
theorem dL_law_329 : decode cL_law 329 = .ok (.iload 5, 2) := by decide +kernel
theorem eL_law_329 : dec cL_law 329 (.iload 5) 2 331 := ⟨dL_law_329, rfl⟩
theorem dL_law_331 : decode cL_law 331 = .ok (.if_icmp .eq 5, 3) := by decide +kernel
theorem eL_law_331 : dec cL_law 331 (.if_icmp .eq 5) 3 334 := ⟨dL_law_331, rfl⟩
theorem dL_law_334 : decode cL_law 334 = .ok (.iconst 0, 1) := by decide +kernel
theorem eL_law_334 : dec cL_law 334 (.iconst 0) 1 335 := ⟨dL_law_334, rfl⟩
theorem dL_law_335 : decode cL_law 335 = .ok (.ireturn, 1) := by decide +kernel
theorem eL_law_335 : dec cL_law 335 .ireturn 1 336 := ⟨dL_law_335, rfl⟩
theorem dL_law_336 : decode cL_law 336 = .ok (.iload 5, 2) := by decide +kernel
theorem eL_law_336 : dec cL_law 336 (.iload 5) 2 338 := ⟨dL_law_336, rfl⟩
theorem dL_law_338 : decode cL_law 338 = .ok (.ifCond .ne 15, 3) := by decide +kernel
theorem eL_law_338 : dec cL_law 338 (.ifCond .ne 15) 3 341 := ⟨dL_law_338, rfl⟩
theorem dL_law_341 : decode cL_law 341 = .ok (.aload_n 3, 1) := by decide +kernel
theorem eL_law_341 : dec cL_law 341 (.aload_n 3) 1 342 := ⟨dL_law_341, rfl⟩
theorem dL_law_342 : decode cL_law 342 = .ok (.iconst 0, 1) := by decide +kernel
theorem eL_law_342 : dec cL_law 342 (.iconst 0) 1 343 := ⟨dL_law_342, rfl⟩
theorem dL_law_343 : decode cL_law 343 = .ok (.laload, 1) := by decide +kernel
theorem eL_law_343 : dec cL_law 343 .laload 1 344 := ⟨dL_law_343, rfl⟩
theorem dL_law_344 : decode cL_law 344 = .ok (.iload 6, 2) := by decide +kernel
theorem eL_law_344 : dec cL_law 344 (.iload 6) 2 346 := ⟨dL_law_344, rfl⟩
theorem dL_law_346 : decode cL_law 346 = .ok (.i2l, 1) := by decide +kernel
theorem eL_law_346 : dec cL_law 346 .i2l 1 347 := ⟨dL_law_346, rfl⟩
theorem dL_law_347 : decode cL_law 347 = .ok (.lcmp, 1) := by decide +kernel
theorem eL_law_347 : dec cL_law 347 .lcmp 1 348 := ⟨dL_law_347, rfl⟩
theorem dL_law_348 : decode cL_law 348 = .ok (.ifCond .eq 5, 3) := by decide +kernel
theorem eL_law_348 : dec cL_law 348 (.ifCond .eq 5) 3 351 := ⟨dL_law_348, rfl⟩
theorem dL_law_351 : decode cL_law 351 = .ok (.iconst 0, 1) := by decide +kernel
theorem eL_law_351 : dec cL_law 351 (.iconst 0) 1 352 := ⟨dL_law_351, rfl⟩
theorem dL_law_352 : decode cL_law 352 = .ok (.ireturn, 1) := by decide +kernel
theorem eL_law_352 : dec cL_law 352 .ireturn 1 353 := ⟨dL_law_352, rfl⟩
theorem dL_law_353 : decode cL_law 353 = .ok (.goto 147, 3) := by decide +kernel
theorem eL_law_353 : dec cL_law 353 (.goto 147) 3 356 := ⟨dL_law_353, rfl⟩
theorem dL_law_356 : decode cL_law 356 = .ok (.aload_n 1, 1) := by decide +kernel
theorem eL_law_356 : dec cL_law 356 (.aload_n 1) 1 357 := ⟨dL_law_356, rfl⟩
theorem dL_law_357 : decode cL_law 357 = .ok (.aload_n 0, 1) := by decide +kernel
theorem eL_law_357 : dec cL_law 357 (.aload_n 0) 1 358 := ⟨dL_law_357, rfl⟩
theorem dL_law_358 : decode cL_law 358 = .ok (.iload 4, 2) := by decide +kernel
theorem eL_law_358 : dec cL_law 358 (.iload 4) 2 360 := ⟨dL_law_358, rfl⟩
theorem dL_law_360 : decode cL_law 360 = .ok (.iconst 1, 1) := by decide +kernel
theorem eL_law_360 : dec cL_law 360 (.iconst 1) 1 361 := ⟨dL_law_360, rfl⟩
theorem dL_law_361 : decode cL_law 361 = .ok (.iadd, 1) := by decide +kernel
theorem eL_law_361 : dec cL_law 361 .iadd 1 362 := ⟨dL_law_361, rfl⟩
theorem dL_law_362 : decode cL_law 362 = .ok (.iaload, 1) := by decide +kernel
theorem eL_law_362 : dec cL_law 362 .iaload 1 363 := ⟨dL_law_362, rfl⟩
theorem dL_law_363 : decode cL_law 363 = .ok (.i2b, 1) := by decide +kernel
theorem eL_law_363 : dec cL_law 363 .i2b 1 364 := ⟨dL_law_363, rfl⟩
theorem dL_law_364 : decode cL_law 364 = .ok (.invokevirtual 72, 3) := by decide +kernel
theorem eL_law_364 : dec cL_law 364 (.invokevirtual 72) 3 367 := ⟨dL_law_364, rfl⟩
theorem dL_law_367 : decode cL_law 367 = .ok (.aload_n 2, 1) := by decide +kernel
theorem eL_law_367 : dec cL_law 367 (.aload_n 2) 1 368 := ⟨dL_law_367, rfl⟩
theorem dL_law_368 : decode cL_law 368 = .ok (.aload_n 0, 1) := by decide +kernel
theorem eL_law_368 : dec cL_law 368 (.aload_n 0) 1 369 := ⟨dL_law_368, rfl⟩
theorem dL_law_369 : decode cL_law 369 = .ok (.iload 4, 2) := by decide +kernel
theorem eL_law_369 : dec cL_law 369 (.iload 4) 2 371 := ⟨dL_law_369, rfl⟩
theorem dL_law_371 : decode cL_law 371 = .ok (.iconst 1, 1) := by decide +kernel
theorem eL_law_371 : dec cL_law 371 (.iconst 1) 1 372 := ⟨dL_law_371, rfl⟩
theorem dL_law_372 : decode cL_law 372 = .ok (.iadd, 1) := by decide +kernel
theorem eL_law_372 : dec cL_law 372 .iadd 1 373 := ⟨dL_law_372, rfl⟩
theorem dL_law_373 : decode cL_law 373 = .ok (.iaload, 1) := by decide +kernel
theorem eL_law_373 : dec cL_law 373 .iaload 1 374 := ⟨dL_law_373, rfl⟩
theorem dL_law_374 : decode cL_law 374 = .ok (.i2b, 1) := by decide +kernel
theorem eL_law_374 : dec cL_law 374 .i2b 1 375 := ⟨dL_law_374, rfl⟩
theorem dL_law_375 : decode cL_law 375 = .ok (.invokevirtual 76, 3) := by decide +kernel
theorem eL_law_375 : dec cL_law 375 (.invokevirtual 76) 3 378 := ⟨dL_law_375, rfl⟩
theorem dL_law_378 : decode cL_law 378 = .ok (.goto 122, 3) := by decide +kernel
theorem eL_law_378 : dec cL_law 378 (.goto 122) 3 381 := ⟨dL_law_378, rfl⟩
theorem dL_law_381 : decode cL_law 381 = .ok (.aload_n 1, 1) := by decide +kernel
theorem eL_law_381 : dec cL_law 381 (.aload_n 1) 1 382 := ⟨dL_law_381, rfl⟩
theorem dL_law_382 : decode cL_law 382 = .ok (.invokevirtual 77, 3) := by decide +kernel
theorem eL_law_382 : dec cL_law 382 (.invokevirtual 77) 3 385 := ⟨dL_law_382, rfl⟩
theorem dL_law_385 : decode cL_law 385 = .ok (.aload_n 2, 1) := by decide +kernel
theorem eL_law_385 : dec cL_law 385 (.aload_n 2) 1 386 := ⟨dL_law_385, rfl⟩
theorem dL_law_386 : decode cL_law 386 = .ok (.invokevirtual 80, 3) := by decide +kernel
theorem eL_law_386 : dec cL_law 386 (.invokevirtual 80) 3 389 := ⟨dL_law_386, rfl⟩
theorem dL_law_389 : decode cL_law 389 = .ok (.if_icmp .eq 111, 3) := by decide +kernel
theorem eL_law_389 : dec cL_law 389 (.if_icmp .eq 111) 3 392 := ⟨dL_law_389, rfl⟩
theorem dL_law_392 : decode cL_law 392 = .ok (.iconst 0, 1) := by decide +kernel
theorem eL_law_392 : dec cL_law 392 (.iconst 0) 1 393 := ⟨dL_law_392, rfl⟩
theorem dL_law_393 : decode cL_law 393 = .ok (.ireturn, 1) := by decide +kernel
theorem eL_law_393 : dec cL_law 393 .ireturn 1 394 := ⟨dL_law_393, rfl⟩
theorem dL_law_394 : decode cL_law 394 = .ok (.aload_n 1, 1) := by decide +kernel
theorem eL_law_394 : dec cL_law 394 (.aload_n 1) 1 395 := ⟨dL_law_394, rfl⟩
theorem dL_law_395 : decode cL_law 395 = .ok (.aload_n 0, 1) := by decide +kernel
theorem eL_law_395 : dec cL_law 395 (.aload_n 0) 1 396 := ⟨dL_law_395, rfl⟩
theorem dL_law_396 : decode cL_law 396 = .ok (.iload 4, 2) := by decide +kernel
theorem eL_law_396 : dec cL_law 396 (.iload 4) 2 398 := ⟨dL_law_396, rfl⟩
theorem dL_law_398 : decode cL_law 398 = .ok (.iconst 1, 1) := by decide +kernel
theorem eL_law_398 : dec cL_law 398 (.iconst 1) 1 399 := ⟨dL_law_398, rfl⟩
theorem dL_law_399 : decode cL_law 399 = .ok (.iadd, 1) := by decide +kernel
theorem eL_law_399 : dec cL_law 399 .iadd 1 400 := ⟨dL_law_399, rfl⟩
theorem dL_law_400 : decode cL_law 400 = .ok (.iaload, 1) := by decide +kernel
theorem eL_law_400 : dec cL_law 400 .iaload 1 401 := ⟨dL_law_400, rfl⟩
theorem dL_law_401 : decode cL_law 401 = .ok (.invokevirtual 81, 3) := by decide +kernel
theorem eL_law_401 : dec cL_law 401 (.invokevirtual 81) 3 404 := ⟨dL_law_401, rfl⟩
theorem dL_law_404 : decode cL_law 404 = .ok (.aload_n 2, 1) := by decide +kernel
theorem eL_law_404 : dec cL_law 404 (.aload_n 2) 1 405 := ⟨dL_law_404, rfl⟩
theorem dL_law_405 : decode cL_law 405 = .ok (.aload_n 0, 1) := by decide +kernel
theorem eL_law_405 : dec cL_law 405 (.aload_n 0) 1 406 := ⟨dL_law_405, rfl⟩
theorem dL_law_406 : decode cL_law 406 = .ok (.iload 4, 2) := by decide +kernel
theorem eL_law_406 : dec cL_law 406 (.iload 4) 2 408 := ⟨dL_law_406, rfl⟩
theorem dL_law_408 : decode cL_law 408 = .ok (.iconst 1, 1) := by decide +kernel
theorem eL_law_408 : dec cL_law 408 (.iconst 1) 1 409 := ⟨dL_law_408, rfl⟩
theorem dL_law_409 : decode cL_law 409 = .ok (.iadd, 1) := by decide +kernel
theorem eL_law_409 : dec cL_law 409 .iadd 1 410 := ⟨dL_law_409, rfl⟩
theorem dL_law_410 : decode cL_law 410 = .ok (.iaload, 1) := by decide +kernel
theorem eL_law_410 : dec cL_law 410 .iaload 1 411 := ⟨dL_law_410, rfl⟩
theorem dL_law_411 : decode cL_law 411 = .ok (.invokevirtual 84, 3) := by decide +kernel
theorem eL_law_411 : dec cL_law 411 (.invokevirtual 84) 3 414 := ⟨dL_law_411, rfl⟩
theorem dL_law_414 : decode cL_law 414 = .ok (.if_icmp .eq 86, 3) := by decide +kernel
theorem eL_law_414 : dec cL_law 414 (.if_icmp .eq 86) 3 417 := ⟨dL_law_414, rfl⟩
theorem dL_law_417 : decode cL_law 417 = .ok (.iconst 0, 1) := by decide +kernel
theorem eL_law_417 : dec cL_law 417 (.iconst 0) 1 418 := ⟨dL_law_417, rfl⟩
theorem dL_law_418 : decode cL_law 418 = .ok (.ireturn, 1) := by decide +kernel
theorem eL_law_418 : dec cL_law 418 .ireturn 1 419 := ⟨dL_law_418, rfl⟩
theorem dL_law_419 : decode cL_law 419 = .ok (.aload_n 1, 1) := by decide +kernel
theorem eL_law_419 : dec cL_law 419 (.aload_n 1) 1 420 := ⟨dL_law_419, rfl⟩
theorem dL_law_420 : decode cL_law 420 = .ok (.invokevirtual 85, 3) := by decide +kernel
theorem eL_law_420 : dec cL_law 420 (.invokevirtual 85) 3 423 := ⟨dL_law_420, rfl⟩
theorem dL_law_423 : decode cL_law 423 = .ok (.aload_n 2, 1) := by decide +kernel
theorem eL_law_423 : dec cL_law 423 (.aload_n 2) 1 424 := ⟨dL_law_423, rfl⟩
theorem dL_law_424 : decode cL_law 424 = .ok (.invokevirtual 89, 3) := by decide +kernel
theorem eL_law_424 : dec cL_law 424 (.invokevirtual 89) 3 427 := ⟨dL_law_424, rfl⟩
theorem dL_law_427 : decode cL_law 427 = .ok (.if_icmp .eq 73, 3) := by decide +kernel
theorem eL_law_427 : dec cL_law 427 (.if_icmp .eq 73) 3 430 := ⟨dL_law_427, rfl⟩
theorem dL_law_430 : decode cL_law 430 = .ok (.iconst 0, 1) := by decide +kernel
theorem eL_law_430 : dec cL_law 430 (.iconst 0) 1 431 := ⟨dL_law_430, rfl⟩
theorem dL_law_431 : decode cL_law 431 = .ok (.ireturn, 1) := by decide +kernel
theorem eL_law_431 : dec cL_law 431 .ireturn 1 432 := ⟨dL_law_431, rfl⟩
theorem dL_law_432 : decode cL_law 432 = .ok (.aload_n 1, 1) := by decide +kernel
theorem eL_law_432 : dec cL_law 432 (.aload_n 1) 1 433 := ⟨dL_law_432, rfl⟩
theorem dL_law_433 : decode cL_law 433 = .ok (.aload_n 0, 1) := by decide +kernel
theorem eL_law_433 : dec cL_law 433 (.aload_n 0) 1 434 := ⟨dL_law_433, rfl⟩
theorem dL_law_434 : decode cL_law 434 = .ok (.iload 4, 2) := by decide +kernel
theorem eL_law_434 : dec cL_law 434 (.iload 4) 2 436 := ⟨dL_law_434, rfl⟩
theorem dL_law_436 : decode cL_law 436 = .ok (.iconst 1, 1) := by decide +kernel
theorem eL_law_436 : dec cL_law 436 (.iconst 1) 1 437 := ⟨dL_law_436, rfl⟩
theorem dL_law_437 : decode cL_law 437 = .ok (.iadd, 1) := by decide +kernel
theorem eL_law_437 : dec cL_law 437 .iadd 1 438 := ⟨dL_law_437, rfl⟩
theorem dL_law_438 : decode cL_law 438 = .ok (.iaload, 1) := by decide +kernel
theorem eL_law_438 : dec cL_law 438 .iaload 1 439 := ⟨dL_law_438, rfl⟩
theorem dL_law_439 : decode cL_law 439 = .ok (.aload_n 0, 1) := by decide +kernel
theorem eL_law_439 : dec cL_law 439 (.aload_n 0) 1 440 := ⟨dL_law_439, rfl⟩
theorem dL_law_440 : decode cL_law 440 = .ok (.iload 4, 2) := by decide +kernel
theorem eL_law_440 : dec cL_law 440 (.iload 4) 2 442 := ⟨dL_law_440, rfl⟩
theorem dL_law_442 : decode cL_law 442 = .ok (.iconst 2, 1) := by decide +kernel
theorem eL_law_442 : dec cL_law 442 (.iconst 2) 1 443 := ⟨dL_law_442, rfl⟩
theorem dL_law_443 : decode cL_law 443 = .ok (.iadd, 1) := by decide +kernel
theorem eL_law_443 : dec cL_law 443 .iadd 1 444 := ⟨dL_law_443, rfl⟩
theorem dL_law_444 : decode cL_law 444 = .ok (.iaload, 1) := by decide +kernel
theorem eL_law_444 : dec cL_law 444 .iaload 1 445 := ⟨dL_law_444, rfl⟩
theorem dL_law_445 : decode cL_law 445 = .ok (.aload_n 3, 1) := by decide +kernel
theorem eL_law_445 : dec cL_law 445 (.aload_n 3) 1 446 := ⟨dL_law_445, rfl⟩
theorem dL_law_446 : decode cL_law 446 = .ok (.invokestatic 90, 3) := by decide +kernel
theorem eL_law_446 : dec cL_law 446 (.invokestatic 90) 3 449 := ⟨dL_law_446, rfl⟩
theorem dL_law_449 : decode cL_law 449 = .ok (.istore 5, 2) := by decide +kernel
theorem eL_law_449 : dec cL_law 449 (.istore 5) 2 451 := ⟨dL_law_449, rfl⟩
theorem dL_law_451 : decode cL_law 451 = .ok (.aload_n 2, 1) := by decide +kernel
theorem eL_law_451 : dec cL_law 451 (.aload_n 2) 1 452 := ⟨dL_law_451, rfl⟩
theorem dL_law_452 : decode cL_law 452 = .ok (.aload_n 0, 1) := by decide +kernel
theorem eL_law_452 : dec cL_law 452 (.aload_n 0) 1 453 := ⟨dL_law_452, rfl⟩
theorem dL_law_453 : decode cL_law 453 = .ok (.iload 4, 2) := by decide +kernel
theorem eL_law_453 : dec cL_law 453 (.iload 4) 2 455 := ⟨dL_law_453, rfl⟩
theorem dL_law_455 : decode cL_law 455 = .ok (.iconst 1, 1) := by decide +kernel
theorem eL_law_455 : dec cL_law 455 (.iconst 1) 1 456 := ⟨dL_law_455, rfl⟩
theorem dL_law_456 : decode cL_law 456 = .ok (.iadd, 1) := by decide +kernel
theorem eL_law_456 : dec cL_law 456 .iadd 1 457 := ⟨dL_law_456, rfl⟩
theorem dL_law_457 : decode cL_law 457 = .ok (.iaload, 1) := by decide +kernel
theorem eL_law_457 : dec cL_law 457 .iaload 1 458 := ⟨dL_law_457, rfl⟩
theorem dL_law_458 : decode cL_law 458 = .ok (.aload_n 0, 1) := by decide +kernel
theorem eL_law_458 : dec cL_law 458 (.aload_n 0) 1 459 := ⟨dL_law_458, rfl⟩
theorem dL_law_459 : decode cL_law 459 = .ok (.iload 4, 2) := by decide +kernel
theorem eL_law_459 : dec cL_law 459 (.iload 4) 2 461 := ⟨dL_law_459, rfl⟩
theorem dL_law_461 : decode cL_law 461 = .ok (.iconst 2, 1) := by decide +kernel
theorem eL_law_461 : dec cL_law 461 (.iconst 2) 1 462 := ⟨dL_law_461, rfl⟩
theorem dL_law_462 : decode cL_law 462 = .ok (.iadd, 1) := by decide +kernel
theorem eL_law_462 : dec cL_law 462 .iadd 1 463 := ⟨dL_law_462, rfl⟩
theorem dL_law_463 : decode cL_law 463 = .ok (.iaload, 1) := by decide +kernel
theorem eL_law_463 : dec cL_law 463 .iaload 1 464 := ⟨dL_law_463, rfl⟩
theorem dL_law_464 : decode cL_law 464 = .ok (.invokevirtual 93, 3) := by decide +kernel
theorem eL_law_464 : dec cL_law 464 (.invokevirtual 93) 3 467 := ⟨dL_law_464, rfl⟩
theorem dL_law_467 : decode cL_law 467 = .ok (.istore 6, 2) := by decide +kernel
theorem eL_law_467 : dec cL_law 467 (.istore 6) 2 469 := ⟨dL_law_467, rfl⟩
theorem dL_law_469 : decode cL_law 469 = .ok (.aload_n 2, 1) := by decide +kernel
theorem eL_law_469 : dec cL_law 469 (.aload_n 2) 1 470 := ⟨dL_law_469, rfl⟩
theorem dL_law_470 : decode cL_law 470 = .ok (.invokevirtual 39, 3) := by decide +kernel
theorem eL_law_470 : dec cL_law 470 (.invokevirtual 39) 3 473 := ⟨dL_law_470, rfl⟩
theorem dL_law_473 : decode cL_law 473 = .ok (.iload 5, 2) := by decide +kernel
theorem eL_law_473 : dec cL_law 473 (.iload 5) 2 475 := ⟨dL_law_473, rfl⟩
theorem dL_law_475 : decode cL_law 475 = .ok (.if_icmp .eq 5, 3) := by decide +kernel
theorem eL_law_475 : dec cL_law 475 (.if_icmp .eq 5) 3 478 := ⟨dL_law_475, rfl⟩
theorem dL_law_478 : decode cL_law 478 = .ok (.iconst 0, 1) := by decide +kernel
theorem eL_law_478 : dec cL_law 478 (.iconst 0) 1 479 := ⟨dL_law_478, rfl⟩
theorem dL_law_479 : decode cL_law 479 = .ok (.ireturn, 1) := by decide +kernel
theorem eL_law_479 : dec cL_law 479 .ireturn 1 480 := ⟨dL_law_479, rfl⟩
theorem dL_law_480 : decode cL_law 480 = .ok (.iload 5, 2) := by decide +kernel
theorem eL_law_480 : dec cL_law 480 (.iload 5) 2 482 := ⟨dL_law_480, rfl⟩
theorem dL_law_482 : decode cL_law 482 = .ok (.ifCond .ne 15, 3) := by decide +kernel
theorem eL_law_482 : dec cL_law 482 (.ifCond .ne 15) 3 485 := ⟨dL_law_482, rfl⟩
theorem dL_law_485 : decode cL_law 485 = .ok (.aload_n 3, 1) := by decide +kernel
theorem eL_law_485 : dec cL_law 485 (.aload_n 3) 1 486 := ⟨dL_law_485, rfl⟩
theorem dL_law_486 : decode cL_law 486 = .ok (.iconst 0, 1) := by decide +kernel
theorem eL_law_486 : dec cL_law 486 (.iconst 0) 1 487 := ⟨dL_law_486, rfl⟩
theorem dL_law_487 : decode cL_law 487 = .ok (.laload, 1) := by decide +kernel
theorem eL_law_487 : dec cL_law 487 .laload 1 488 := ⟨dL_law_487, rfl⟩
theorem dL_law_488 : decode cL_law 488 = .ok (.iload 6, 2) := by decide +kernel
theorem eL_law_488 : dec cL_law 488 (.iload 6) 2 490 := ⟨dL_law_488, rfl⟩
theorem dL_law_490 : decode cL_law 490 = .ok (.i2l, 1) := by decide +kernel
theorem eL_law_490 : dec cL_law 490 .i2l 1 491 := ⟨dL_law_490, rfl⟩
theorem dL_law_491 : decode cL_law 491 = .ok (.lcmp, 1) := by decide +kernel
theorem eL_law_491 : dec cL_law 491 .lcmp 1 492 := ⟨dL_law_491, rfl⟩
theorem dL_law_492 : decode cL_law 492 = .ok (.ifCond .eq 5, 3) := by decide +kernel
theorem eL_law_492 : dec cL_law 492 (.ifCond .eq 5) 3 495 := ⟨dL_law_492, rfl⟩
theorem dL_law_495 : decode cL_law 495 = .ok (.iconst 0, 1) := by decide +kernel
theorem eL_law_495 : dec cL_law 495 (.iconst 0) 1 496 := ⟨dL_law_495, rfl⟩
theorem dL_law_496 : decode cL_law 496 = .ok (.ireturn, 1) := by decide +kernel
theorem eL_law_496 : dec cL_law 496 .ireturn 1 497 := ⟨dL_law_496, rfl⟩
theorem dL_law_497 : decode cL_law 497 = .ok (.goto 3, 3) := by decide +kernel
theorem eL_law_497 : dec cL_law 497 (.goto 3) 3 500 := ⟨dL_law_497, rfl⟩
theorem dL_law_500 : decode cL_law 500 = .ok (.iinc 4 4, 3) := by decide +kernel
theorem eL_law_500 : dec cL_law 500 (.iinc 4 4) 3 503 := ⟨dL_law_500, rfl⟩
theorem dL_law_503 : decode cL_law 503 = .ok (.goto (-460), 3) := by decide +kernel
theorem eL_law_503 : dec cL_law 503 (.goto (-460)) 3 506 := ⟨dL_law_503, rfl⟩
theorem dL_law_506 : decode cL_law 506 = .ok (.iconst 1, 1) := by decide +kernel
theorem eL_law_506 : dec cL_law 506 (.iconst 1) 1 507 := ⟨dL_law_506, rfl⟩
theorem dL_law_507 : decode cL_law 507 = .ok (.ireturn, 1) := by decide +kernel
theorem eL_law_507 : dec cL_law 507 .ireturn 1 508 := ⟨dL_law_507, rfl⟩
end
section
/-! THE WORLDS: the class's object with its ten arrays; the reference's with its eight. G S .. are what the arrays hold, as functions to Int. -/
abbrev tyl (cB cI cZ cL : ClassId) : List (ClassId × FieldType) := [(cB, .byte), (cI, .int), (cZ, .boolean), (cL, .long)]
def wXf (cB cI cZ : ClassId) (ad : Nat → Nat) (w h : Nat) (fG fS aG aS : Nat) (G S CB SB DK DR RE PF PK CO : Nat → Int) (rc pn kn cn : Int) : va_W :=
  [(ad 0, .inr (1, [.int (zI (w : Int)), .int (zI (h : Int)), .ref fG, .ref fS, .ref (ad 4), .ref (ad 5), .ref (ad 6), .ref (ad 7), .ref (ad 8), .int (zI rc), .ref (ad 10), .int (zI pn), .ref (ad 12), .int (zI kn), .ref (ad 14), .int (zI cn)])),
   (aG, zA cB (w * h) G), (aS, zA cB (w * h) S), (ad 4, zA cI 257 CB), (ad 5, zA cI 257 SB), (ad 6, zA cZ (w * h) DK), (ad 7, zA cI h DR), (ad 8, zA cI (w * h) RE), (ad 10, zA cI (w * h / 3 * 7) PF), (ad 12, zA cB (2 * (w * h)) PK), (ad 14, zA cB 5000 CO)]
abbrev wX (cB cI cZ : ClassId) (ad : Nat → Nat) (w h : Nat) (aG aS : Nat) (G S CB SB DK DR RE PF PK CO : Nat → Int) (rc pn kn cn : Int) : va_W := wXf cB cI cZ ad w h aG aS aG aS G S CB SB DK DR RE PF PK CO rc pn kn cn
def wM (cB cI : ClassId) (bd : Nat → Nat) (w h : Nat) (G O CT LB FS TD PR BY : Nat → Int) (th pn kn cn : Int) : va_W :=
  [(bd 0, .inr (2, [.int (zI th), .int (zI (w : Int)), .int (zI (h : Int)), .int (zI ((w * h : Nat) : Int)), .ref (bd 4), .ref (bd 5), .ref (bd 6), .ref (bd 7), .int (zI pn), .ref (bd 9), .ref (bd 10), .int (zI kn), .ref (bd 12), .int (zI cn), .ref (bd 14)])),
   (bd 4, zA cI 2304 G), (bd 5, zA cI 2304 O), (bd 6, zA cI 256 CT), (bd 7, zA cI 2304 LB), (bd 9, zA cI 2304 FS), (bd 10, zA cI 16128 TD), (bd 12, zA cB 4608 PR), (bd 14, zA cB 5000 BY)]
/-- the sheet's sides -/
def Sz (w h : Nat) : Prop := 1 ≤ w ∧ w ≤ 48 ∧ 1 ≤ h ∧ h ≤ 48
theorem Sz.mul {w h : Nat} (H : Sz w h) : 1 ≤ w * h ∧ w * h ≤ 2304 := by
  obtain ⟨h1, h2, h3, h4⟩ := H
  exact ⟨Nat.mul_pos h1 h3, Nat.mul_le_mul h2 h4⟩
theorem ix_lt {w h x y : Nat} (hx : x < w) (hy : y < h) : y * w + x < w * h := by
  have h1 : (y + 1) * w ≤ h * w := Nat.mul_le_mul_right w hy
  have h2 : (y + 1) * w = y * w + w := Nat.succ_mul y w
  have h3 : h * w = w * h := Nat.mul_comm h w
  omega
end
section
/-! THE CLASS: leaves -/
/-- how many of the first n places differ -/
def dif (f g : Nat → Int) : Nat → Int
  | 0 => 0
  | n + 1 => dif f g n + if f n = g n then 0 else 1
/-- bytes -/
def byt (n : Nat) (f : Nat → Int) : Prop := ∀ k, k < n → -128 ≤ f k ∧ f k ≤ 127

theorem hwsX0_isOnSheet : ∀ w ∈ u_ws RX0 TX0 16, w ∈ wsX0_isOnSheet := fun _ h => List.mem_cons_of_mem _ (List.mem_append_right _ h)
theorem kX0_isOnSheet_18 : Cond.fieldLink RX0 18 "SheetRows" (TX0 0).2.1 (TX0 0).2.2.1 ∈ wsX0_isOnSheet := by decide +kernel
theorem kX0_isOnSheet_22 : Cond.fieldLink RX0 22 "SheetRows" (TX0 1).2.1 (TX0 1).2.2.1 ∈ wsX0_isOnSheet := by decide +kernel
abbrev rmX0_isOnSheet : Room := { frames := 0, cells := 0, slots := 0, locals := 0 }
set_option maxHeartbeats 4000000 in
set_option maxRecDepth 100000 in
theorem ctX0_isOnSheet (l : Launch) (D : va_G) (cB cI cZ cL : ClassId) (ad : Nat → Nat) (w h : Nat) (hs : Sz w h) (aG aS : Nat) (G S CB SB DK DR RE PF PK CO : Nat → Int) (rc pn kn cn : Int) (x y : Int) (hx : -2147483648 ≤ x ∧ x ≤ 2147483647) (hy : -2147483648 ≤ y ∧ y ≤ 2147483647) : mI l yX0_isOnSheet wsX0_isOnSheet rmX0_isOnSheet D vwCl (tyl cB cI cZ cL) [.ref (ad 0), .int (zI x), .int (zI y)] (wX cB cI cZ ad w h aG aS G S CB SB DK DR RE PF PK CO rc pn kn cn) 0 0 (fun z w1 => w1 = wX cB cI cZ ad w h aG aS G S CB SB DK DR RE PF PK CO rc pn kn cn ∧ z = if (0 ≤ x ∧ x < (w : Int) ∧ 0 ≤ y ∧ y < (h : Int)) then 1 else 0) := by
  refine mI_of (own := RX0) rfl (by decide) rfl (Nat.le_of_ble_eq_true rfl) ?_
  intro p e s m args below meth c C hr hlocks hname
  show J p l e rmX0_isOnSheet s m args below meth c _ 3 D vwCl _ 0 [(0, .ref (ad 0)), (1, .int (zI x)), (2, .int (zI y))] [] (wX cB cI cZ ad w h aG aS G S CB SB DK DR RE PF PK CO rc pn kn cn) 0 0
  obtain ⟨h1, h2, h3, h4⟩ := id hs
  refine j_iload_n C eX0_isOnSheet_0 1 rfl ?_
  refine j_if_lt C 28 eX0_isOnSheet_1 (by decide) (by omega) (fun c1 => ?_) (fun c1 => ?_)
  ·
    refine j_iconst C eX0_isOnSheet_28 ?_
    exact j_iret C hr hlocks rfl eX0_isOnSheet_29 ⟨rfl, by rw [if_neg (by omega)]⟩
  ·
    refine j_iload_n C eX0_isOnSheet_4 1 rfl ?_
    refine j_aload_n C eX0_isOnSheet_5 0 rfl ?_
    refine j_getf C hwsX0_isOnSheet 0 rfl rfl 0 (by decide) kX0_isOnSheet_18 rfl rfl eX0_isOnSheet_6 ?_
    refine j_icmp_ge C 28 eX0_isOnSheet_9 (by decide) (by omega) (by omega) (fun c9 => ?_) (fun c9 => ?_)
    ·
      refine j_iconst C eX0_isOnSheet_28 ?_
      exact j_iret C hr hlocks rfl eX0_isOnSheet_29 ⟨rfl, by rw [if_neg (by omega)]⟩
    ·
      refine j_iload_n C eX0_isOnSheet_12 2 rfl ?_
      refine j_if_lt C 28 eX0_isOnSheet_13 (by decide) (by omega) (fun c13 => ?_) (fun c13 => ?_)
      ·
        refine j_iconst C eX0_isOnSheet_28 ?_
        exact j_iret C hr hlocks rfl eX0_isOnSheet_29 ⟨rfl, by rw [if_neg (by omega)]⟩
      ·
        refine j_iload_n C eX0_isOnSheet_16 2 rfl ?_
        refine j_aload_n C eX0_isOnSheet_17 0 rfl ?_
        refine j_getf C hwsX0_isOnSheet 0 rfl rfl 1 (by decide) kX0_isOnSheet_22 rfl rfl eX0_isOnSheet_18 ?_
        refine j_icmp_ge C 28 eX0_isOnSheet_21 (by decide) (by omega) (by omega) (fun c21 => ?_) (fun c21 => ?_)
        ·
          refine j_iconst C eX0_isOnSheet_28 ?_
          exact j_iret C hr hlocks rfl eX0_isOnSheet_29 ⟨rfl, by rw [if_neg (by omega)]⟩
        ·
          refine j_iconst C eX0_isOnSheet_24 ?_
          refine j_goto C 29 eX0_isOnSheet_25 (by decide) ?_
          exact j_iret C hr hlocks rfl eX0_isOnSheet_29 ⟨rfl, by rw [if_pos (by omega)]⟩
theorem hwsX0_takeSpare : ∀ w ∈ u_ws RX0 TX0 16, w ∈ wsX0_takeSpare := fun _ h => List.mem_cons_of_mem _ (List.mem_append_right _ h)
theorem kX0_takeSpare_25 : Cond.fieldLink RX0 25 "SheetRows" (TX0 2).2.1 (TX0 2).2.2.1 ∈ wsX0_takeSpare := by decide +kernel
theorem kX0_takeSpare_29 : Cond.fieldLink RX0 29 "SheetRows" (TX0 3).2.1 (TX0 3).2.2.1 ∈ wsX0_takeSpare := by decide +kernel
abbrev rmX0_takeSpare : Room := { frames := 0, cells := 0, slots := 0, locals := 0 }
set_option maxHeartbeats 4000000 in
set_option maxRecDepth 100000 in
theorem lpX0_takeSpare {p : Program} {l : Launch} {e : Env} {R : Room} {s : State} {m : MethodId} {args : Array Value} {below : List Frame} {meth : Method} {c : Code} {Q : State → Prop} {D : va_G} {A : Nat → Prop} {cB cI cZ cL : ClassId} {w h : Nat} {ad : Nat → Nat} {aG aS : Nat} {G S CB SB DK DR RE PF PK CO : Nat → Int} {rc pn kn cn : Int} (C : JC p m c cX0_takeSpare 3 s args wsX0_takeSpare RX0 D vwCl (tyl cB cI cZ cL) A) (hs : Sz w h) (hG : byt (w * h) G) (hS : byt (w * h) S)
    (kx : J p l e R s m args below meth c Q 3 D vwCl A 37 [(0, .ref (ad 0)), (1, .int (zI (dif G S (w * h)))), (2, .int (zI ((w * h) : Int)))] [] (wX cB cI cZ ad w h aG aS G S CB SB DK DR RE PF PK CO rc pn kn cn) 0 0) : ∀ (n i : Nat), i ≤ w * h → w * h - i < n → J p l e R s m args below meth c Q 3 D vwCl A 4 [(0, .ref (ad 0)), (1, .int (zI (dif G S i))), (2, .int (zI (i : Int)))] [] (wX cB cI cZ ad w h aG aS G S CB SB DK DR RE PF PK CO rc pn kn cn) 0 0 := by
  have hm := hs.mul
  intro n
  induction n with
  | zero => intro i _ hn; exact absurd hn (Nat.not_lt_zero _)
  | succ n ih =>
    intro i hi hn
    refine j_iload_n C eX0_takeSpare_4 2 rfl ?_
    refine j_aload_n C eX0_takeSpare_5 0 rfl ?_
    refine j_getf C hwsX0_takeSpare 0 rfl rfl 2 (by decide) kX0_takeSpare_25 rfl rfl eX0_takeSpare_6 ?_
    refine j_alen C 1 0 rfl rfl eX0_takeSpare_9 ?_
    refine j_icmp_ge C 37 eX0_takeSpare_10 (by decide) (by omega) (by omega) (fun c10 => ?_) (fun c10 => ?_)
    ·
      have he : i = w * h := by omega
      subst he
      exact kx
    ·
      have hg := hG i (by omega)
      have hs2 := hS i (by omega)
      refine j_aload_n C eX0_takeSpare_13 0 rfl ?_
      refine j_getf C hwsX0_takeSpare 0 rfl rfl 2 (by decide) kX0_takeSpare_25 rfl rfl eX0_takeSpare_14 ?_
      refine j_iload_n C eX0_takeSpare_17 2 rfl ?_
      refine j_bald C 1 0 rfl rfl i rfl (by omega) (by omega) eX0_takeSpare_18 ?_
      refine j_aload_n C eX0_takeSpare_19 0 rfl ?_
      refine j_getf C hwsX0_takeSpare 0 rfl rfl 3 (by decide) kX0_takeSpare_29 rfl rfl eX0_takeSpare_20 ?_
      refine j_iload_n C eX0_takeSpare_23 2 rfl ?_
      refine j_bald C 2 0 rfl rfl i rfl (by omega) (by omega) eX0_takeSpare_24 ?_
      refine j_icmp_eq C 31 eX0_takeSpare_25 (by decide) (by omega) (by omega) (fun c25 => ?_) (fun c25 => ?_)
      ·
        have e2 : G i = S i := c25
        refine j_iinc C eX0_takeSpare_31 2 rfl rfl (by decide) (lv' := [(0, .ref (ad 0)), (1, .int (zI (dif G S i))), (2, .int (zI ((i : Int) + 1)))]) rfl ?_
        refine j_goto C 4 eX0_takeSpare_34 (by decide) ?_
        have e1 : dif G S (i + 1) = dif G S i := by simp only [dif]; rw [if_pos e2]; omega
        have hb := ih (i + 1) (by omega) (by omega)
        rw [e1] at hb
        exact hb
      ·
        refine j_iinc C eX0_takeSpare_28 1 rfl rfl (by decide) (lv' := [(0, .ref (ad 0)), (1, .int (zI ((dif G S i) + 1))), (2, .int (zI (i : Int)))]) rfl ?_
        refine j_iinc C eX0_takeSpare_31 2 rfl rfl (by decide) (lv' := [(0, .ref (ad 0)), (1, .int (zI ((dif G S i) + 1))), (2, .int (zI ((i : Int) + 1)))]) rfl ?_
        refine j_goto C 4 eX0_takeSpare_34 (by decide) ?_
        have e1 : dif G S (i + 1) = dif G S i + 1 := by simp only [dif]; rw [if_neg c25]
        have hb := ih (i + 1) (by omega) (by omega)
        rw [e1] at hb
        exact hb
set_option maxHeartbeats 4000000 in
set_option maxRecDepth 100000 in
theorem ctX0_takeSpare (l : Launch) (D : va_G) (cB cI cZ cL : ClassId) (ad : Nat → Nat) (w h : Nat) (hs : Sz w h) (aG aS : Nat) (G S CB SB DK DR RE PF PK CO : Nat → Int) (rc pn kn cn : Int) (hG : byt (w * h) G) (hS : byt (w * h) S) : mI l yX0_takeSpare wsX0_takeSpare rmX0_takeSpare D vwCl (tyl cB cI cZ cL) [.ref (ad 0)] (wX cB cI cZ ad w h aG aS G S CB SB DK DR RE PF PK CO rc pn kn cn) 0 0 (fun z w1 => w1 = wX cB cI cZ ad w h aS aG S G CB SB DK DR RE PF PK CO rc pn kn cn ∧ z = dif G S (w * h)) := by
  refine mI_of (own := RX0) rfl (by decide) rfl (Nat.le_of_ble_eq_true rfl) ?_
  intro p e s m args below meth c C hr hlocks hname
  show J p l e rmX0_takeSpare s m args below meth c _ 3 D vwCl _ 0 [(0, .ref (ad 0))] [] (wX cB cI cZ ad w h aG aS G S CB SB DK DR RE PF PK CO rc pn kn cn) 0 0
  refine j_iconst C eX0_takeSpare_0 ?_
  refine j_istore_n C eX0_takeSpare_1 rfl (by decide) (lv' := [(0, .ref (ad 0)), (1, .int (zI 0))]) rfl ?_
  refine j_iconst C eX0_takeSpare_2 ?_
  refine j_istore_n C eX0_takeSpare_3 rfl (by decide) (lv' := [(0, .ref (ad 0)), (1, .int (zI 0)), (2, .int (zI 0))]) rfl ?_
  have hm := hs.mul
  refine lpX0_takeSpare C hs hG hS ?_ (w * h + 1) 0 (by omega) (by omega)
  refine j_aload_n C eX0_takeSpare_37 0 rfl ?_
  refine j_getf C hwsX0_takeSpare 0 rfl rfl 2 (by decide) kX0_takeSpare_25 rfl rfl eX0_takeSpare_38 ?_
  refine j_astore_n C eX0_takeSpare_41 rfl (by decide) (lv' := [(0, .ref (ad 0)), (1, .int (zI (dif G S (w * h)))), (2, .ref aG)]) rfl ?_
  refine j_aload_n C eX0_takeSpare_42 0 rfl ?_
  refine j_aload_n C eX0_takeSpare_43 0 rfl ?_
  refine j_getf C hwsX0_takeSpare 0 rfl rfl 3 (by decide) kX0_takeSpare_29 rfl rfl eX0_takeSpare_44 ?_
  refine j_putf C hwsX0_takeSpare tyX0 tyX0_ok nmX0 0 rfl rfl 2 (by decide) kX0_takeSpare_25 rfl rfl (tyX0_ok 2 (by decide)) rfl rfl (Nat.le_of_ble_eq_true rfl) eX0_takeSpare_47 (wd' := wXf cB cI cZ ad w h aS aS aG aS G S CB SB DK DR RE PF PK CO rc pn kn cn) rfl ?_
  refine j_aload_n C eX0_takeSpare_50 0 rfl ?_
  refine j_aload_n C eX0_takeSpare_51 2 rfl ?_
  refine j_putf C hwsX0_takeSpare tyX0 tyX0_ok nmX0 0 rfl rfl 3 (by decide) kX0_takeSpare_29 rfl rfl (tyX0_ok 3 (by decide)) rfl rfl (Nat.le_of_ble_eq_true rfl) eX0_takeSpare_52 (wd' := wXf cB cI cZ ad w h aS aG aG aS G S CB SB DK DR RE PF PK CO rc pn kn cn) rfl ?_
  refine j_perm [0, 2, 1, 3, 4, 5, 6, 7, 8, 9, 10] (by decide) (wd' := wX cB cI cZ ad w h aS aG S G CB SB DK DR RE PF PK CO rc pn kn cn) rfl ?_
  refine j_iload_n C eX0_takeSpare_55 1 rfl ?_
  exact j_iret C hr hlocks rfl eX0_takeSpare_56 ⟨rfl, rfl⟩
end
section
/-! THE CLASS: more leaves -/
theorem bm_in (z : Int) : -128 ≤ Int.bmod z 256 ∧ Int.bmod z 256 ≤ 127 := by simp only [Int.bmod_def]; omega
theorem nar_byte {v : Int} (h : -128 ≤ v ∧ v ≤ 127) : narrow .byte (.int (zI v)) = .int (zI v) := by
  have h1 : zI v = (zI v).toInt8.toInt32 := by rw [zI_i2b, bmod_byte h]
  rw [h1]
  exact pk_nb (zI v)
theorem nar_bool {v : Int} (h : 0 ≤ v ∧ v ≤ 1) : narrow .boolean (.int (zI v)) = .int (zI v) := by
  have h1 : v = 0 ∨ v = 1 := by omega
  rcases h1 with rfl | rfl <;> decide +kernel
theorem hwsX0_hasMostlyLow : ∀ w ∈ u_ws RX0 TX0 16, w ∈ wsX0_hasMostlyLow := fun _ h => List.mem_cons_of_mem _ (List.mem_append_right _ h)
theorem kX0_hasMostlyLow_25 : Cond.fieldLink RX0 25 "SheetRows" (TX0 2).2.1 (TX0 2).2.2.1 ∈ wsX0_hasMostlyLow := by decide +kernel
theorem kX0_hasMostlyLow_32 : Cond.fieldLink RX0 32 "SheetRows" (TX0 4).2.1 (TX0 4).2.2.1 ∈ wsX0_hasMostlyLow := by decide +kernel
abbrev rmX0_hasMostlyLow : Room := { frames := 0, cells := 0, slots := 0, locals := 0 }
set_option maxHeartbeats 4000000 in
set_option maxRecDepth 100000 in
theorem ctX0_hasMostlyLow (l : Launch) (D : va_G) (cB cI cZ cL : ClassId) (ad : Nat → Nat) (w h : Nat) (hs : Sz w h) (aG aS : Nat) (G S CB SB DK DR RE PF PK CO : Nat → Int) (rc pn kn cn : Int) (t : Nat) (ht : t ≤ 255) (hc : 0 ≤ CB (t + 1) ∧ CB (t + 1) ≤ 2304) : mI l yX0_hasMostlyLow wsX0_hasMostlyLow rmX0_hasMostlyLow D vwCl (tyl cB cI cZ cL) [.ref (ad 0), .int (zI (t : Int))] (wX cB cI cZ ad w h aG aS G S CB SB DK DR RE PF PK CO rc pn kn cn) 0 0 (fun z w1 => w1 = wX cB cI cZ ad w h aG aS G S CB SB DK DR RE PF PK CO rc pn kn cn ∧ z = if ((w * h : Nat) : Int) < 2 * CB (t + 1) then 1 else 0) := by
  refine mI_of (own := RX0) rfl (by decide) rfl (Nat.le_of_ble_eq_true rfl) ?_
  intro p e s m args below meth c C hr hlocks hname
  show J p l e rmX0_hasMostlyLow s m args below meth c _ 2 D vwCl _ 0 [(0, .ref (ad 0)), (1, .int (zI (t : Int)))] [] (wX cB cI cZ ad w h aG aS G S CB SB DK DR RE PF PK CO rc pn kn cn) 0 0
  have hm := hs.mul
  refine j_iconst C eX0_hasMostlyLow_0 ?_
  refine j_aload_n C eX0_hasMostlyLow_1 0 rfl ?_
  refine j_getf C hwsX0_hasMostlyLow 0 rfl rfl 4 (by decide) kX0_hasMostlyLow_32 rfl rfl eX0_hasMostlyLow_2 ?_
  refine j_iload_n C eX0_hasMostlyLow_5 1 rfl ?_
  refine j_iconst C eX0_hasMostlyLow_6 ?_
  refine j_iadd C eX0_hasMostlyLow_7 ?_
  refine j_iald C 3 1 rfl rfl (t + 1) (by push_cast; rfl) (by omega) (by omega) eX0_hasMostlyLow_8 ?_
  refine j_imul C eX0_hasMostlyLow_9 ?_
  refine j_aload_n C eX0_hasMostlyLow_10 0 rfl ?_
  refine j_getf C hwsX0_hasMostlyLow 0 rfl rfl 2 (by decide) kX0_hasMostlyLow_25 rfl rfl eX0_hasMostlyLow_11 ?_
  refine j_alen C 1 0 rfl rfl eX0_hasMostlyLow_14 ?_
  refine j_icmp_le C 22 eX0_hasMostlyLow_15 (by decide) (by omega) (by omega) (fun c15 => ?_) (fun c15 => ?_)
  ·
    refine j_iconst C eX0_hasMostlyLow_22 ?_
    exact j_iret C hr hlocks rfl eX0_hasMostlyLow_23 ⟨rfl, by rw [if_neg (by omega)]⟩
  ·
    refine j_iconst C eX0_hasMostlyLow_18 ?_
    refine j_goto C 23 eX0_hasMostlyLow_19 (by decide) ?_
    exact j_iret C hr hlocks rfl eX0_hasMostlyLow_23 ⟨rfl, by rw [if_pos (by omega)]⟩
theorem hwsX0_part : ∀ w ∈ u_ws RX0 TX0 16, w ∈ wsX0_part := fun _ h => List.mem_cons_of_mem _ (List.mem_append_right _ h)
theorem kX0_part_49 : Cond.fieldLink RX0 49 "SheetRows" (TX0 10).2.1 (TX0 10).2.2.1 ∈ wsX0_part := by decide +kernel
theorem kX0_part_85 : Cond.fieldLink RX0 85 "SheetRows" (TX0 11).2.1 (TX0 11).2.2.1 ∈ wsX0_part := by decide +kernel
abbrev rmX0_part : Room := { frames := 0, cells := 0, slots := 0, locals := 0 }
set_option maxHeartbeats 4000000 in
set_option maxRecDepth 100000 in
theorem ctX0_part (l : Launch) (D : va_G) (cB cI cZ cL : ClassId) (ad : Nat → Nat) (w h : Nat) (hs : Sz w h) (aG aS : Nat) (G S CB SB DK DR RE PF PK CO : Nat → Int) (rc pn kn cn : Int) (i what : Int) (hi : -2147483648 ≤ i ∧ i ≤ 2147483647) (hw : -2147483648 ≤ what ∧ what ≤ 2147483647) (hp : 0 ≤ pn ∧ pn ≤ ((w * h / 3 : Nat) : Int)) : mI l yX0_part wsX0_part rmX0_part D vwCl (tyl cB cI cZ cL) [.ref (ad 0), .int (zI i), .int (zI what)] (wX cB cI cZ ad w h aG aS G S CB SB DK DR RE PF PK CO rc pn kn cn) 0 0 (fun z w1 => w1 = wX cB cI cZ ad w h aG aS G S CB SB DK DR RE PF PK CO rc pn kn cn ∧ z = if 0 ≤ i ∧ i < (pn : Int) ∧ 0 ≤ what ∧ what < 7 then PF (i.toNat * 7 + what.toNat) else -1) := by
  refine mI_of (own := RX0) rfl (by decide) rfl (Nat.le_of_ble_eq_true rfl) ?_
  intro p e s m args below meth c C hr hlocks hname
  show J p l e rmX0_part s m args below meth c _ 3 D vwCl _ 0 [(0, .ref (ad 0)), (1, .int (zI i)), (2, .int (zI what))] [] (wX cB cI cZ ad w h aG aS G S CB SB DK DR RE PF PK CO rc pn kn cn) 0 0
  have hm := hs.mul
  refine j_iload_n C eX0_part_0 1 rfl ?_
  refine j_if_lt C 22 eX0_part_1 (by decide) (by omega) (fun c1 => ?_) (fun c1 => ?_)
  ·
    refine j_iconst C eX0_part_22 ?_
    exact j_iret C hr hlocks rfl eX0_part_23 ⟨rfl, by rw [if_neg (by omega)]⟩
  ·
    refine j_iload_n C eX0_part_4 1 rfl ?_
    refine j_aload_n C eX0_part_5 0 rfl ?_
    refine j_getf C hwsX0_part 0 rfl rfl 11 (by decide) kX0_part_85 rfl rfl eX0_part_6 ?_
    refine j_icmp_ge C 22 eX0_part_9 (by decide) (by omega) (by omega) (fun c9 => ?_) (fun c9 => ?_)
    ·
      refine j_iconst C eX0_part_22 ?_
      exact j_iret C hr hlocks rfl eX0_part_23 ⟨rfl, by rw [if_neg (by omega)]⟩
    ·
      refine j_iload_n C eX0_part_12 2 rfl ?_
      refine j_if_lt C 22 eX0_part_13 (by decide) (by omega) (fun c13 => ?_) (fun c13 => ?_)
      ·
        refine j_iconst C eX0_part_22 ?_
        exact j_iret C hr hlocks rfl eX0_part_23 ⟨rfl, by rw [if_neg (by omega)]⟩
      ·
        refine j_iload_n C eX0_part_16 2 rfl ?_
        refine j_bipush C eX0_part_17 (by decide +kernel) ?_
        refine j_icmp_lt C 24 eX0_part_19 (by decide) (by omega) (by omega) (fun c19 => ?_) (fun c19 => ?_)
        ·
          refine j_aload_n C eX0_part_24 0 rfl ?_
          refine j_getf C hwsX0_part 0 rfl rfl 10 (by decide) kX0_part_49 rfl rfl eX0_part_25 ?_
          refine j_iload_n C eX0_part_28 1 rfl ?_
          refine j_bipush C eX0_part_29 (by decide +kernel) ?_
          refine j_imul C eX0_part_31 ?_
          refine j_iload_n C eX0_part_32 2 rfl ?_
          refine j_iadd C eX0_part_33 ?_
          refine j_iald C 8 1 rfl rfl (i.toNat * 7 + what.toNat) (by omega) (by omega) (by omega) eX0_part_34 ?_
          exact j_iret C hr hlocks rfl eX0_part_35 ⟨rfl, by rw [if_pos (by omega)]⟩
        ·
          refine j_iconst C eX0_part_22 ?_
          exact j_iret C hr hlocks rfl eX0_part_23 ⟨rfl, by rw [if_neg (by omega)]⟩
theorem hwsX0_packStretch : ∀ w ∈ u_ws RX0 TX0 16, w ∈ wsX0_packStretch := fun _ h => List.mem_cons_of_mem _ (List.mem_append_right _ h)
theorem kX0_packStretch_52 : Cond.fieldLink RX0 52 "SheetRows" (TX0 12).2.1 (TX0 12).2.2.1 ∈ wsX0_packStretch := by decide +kernel
theorem kX0_packStretch_108 : Cond.fieldLink RX0 108 "SheetRows" (TX0 13).2.1 (TX0 13).2.2.1 ∈ wsX0_packStretch := by decide +kernel
abbrev rmX0_packStretch : Room := { frames := 0, cells := 0, slots := 0, locals := 0 }
set_option maxHeartbeats 4000000 in
set_option maxRecDepth 100000 in
theorem ctX0_packStretch (l : Launch) (D : va_G) (cB cI cZ cL : ClassId) (ad : Nat → Nat) (w h : Nat) (hs : Sz w h) (aG aS : Nat) (G S CB SB DK DR RE PF PK CO : Nat → Int) (rc pn cn : Int) (k n : Nat) (hk : k + 2 ≤ 2 * (w * h)) (hn : n ≤ 255) (v : Int) (hv : -128 ≤ v ∧ v ≤ 127) : mV l yX0_packStretch wsX0_packStretch rmX0_packStretch D vwCl (tyl cB cI cZ cL) [.ref (ad 0), .int (zI (n : Int)), .int (zI v)] (wX cB cI cZ ad w h aG aS G S CB SB DK DR RE PF PK CO rc pn (k : Int) cn) 0 0 (fun w1 => w1 = wX cB cI cZ ad w h aG aS G S CB SB DK DR RE PF (zup (zup PK k (Int.bmod (n : Int) 256)) (k + 1) v) CO rc pn ((k : Int) + 2) cn) := by
  refine mV_of (own := RX0) rfl (by decide) rfl (Nat.le_of_ble_eq_true rfl) ?_
  intro p e s m args below meth c C hr hlocks hname
  show J p l e rmX0_packStretch s m args below meth c _ 3 D vwCl _ 0 [(0, .ref (ad 0)), (1, .int (zI (n : Int))), (2, .int (zI v))] [] (wX cB cI cZ ad w h aG aS G S CB SB DK DR RE PF PK CO rc pn (k : Int) cn) 0 0
  have hm := hs.mul
  have hb : -128 ≤ Int.bmod (n : Int) 256 ∧ Int.bmod (n : Int) 256 ≤ 127 := by simp only [Int.bmod_def]; omega
  refine j_aload_n C eX0_packStretch_0 0 rfl ?_
  refine j_getf C hwsX0_packStretch 0 rfl rfl 13 (by decide) kX0_packStretch_108 rfl rfl eX0_packStretch_1 ?_
  refine j_iconst C eX0_packStretch_4 ?_
  refine j_iadd C eX0_packStretch_5 ?_
  refine j_aload_n C eX0_packStretch_6 0 rfl ?_
  refine j_getf C hwsX0_packStretch 0 rfl rfl 12 (by decide) kX0_packStretch_52 rfl rfl eX0_packStretch_7 ?_
  refine j_alen C 9 0 rfl rfl eX0_packStretch_10 ?_
  refine j_icmp_gt C 47 eX0_packStretch_11 (by decide) (by omega) (by omega) (fun c11 => ?_) (fun c11 => ?_)
  ·
    exact absurd c11 (by omega)
  ·
    refine j_aload_n C eX0_packStretch_14 0 rfl ?_
    refine j_getf C hwsX0_packStretch 0 rfl rfl 12 (by decide) kX0_packStretch_52 rfl rfl eX0_packStretch_15 ?_
    refine j_aload_n C eX0_packStretch_18 0 rfl ?_
    refine j_getf C hwsX0_packStretch 0 rfl rfl 13 (by decide) kX0_packStretch_108 rfl rfl eX0_packStretch_19 ?_
    refine j_iload_n C eX0_packStretch_22 1 rfl ?_
    refine j_i2bz C eX0_packStretch_23 ?_
    refine j_bast C 9 0 rfl rfl k rfl (by omega) (by omega) (nar_b (by omega)) eX0_packStretch_24 (wd' := wX cB cI cZ ad w h aG aS G S CB SB DK DR RE PF (zup PK k (Int.bmod (n : Int) 256)) CO rc pn (k : Int) cn) rfl ?_
    refine j_aload_n C eX0_packStretch_25 0 rfl ?_
    refine j_getf C hwsX0_packStretch 0 rfl rfl 12 (by decide) kX0_packStretch_52 rfl rfl eX0_packStretch_26 ?_
    refine j_aload_n C eX0_packStretch_29 0 rfl ?_
    refine j_getf C hwsX0_packStretch 0 rfl rfl 13 (by decide) kX0_packStretch_108 rfl rfl eX0_packStretch_30 ?_
    refine j_iconst C eX0_packStretch_33 ?_
    refine j_iadd C eX0_packStretch_34 ?_
    refine j_iload_n C eX0_packStretch_35 2 rfl ?_
    refine j_bast C 9 0 rfl rfl (k + 1) (by push_cast; rfl) (by omega) (by omega) (nar_b (by omega)) eX0_packStretch_36 (wd' := wX cB cI cZ ad w h aG aS G S CB SB DK DR RE PF (zup (zup PK k (Int.bmod (n : Int) 256)) (k + 1) v) CO rc pn (k : Int) cn) rfl ?_
    refine j_aload_n C eX0_packStretch_37 0 rfl ?_
    refine j_dup C eX0_packStretch_38 rfl ?_
    refine j_getf C hwsX0_packStretch 0 rfl rfl 13 (by decide) kX0_packStretch_108 rfl rfl eX0_packStretch_39 ?_
    refine j_iconst C eX0_packStretch_42 ?_
    refine j_iadd C eX0_packStretch_43 ?_
    refine j_putf C hwsX0_packStretch tyX0 tyX0_ok nmX0 0 rfl rfl 13 (by decide) kX0_packStretch_108 rfl rfl (tyX0_ok 13 (by decide)) rfl rfl (Nat.le_of_ble_eq_true rfl) eX0_packStretch_44 (wd' := wX cB cI cZ ad w h aG aS G S CB SB DK DR RE PF (zup (zup PK k (Int.bmod (n : Int) 256)) (k + 1) v) CO rc pn ((k : Int) + 2) cn) rfl ?_
    exact j_vret C hr hlocks eX0_packStretch_47 rfl
theorem hwsX0_add : ∀ w ∈ u_ws RX0 TX0 16, w ∈ wsX0_add := fun _ h => List.mem_cons_of_mem _ (List.mem_append_right _ h)
theorem kX0_add_55 : Cond.fieldLink RX0 55 "SheetRows" (TX0 14).2.1 (TX0 14).2.2.1 ∈ wsX0_add := by decide +kernel
theorem kX0_add_117 : Cond.fieldLink RX0 117 "SheetRows" (TX0 15).2.1 (TX0 15).2.2.1 ∈ wsX0_add := by decide +kernel
abbrev rmX0_add : Room := { frames := 0, cells := 0, slots := 0, locals := 0 }
set_option maxHeartbeats 4000000 in
set_option maxRecDepth 100000 in
theorem ctX0_add (l : Launch) (D : va_G) (cB cI cZ cL : ClassId) (ad : Nat → Nat) (w h : Nat) (hs : Sz w h) (aG aS : Nat) (G S CB SB DK DR RE PF PK CO : Nat → Int) (rc pn kn : Int) (k : Nat) (hk : k ≤ 5000) (v : Int) (hv : -128 ≤ v ∧ v ≤ 127) : mV l yX0_add wsX0_add rmX0_add D vwCl (tyl cB cI cZ cL) [.ref (ad 0), .int (zI v)] (wX cB cI cZ ad w h aG aS G S CB SB DK DR RE PF PK CO rc pn kn (k : Int)) 0 0 (fun w1 => w1 = if k < 5000 then wX cB cI cZ ad w h aG aS G S CB SB DK DR RE PF PK (zup CO k v) rc pn kn ((k : Int) + 1) else wX cB cI cZ ad w h aG aS G S CB SB DK DR RE PF PK CO rc pn kn (k : Int)) := by
  refine mV_of (own := RX0) rfl (by decide) rfl (Nat.le_of_ble_eq_true rfl) ?_
  intro p e s m args below meth c C hr hlocks hname
  show J p l e rmX0_add s m args below meth c _ 2 D vwCl _ 0 [(0, .ref (ad 0)), (1, .int (zI v))] [] (wX cB cI cZ ad w h aG aS G S CB SB DK DR RE PF PK CO rc pn kn (k : Int)) 0 0
  refine j_aload_n C eX0_add_0 0 rfl ?_
  refine j_getf C hwsX0_add 0 rfl rfl 15 (by decide) kX0_add_117 rfl rfl eX0_add_1 ?_
  refine j_sipush C eX0_add_4 (by decide +kernel) ?_
  refine j_icmp_ge C 30 eX0_add_7 (by decide) (by omega) (by omega) (fun c7 => ?_) (fun c7 => ?_)
  ·
    exact j_vret C hr hlocks eX0_add_30 (by rw [if_neg (by omega)])
  ·
    refine j_aload_n C eX0_add_10 0 rfl ?_
    refine j_getf C hwsX0_add 0 rfl rfl 14 (by decide) kX0_add_55 rfl rfl eX0_add_11 ?_
    refine j_aload_n C eX0_add_14 0 rfl ?_
    refine j_getf C hwsX0_add 0 rfl rfl 15 (by decide) kX0_add_117 rfl rfl eX0_add_15 ?_
    refine j_iload_n C eX0_add_18 1 rfl ?_
    refine j_bast C 10 0 rfl rfl k rfl (by omega) (by omega) (nar_b (by omega)) eX0_add_19 (wd' := wX cB cI cZ ad w h aG aS G S CB SB DK DR RE PF PK (zup CO k v) rc pn kn (k : Int)) rfl ?_
    refine j_aload_n C eX0_add_20 0 rfl ?_
    refine j_dup C eX0_add_21 rfl ?_
    refine j_getf C hwsX0_add 0 rfl rfl 15 (by decide) kX0_add_117 rfl rfl eX0_add_22 ?_
    refine j_iconst C eX0_add_25 ?_
    refine j_iadd C eX0_add_26 ?_
    refine j_putf C hwsX0_add tyX0 tyX0_ok nmX0 0 rfl rfl 15 (by decide) kX0_add_117 rfl rfl (tyX0_ok 15 (by decide)) rfl rfl (Nat.le_of_ble_eq_true rfl) eX0_add_27 (wd' := wX cB cI cZ ad w h aG aS G S CB SB DK DR RE PF PK (zup CO k v) rc pn kn ((k : Int) + 1)) rfl ?_
    exact j_vret C hr hlocks eX0_add_30 (by rw [if_pos (by omega)])
theorem hwsX0_reach : ∀ w ∈ u_ws RX0 TX0 16, w ∈ wsX0_reach := fun _ h => List.mem_cons_of_mem _ (List.mem_append_right _ h)
theorem kX0_reach_39 : Cond.fieldLink RX0 39 "SheetRows" (TX0 6).2.1 (TX0 6).2.2.1 ∈ wsX0_reach := by decide +kernel
theorem kX0_reach_46 : Cond.fieldLink RX0 46 "SheetRows" (TX0 8).2.1 (TX0 8).2.2.1 ∈ wsX0_reach := by decide +kernel
theorem kX0_reach_92 : Cond.fieldLink RX0 92 "SheetRows" (TX0 9).2.1 (TX0 9).2.2.1 ∈ wsX0_reach := by decide +kernel
abbrev rmX0_reach : Room := { frames := 0, cells := 0, slots := 0, locals := 0 }
set_option maxHeartbeats 4000000 in
set_option maxRecDepth 100000 in
theorem ctX0_reach (l : Launch) (D : va_G) (cB cI cZ cL : ClassId) (ad : Nat → Nat) (w h : Nat) (hs : Sz w h) (aG aS : Nat) (G S CB SB DK DR RE PF PK CO : Nat → Int) (pn kn cn : Int) (q r : Nat) (hq : q < w * h) (hr9 : DK q = 1 → r < w * h) (hd : DK q = 0 ∨ DK q = 1) : mV l yX0_reach wsX0_reach rmX0_reach D vwCl (tyl cB cI cZ cL) [.ref (ad 0), .int (zI (q : Int))] (wX cB cI cZ ad w h aG aS G S CB SB DK DR RE PF PK CO (r : Int) pn kn cn) 0 0 (fun w1 => w1 = if DK q = 1 then wX cB cI cZ ad w h aG aS G S CB SB (zup DK q 0) DR (zup RE r (q : Int)) PF PK CO ((r : Int) + 1) pn kn cn else wX cB cI cZ ad w h aG aS G S CB SB DK DR RE PF PK CO (r : Int) pn kn cn) := by
  refine mV_of (own := RX0) rfl (by decide) rfl (Nat.le_of_ble_eq_true rfl) ?_
  intro p e s m args below meth c C hr hlocks hname
  show J p l e rmX0_reach s m args below meth c _ 2 D vwCl _ 0 [(0, .ref (ad 0)), (1, .int (zI (q : Int)))] [] (wX cB cI cZ ad w h aG aS G S CB SB DK DR RE PF PK CO (r : Int) pn kn cn) 0 0
  have hm := hs.mul
  refine j_aload_n C eX0_reach_0 0 rfl ?_
  refine j_getf C hwsX0_reach 0 rfl rfl 6 (by decide) kX0_reach_39 rfl rfl eX0_reach_1 ?_
  refine j_iload_n C eX0_reach_4 1 rfl ?_
  refine j_zald C 5 2 rfl rfl q rfl (by omega) (by omega) eX0_reach_5 ?_
  refine j_if_eq C 48 eX0_reach_6 (by decide) (by omega) (fun c6 => ?_) (fun c6 => ?_)
  ·
    exact j_vret C hr hlocks eX0_reach_48 (by rw [if_neg (by omega)])
  ·
    have hr8 := hr9 (by omega)
    refine j_aload_n C eX0_reach_9 0 rfl ?_
    refine j_getf C hwsX0_reach 0 rfl rfl 9 (by decide) kX0_reach_92 rfl rfl eX0_reach_10 ?_
    refine j_aload_n C eX0_reach_13 0 rfl ?_
    refine j_getf C hwsX0_reach 0 rfl rfl 8 (by decide) kX0_reach_46 rfl rfl eX0_reach_14 ?_
    refine j_alen C 7 1 rfl rfl eX0_reach_17 ?_
    refine j_icmp_ge C 48 eX0_reach_18 (by decide) (by omega) (by omega) (fun c18 => ?_) (fun c18 => ?_)
    ·
      exact absurd c18 (by omega)
    ·
      refine j_aload_n C eX0_reach_21 0 rfl ?_
      refine j_getf C hwsX0_reach 0 rfl rfl 6 (by decide) kX0_reach_39 rfl rfl eX0_reach_22 ?_
      refine j_iload_n C eX0_reach_25 1 rfl ?_
      refine j_iconst C eX0_reach_26 ?_
      refine j_zast C 5 2 rfl rfl q rfl (by omega) (by omega) (nar_z (by omega)) eX0_reach_27 (wd' := wX cB cI cZ ad w h aG aS G S CB SB (zup DK q 0) DR RE PF PK CO (r : Int) pn kn cn) rfl ?_
      refine j_aload_n C eX0_reach_28 0 rfl ?_
      refine j_getf C hwsX0_reach 0 rfl rfl 8 (by decide) kX0_reach_46 rfl rfl eX0_reach_29 ?_
      refine j_aload_n C eX0_reach_32 0 rfl ?_
      refine j_getf C hwsX0_reach 0 rfl rfl 9 (by decide) kX0_reach_92 rfl rfl eX0_reach_33 ?_
      refine j_iload_n C eX0_reach_36 1 rfl ?_
      refine j_iast C 7 1 rfl rfl r rfl (by omega) (by omega) eX0_reach_37 (wd' := wX cB cI cZ ad w h aG aS G S CB SB (zup DK q 0) DR (zup RE r (q : Int)) PF PK CO (r : Int) pn kn cn) rfl ?_
      refine j_aload_n C eX0_reach_38 0 rfl ?_
      refine j_dup C eX0_reach_39 rfl ?_
      refine j_getf C hwsX0_reach 0 rfl rfl 9 (by decide) kX0_reach_92 rfl rfl eX0_reach_40 ?_
      refine j_iconst C eX0_reach_43 ?_
      refine j_iadd C eX0_reach_44 ?_
      refine j_putf C hwsX0_reach tyX0 tyX0_ok nmX0 0 rfl rfl 9 (by decide) kX0_reach_92 rfl rfl (tyX0_ok 9 (by decide)) rfl rfl (Nat.le_of_ble_eq_true rfl) eX0_reach_45 (wd' := wX cB cI cZ ad w h aG aS G S CB SB (zup DK q 0) DR (zup RE r (q : Int)) PF PK CO ((r : Int) + 1) pn kn cn) rfl ?_
      exact j_vret C hr hlocks eX0_reach_48 (by rw [if_pos (by omega)])
theorem hwsX0_meanOfFour : ∀ w ∈ u_ws RX0 TX0 16, w ∈ wsX0_meanOfFour := fun _ h => List.mem_cons_of_mem _ (List.mem_append_right _ h)
theorem kX0_meanOfFour_18 : Cond.fieldLink RX0 18 "SheetRows" (TX0 0).2.1 (TX0 0).2.2.1 ∈ wsX0_meanOfFour := by decide +kernel
theorem kX0_meanOfFour_25 : Cond.fieldLink RX0 25 "SheetRows" (TX0 2).2.1 (TX0 2).2.2.1 ∈ wsX0_meanOfFour := by decide +kernel
abbrev rmX0_meanOfFour : Room := { frames := 0, cells := 0, slots := 0, locals := 0 }
set_option maxHeartbeats 4000000 in
set_option maxRecDepth 100000 in
theorem ctX0_meanOfFour (l : Launch) (D : va_G) (cB cI cZ cL : ClassId) (ad : Nat → Nat) (w h : Nat) (hs : Sz w h) (aG aS : Nat) (G S CB SB DK DR RE PF PK CO : Nat → Int) (rc pn kn cn : Int) (q : Nat) (hq : q + w + 1 < w * h) : mI l yX0_meanOfFour wsX0_meanOfFour rmX0_meanOfFour D vwCl (tyl cB cI cZ cL) [.ref (ad 0), .int (zI (q : Int))] (wX cB cI cZ ad w h aG aS G S CB SB DK DR RE PF PK CO rc pn kn cn) 0 0 (fun z w1 => w1 = wX cB cI cZ ad w h aG aS G S CB SB DK DR RE PF PK CO rc pn kn cn ∧ z = Int.bmod ((G q % 256 + G (q + 1) % 256 + (G (q + w) % 256 + G (q + w + 1) % 256)) / 4) 256) := by
  refine mI_of (own := RX0) rfl (by decide) rfl (Nat.le_of_ble_eq_true rfl) ?_
  intro p e s m args below meth c C hr hlocks hname
  show J p l e rmX0_meanOfFour s m args below meth c _ 4 D vwCl _ 0 [(0, .ref (ad 0)), (1, .int (zI (q : Int)))] [] (wX cB cI cZ ad w h aG aS G S CB SB DK DR RE PF PK CO rc pn kn cn) 0 0
  have hm := hs.mul
  refine j_aload_n C eX0_meanOfFour_0 0 rfl ?_
  refine j_getf C hwsX0_meanOfFour 0 rfl rfl 2 (by decide) kX0_meanOfFour_25 rfl rfl eX0_meanOfFour_1 ?_
  refine j_iload_n C eX0_meanOfFour_4 1 rfl ?_
  refine j_bald C 1 0 rfl rfl q rfl (by omega) (by omega) eX0_meanOfFour_5 ?_
  refine j_sipush C eX0_meanOfFour_6 (by decide +kernel) ?_
  refine j_and255 C eX0_meanOfFour_9 ?_
  refine j_aload_n C eX0_meanOfFour_10 0 rfl ?_
  refine j_getf C hwsX0_meanOfFour 0 rfl rfl 2 (by decide) kX0_meanOfFour_25 rfl rfl eX0_meanOfFour_11 ?_
  refine j_iload_n C eX0_meanOfFour_14 1 rfl ?_
  refine j_iconst C eX0_meanOfFour_15 ?_
  refine j_iadd C eX0_meanOfFour_16 ?_
  refine j_bald C 1 0 rfl rfl (q + 1) (by push_cast; rfl) (by omega) (by omega) eX0_meanOfFour_17 ?_
  refine j_sipush C eX0_meanOfFour_18 (by decide +kernel) ?_
  refine j_and255 C eX0_meanOfFour_21 ?_
  refine j_iadd C eX0_meanOfFour_22 ?_
  refine j_istore_n C eX0_meanOfFour_23 rfl (by decide) (lv' := [(0, .ref (ad 0)), (1, .int (zI (q : Int))), (2, .int (zI (((G q) % 256) + ((G (q + 1)) % 256))))]) rfl ?_
  refine j_aload_n C eX0_meanOfFour_24 0 rfl ?_
  refine j_getf C hwsX0_meanOfFour 0 rfl rfl 2 (by decide) kX0_meanOfFour_25 rfl rfl eX0_meanOfFour_25 ?_
  refine j_iload_n C eX0_meanOfFour_28 1 rfl ?_
  refine j_aload_n C eX0_meanOfFour_29 0 rfl ?_
  refine j_getf C hwsX0_meanOfFour 0 rfl rfl 0 (by decide) kX0_meanOfFour_18 rfl rfl eX0_meanOfFour_30 ?_
  refine j_iadd C eX0_meanOfFour_33 ?_
  refine j_bald C 1 0 rfl rfl (q + w) (by push_cast; rfl) (by omega) (by omega) eX0_meanOfFour_34 ?_
  refine j_sipush C eX0_meanOfFour_35 (by decide +kernel) ?_
  refine j_and255 C eX0_meanOfFour_38 ?_
  refine j_aload_n C eX0_meanOfFour_39 0 rfl ?_
  refine j_getf C hwsX0_meanOfFour 0 rfl rfl 2 (by decide) kX0_meanOfFour_25 rfl rfl eX0_meanOfFour_40 ?_
  refine j_iload_n C eX0_meanOfFour_43 1 rfl ?_
  refine j_aload_n C eX0_meanOfFour_44 0 rfl ?_
  refine j_getf C hwsX0_meanOfFour 0 rfl rfl 0 (by decide) kX0_meanOfFour_18 rfl rfl eX0_meanOfFour_45 ?_
  refine j_iadd C eX0_meanOfFour_48 ?_
  refine j_iconst C eX0_meanOfFour_49 ?_
  refine j_iadd C eX0_meanOfFour_50 ?_
  refine j_bald C 1 0 rfl rfl ((q + w) + 1) (by push_cast; rfl) (by omega) (by omega) eX0_meanOfFour_51 ?_
  refine j_sipush C eX0_meanOfFour_52 (by decide +kernel) ?_
  refine j_and255 C eX0_meanOfFour_55 ?_
  refine j_iadd C eX0_meanOfFour_56 ?_
  refine j_istore_n C eX0_meanOfFour_57 rfl (by decide) (lv' := [(0, .ref (ad 0)), (1, .int (zI (q : Int))), (2, .int (zI (((G q) % 256) + ((G (q + 1)) % 256)))), (3, .int (zI (((G (q + w)) % 256) + ((G ((q + w) + 1)) % 256))))]) rfl ?_
  refine j_iload_n C eX0_meanOfFour_58 2 rfl ?_
  refine j_iload_n C eX0_meanOfFour_59 3 rfl ?_
  refine j_iadd C eX0_meanOfFour_60 ?_
  refine j_iconst C eX0_meanOfFour_61 ?_
  refine j_idiv C eX0_meanOfFour_62 (by omega) (by omega) ?_
  refine j_i2bz C eX0_meanOfFour_63 ?_
  refine j_iret C hr hlocks ?_ eX0_meanOfFour_64 ⟨rfl, ?_⟩
  · show narrow .byte _ = _
    exact nar_byte (bm_in _)
  · rw [Int.tdiv_eq_ediv_of_nonneg (by omega)]
end
section
/-! THE JDK's own: fill, floorDiv, floorMod -/
theorem xor_sign {a b : Int} (ha : -2147483648 ≤ a ∧ a ≤ 2147483647) (hb : 0 < b ∧ b ≤ 2147483647) : 0 ≤ (zI a ^^^ zI b).toInt ↔ 0 ≤ a := by
  have h1 : (zI a ^^^ zI b).toInt = ((zI a).toBitVec ^^^ (zI b).toBitVec).toInt := rfl
  have ea : (zI a).toBitVec.toInt = a := zI_toInt ha
  have eb : (zI b).toBitVec.toInt = b := zI_toInt (by omega)
  have h2 : ((zI a).toBitVec ^^^ (zI b).toBitVec).msb = (decide (a < 0) ^^ decide (b < 0)) := by
    rw [BitVec.msb_xor, BitVec.msb_eq_toInt, BitVec.msb_eq_toInt, ea, eb]
  rw [BitVec.msb_eq_toInt] at h2
  rw [h1]
  have hb2 : decide (b < 0) = false := decide_eq_false (by omega)
  rw [hb2, Bool.xor_false] at h2
  have h3 := decide_eq_decide.mp h2
  omega
theorem j_xorS {p : Program} {l : Launch} {e : Env} {R : Room} {s : State} {m : MethodId} {args : Array Value} {below : List Frame} {meth : Method} {c : Code} {Q : State → Prop} {nL : Nat} {D : va_G} {cl : List vw_C} {tys : List (ClassId × FieldType)} {A : Nat → Prop} {cc : ByteArray} {Ts : List Cond} {own : String} {pc pc' : Nat} {lv : List (Nat × Value)} {st : List Value} {wd : va_W} {cells slots : Nat} (C : JC p m c cc nL s args Ts own D cl tys A) {a b : Int} (hd : dec cc pc .ixor 1 pc') (ha : -2147483648 ≤ a ∧ a ≤ 2147483647) (hb : 0 < b ∧ b ≤ 2147483647) (k : ∀ x : Int, (-2147483648 ≤ x ∧ x ≤ 2147483647) → (0 ≤ x ↔ 0 ≤ a) → J p l e R s m args below meth c Q nL D cl A pc' lv (.int (zI x) :: st) wd cells slots) : J p l e R s m args below meth c Q nL D cl A pc lv (.int (zI b) :: .int (zI a) :: st) wd cells slots := by
  refine j_ixor C hd ?_
  obtain ⟨x, hx, ex⟩ := zI_of (zI a ^^^ zI b)
  rw [ex]
  refine k x hx ?_
  have h1 := xor_sign ha hb
  rw [ex, zI_toInt hx] at h1
  exact h1
theorem tm_eq {a b : Int} (hb : 0 < b) : a.tmod b = a % b - (if 0 ≤ a ∨ b ∣ a then 0 else b) := by
  have h := Int.tmod_eq_emod (a := a) (b := b)
  by_cases c : 0 ≤ a ∨ b ∣ a
  · rw [if_pos c] at h ⊢
    exact h
  · rw [if_neg c] at h ⊢
    have hq4 : ((b.natAbs : Nat) : Int) = b := Int.natAbs_of_nonneg (by omega)
    rw [h, hq4]
theorem mI_ofF {l : Launch} {D : va_G} {cl : List vw_C} {tys : List (ClassId × FieldType)} {y : MethodName} {ws ws' : List Cond} {rm : Room} {av : List Value} {w0 : va_W} {mc ms : Nat} {post : Int → va_W → Prop} {cc : ByteArray} {maxL : Nat} {rt : FieldType} {own : String} (hyo : y.cls = own) (hy : plainFor y = true) (hw : ws = Cond.code y cc maxL (some rt) :: ws') (hlen : (lg_sl av).length ≤ maxL)
    (body : ∀ (p : Program) (e : Env) (s : State) (m : MethodId) (args : Array Value) (below : List Frame) (meth : Method) (c : Code), JC p m c cc maxL s args ws own D cl tys (va_A w0 s.heap.size) → meth.sig.returnType = (some rt) → meth.locks = false → meth.name = y.name → J p l e rm s m args below meth c (MQ below (mQI D cl tys w0 s.heap.size post) args s mc ms (va_A w0 s.heap.size)) maxL D cl (va_A w0 s.heap.size) 0 (lv_args 0 av) [] w0 0 0) : mI l y ws rm D cl tys av w0 mc ms post := by
  intro sz
  refine va_MetF (cc := cc) (maxL := maxL) (ret := (some rt)) hy hw ?_
  intro p e s m args below meth c s₁ B hml hv
  obtain ⟨ha, hsz, hP, hK, hD0⟩ := hv
  subst hsz
  have hts := atoms_spec (ws := ws) B.pre
  have hown : s.vm.findClass own = some m.cls := hyo ▸ findClass_of_methodNamed B.named
  have hb := body p e s m args below meth c ⟨⟨B.exec, B.bytes, hml, hown, hts⟩, hK, fun q h => Or.inr h⟩ B.returns B.notSynchronized (name_of_methodNamed B.named B.method).1
  have hl := lv_entry av (n := maxL) hlen
  subst ha
  rw [lg_entry_eq]
  exact hb s.heap [] _ hl hP hD0.self va_S.rf
theorem fl_mod {a b : Int} (hb : 0 < b) : (0 ≤ a → 0 ≤ a.tmod b ∧ a.tmod b ≤ a) ∧ (a < 0 → a ≤ a.tmod b ∧ a.tmod b ≤ 0) := by
  have hq1 := Int.tdiv_eq_ediv (a := a) (b := b)
  have hq2 := tm_eq (a := a) hb
  have hb0 := Int.emod_nonneg a (b := b) (by omega)
  have hb1 := Int.emod_lt_of_pos a hb
  have hdv := Int.mul_ediv_add_emod a b
  constructor
  · intro h
    rw [if_pos (Or.inl h)] at hq2
    have h2 : 0 ≤ b * (a / b) := Int.mul_nonneg (by omega) (Int.ediv_nonneg h (by omega))
    omega
  · intro h
    by_cases hz : 0 ≤ a ∨ b ∣ a
    · rw [if_pos hz] at hq2
      have hd : b ∣ a := by rcases hz with z | z; omega; exact z
      have he := Int.emod_eq_zero_of_dvd hd
      omega
    · rw [if_neg hz] at hq2
      have h3 : a / b < 0 := Int.ediv_neg_of_neg_of_pos h hb
      have h4 : b * (a / b + 1) ≤ 0 := Int.mul_nonpos_of_nonneg_of_nonpos (by omega) (by omega)
      have h5 : b * (a / b + 1) = b * (a / b) + b := by rw [Int.mul_add, Int.mul_one]
      omega
theorem fl_div1 {a b : Int} (ha : -2147483648 ≤ a ∧ a ≤ 2147483647) (hb : 0 < b) (h : a < 0) (hne : a.tdiv b * b ≠ a) : a.tdiv b - 1 = a / b := by
  have hq1 := Int.tdiv_eq_ediv (a := a) (b := b)
  rw [Int.sign_eq_one_of_pos hb] at hq1
  rw [if_neg] at hq1
  · omega
  · intro hz
    have hd : b ∣ a := by rcases hz with z | z; omega; exact z
    exact hne (by rw [Int.mul_comm]; exact Int.mul_tdiv_cancel' hd)
theorem fl_div2 {a b : Int} (ha : -2147483648 ≤ a ∧ a ≤ 2147483647) (hb : 0 < b) (h : 0 ≤ a ∨ a.tdiv b * b = a) : a.tdiv b = a / b := by
  have hq1 := Int.tdiv_eq_ediv (a := a) (b := b)
  rw [if_pos] at hq1
  · omega
  · rcases h with h | h
    · exact Or.inl h
    · exact Or.inr ⟨a.tdiv b, by rw [Int.mul_comm]; exact h.symm⟩
theorem fl_mod1 {a b : Int} (ha : -2147483648 ≤ a ∧ a ≤ 2147483647) (hb : 0 < b) (h : a < 0) (hne : a.tmod b ≠ 0) : a.tmod b + b = a % b := by
  have hq2 := tm_eq (a := a) hb
  rw [if_neg] at hq2
  · omega
  · intro hz
    have hd : b ∣ a := by rcases hz with z | z; omega; exact z
    rw [if_pos hz, Int.emod_eq_zero_of_dvd hd] at hq2
    exact hne (by omega)
theorem fl_mod2 {a b : Int} (ha : -2147483648 ≤ a ∧ a ≤ 2147483647) (hb : 0 < b) (h : 0 ≤ a ∨ a.tmod b = 0) : a.tmod b = a % b := by
  have hq2 := tm_eq (a := a) hb
  rw [if_pos] at hq2
  · omega
  · rcases h with h | h
    · exact Or.inl h
    · exact Or.inr (Int.dvd_of_tmod_eq_zero h)
abbrev rmJ7_fill_53178 : Room := { frames := 0, cells := 0, slots := 0, locals := 0 }
set_option maxHeartbeats 4000000 in
set_option maxRecDepth 100000 in
theorem lpJ7_fill_53178 {p : Program} {l : Launch} {e : Env} {s : State} {m : MethodId} {args : Array Value} {below : List Frame} {meth : Method} {c : Code} {Q : State → Prop} {D : va_G} {A : Nat → Prop} {cB cI cZ cL : ClassId}  (C : JC p m c cJ7_fill_53178 4 s args wsJ7_fill_53178 RJ7 D vwCl (tyl cB cI cZ cL) A) {a n : Nat} {v : Int} (hn : n ≤ 2147483647) (kx : ∀ g : Nat → Int, (∀ k, k < n → g k = v) → J p l e rmJ7_fill_53178 s m args below meth c Q 4 D vwCl A 20 [(0, .ref a), (1, .int (zI v)), (2, .int (zI (n : Int))), (3, .int (zI ((n : Nat) : Int)))] [] ([(a, zA cI n g)]) 0 0) : ∀ (f i : Nat) (g : Nat → Int), i ≤ n → n - i < f → (∀ k, k < i → g k = v) → J p l e rmJ7_fill_53178 s m args below meth c Q 4 D vwCl A 5 [(0, .ref a), (1, .int (zI v)), (2, .int (zI (i : Int))), (3, .int (zI ((n : Nat) : Int)))] [] ([(a, zA cI n g)]) 0 0 := by
  intro f
  induction f with
  | zero => intro i g _ hf; exact absurd hf (Nat.not_lt_zero _)
  | succ f ih =>
    intro i g hi hf hg
    refine j_iload_n C eJ7_fill_53178_5 2 rfl ?_
    refine j_iload_n C eJ7_fill_53178_6 3 rfl ?_
    refine j_icmp_ge C 20 eJ7_fill_53178_7 (by decide) (by omega) (by omega) (fun c7 => ?_) (fun c7 => ?_)
    ·
      have he : i = n := by omega
      subst he
      exact kx g hg
    ·
      refine j_aload_n C eJ7_fill_53178_10 0 rfl ?_
      refine j_iload_n C eJ7_fill_53178_11 2 rfl ?_
      refine j_iload_n C eJ7_fill_53178_12 1 rfl ?_
      refine j_iast C 0 1 rfl rfl i rfl (by omega) (by omega) eJ7_fill_53178_13 (wd' := [(a, zA cI n (zup g i v))]) rfl ?_
      refine j_iinc C eJ7_fill_53178_14 2 rfl rfl (by decide) (lv' := [(0, .ref a), (1, .int (zI v)), (2, .int (zI ((i : Int) + 1))), (3, .int (zI ((n : Nat) : Int)))]) rfl ?_
      refine j_goto C 5 eJ7_fill_53178_17 (by decide) ?_
      exact ih (i + 1) (zup g i v) (by omega) (by omega) (fun k hk => by
        by_cases h : k = i
        · subst h; exact zup_s
        · rw [zup_n h]; exact hg k (by omega))
set_option maxHeartbeats 4000000 in
set_option maxRecDepth 100000 in
theorem ctJ7_fill_53178 (l : Launch) (D : va_G) (cB cI cZ cL : ClassId) (a n : Nat) (g : Nat → Int) (v : Int) (hn : n ≤ 2147483647) : mV l yJ7_fill_53178 wsJ7_fill_53178 rmJ7_fill_53178 D vwCl (tyl cB cI cZ cL) [.ref a, .int (zI v)] [(a, zA cI n g)] 0 0 (fun w1 => ∃ g' : Nat → Int, (∀ k, k < n → g' k = v) ∧ w1 = [(a, zA cI n g')]) := by
  refine mV_of (own := RJ7) rfl (by decide) rfl (Nat.le_of_ble_eq_true rfl) ?_
  intro p e s m args below meth c C hr hlocks hname
  show J p l e rmJ7_fill_53178 s m args below meth c _ 4 D vwCl _ 0 [(0, .ref a), (1, .int (zI v))] [] [(a, zA cI n g)] 0 0
  refine j_iconst C eJ7_fill_53178_0 ?_
  refine j_istore_n C eJ7_fill_53178_1 rfl (by decide) (lv' := [(0, .ref a), (1, .int (zI v)), (2, .int (zI 0))]) rfl ?_
  refine j_aload_n C eJ7_fill_53178_2 0 rfl ?_
  refine j_alen C 0 1 rfl rfl eJ7_fill_53178_3 ?_
  refine j_istore_n C eJ7_fill_53178_4 rfl (by decide) (lv' := [(0, .ref a), (1, .int (zI v)), (2, .int (zI 0)), (3, .int (zI ((n : Nat) : Int)))]) rfl ?_
  refine lpJ7_fill_53178 C hn (fun g' hg' => ?_) (n + 1) 0 g (by omega) (by omega) (fun k hk => absurd hk (Nat.not_lt_zero _))
  exact j_vret C hr hlocks eJ7_fill_53178_20 ⟨g', hg', rfl⟩
abbrev rmJ7_fill_031fb : Room := { frames := 0, cells := 0, slots := 0, locals := 0 }
set_option maxHeartbeats 4000000 in
set_option maxRecDepth 100000 in
theorem lpJ7_fill_031fb {p : Program} {l : Launch} {e : Env} {s : State} {m : MethodId} {args : Array Value} {below : List Frame} {meth : Method} {c : Code} {Q : State → Prop} {D : va_G} {A : Nat → Prop} {cB cI cZ cL : ClassId}  (C : JC p m c cJ7_fill_031fb 4 s args wsJ7_fill_031fb RJ7 D vwCl (tyl cB cI cZ cL) A) {a n : Nat} {v : Int} (hv : -128 ≤ v ∧ v ≤ 127) (hn : n ≤ 2147483647) (kx : ∀ g : Nat → Int, (∀ k, k < n → g k = v) → J p l e rmJ7_fill_031fb s m args below meth c Q 4 D vwCl A 20 [(0, .ref a), (1, .int (zI v)), (2, .int (zI (n : Int))), (3, .int (zI ((n : Nat) : Int)))] [] ([(a, zA cB n g)]) 0 0) : ∀ (f i : Nat) (g : Nat → Int), i ≤ n → n - i < f → (∀ k, k < i → g k = v) → J p l e rmJ7_fill_031fb s m args below meth c Q 4 D vwCl A 5 [(0, .ref a), (1, .int (zI v)), (2, .int (zI (i : Int))), (3, .int (zI ((n : Nat) : Int)))] [] ([(a, zA cB n g)]) 0 0 := by
  intro f
  induction f with
  | zero => intro i g _ hf; exact absurd hf (Nat.not_lt_zero _)
  | succ f ih =>
    intro i g hi hf hg
    refine j_iload_n C eJ7_fill_031fb_5 2 rfl ?_
    refine j_iload_n C eJ7_fill_031fb_6 3 rfl ?_
    refine j_icmp_ge C 20 eJ7_fill_031fb_7 (by decide) (by omega) (by omega) (fun c7 => ?_) (fun c7 => ?_)
    ·
      have he : i = n := by omega
      subst he
      exact kx g hg
    ·
      refine j_aload_n C eJ7_fill_031fb_10 0 rfl ?_
      refine j_iload_n C eJ7_fill_031fb_11 2 rfl ?_
      refine j_iload_n C eJ7_fill_031fb_12 1 rfl ?_
      refine j_bast C 0 0 rfl rfl i rfl (by omega) (by omega) (nar_b hv) eJ7_fill_031fb_13 (wd' := [(a, zA cB n (zup g i v))]) rfl ?_
      refine j_iinc C eJ7_fill_031fb_14 2 rfl rfl (by decide) (lv' := [(0, .ref a), (1, .int (zI v)), (2, .int (zI ((i : Int) + 1))), (3, .int (zI ((n : Nat) : Int)))]) rfl ?_
      refine j_goto C 5 eJ7_fill_031fb_17 (by decide) ?_
      exact ih (i + 1) (zup g i v) (by omega) (by omega) (fun k hk => by
        by_cases h : k = i
        · subst h; exact zup_s
        · rw [zup_n h]; exact hg k (by omega))
set_option maxHeartbeats 4000000 in
set_option maxRecDepth 100000 in
theorem ctJ7_fill_031fb (l : Launch) (D : va_G) (cB cI cZ cL : ClassId) (a n : Nat) (g : Nat → Int) (v : Int) (hv : -128 ≤ v ∧ v ≤ 127) (hn : n ≤ 2147483647) : mV l yJ7_fill_031fb wsJ7_fill_031fb rmJ7_fill_031fb D vwCl (tyl cB cI cZ cL) [.ref a, .int (zI v)] [(a, zA cB n g)] 0 0 (fun w1 => ∃ g' : Nat → Int, (∀ k, k < n → g' k = v) ∧ w1 = [(a, zA cB n g')]) := by
  refine mV_of (own := RJ7) rfl (by decide) rfl (Nat.le_of_ble_eq_true rfl) ?_
  intro p e s m args below meth c C hr hlocks hname
  show J p l e rmJ7_fill_031fb s m args below meth c _ 4 D vwCl _ 0 [(0, .ref a), (1, .int (zI v))] [] [(a, zA cB n g)] 0 0
  refine j_iconst C eJ7_fill_031fb_0 ?_
  refine j_istore_n C eJ7_fill_031fb_1 rfl (by decide) (lv' := [(0, .ref a), (1, .int (zI v)), (2, .int (zI 0))]) rfl ?_
  refine j_aload_n C eJ7_fill_031fb_2 0 rfl ?_
  refine j_alen C 0 0 rfl rfl eJ7_fill_031fb_3 ?_
  refine j_istore_n C eJ7_fill_031fb_4 rfl (by decide) (lv' := [(0, .ref a), (1, .int (zI v)), (2, .int (zI 0)), (3, .int (zI ((n : Nat) : Int)))]) rfl ?_
  refine lpJ7_fill_031fb C hv hn (fun g' hg' => ?_) (n + 1) 0 g (by omega) (by omega) (fun k hk => absurd hk (Nat.not_lt_zero _))
  exact j_vret C hr hlocks eJ7_fill_031fb_20 ⟨g', hg', rfl⟩
abbrev rmJ9_floorDiv_7cf53 : Room := { frames := 0, cells := 0, slots := 0, locals := 0 }
set_option maxHeartbeats 4000000 in
set_option maxRecDepth 100000 in
theorem ctJ9_floorDiv_7cf53 (l : Launch) (D : va_G) (cB cI cZ cL : ClassId) (a b : Int) (ha : -2147483648 ≤ a ∧ a ≤ 2147483647) (hb : 0 < b ∧ b ≤ 2147483647) : mI l yJ9_floorDiv_7cf53 wsJ9_floorDiv_7cf53 rmJ9_floorDiv_7cf53 D vwCl (tyl cB cI cZ cL) [.int (zI a), .int (zI b)] [] 0 0 (fun z w1 => w1 = [] ∧ z = a / b) := by
  refine mI_ofF (own := RJ9) rfl (by decide +kernel) rfl (Nat.le_of_ble_eq_true rfl) ?_
  intro p e s m args below meth c C hr hlocks hname
  show J p l e rmJ9_floorDiv_7cf53 s m args below meth c _ 3 D vwCl _ 0 [(0, .int (zI a)), (1, .int (zI b))] [] [] 0 0
  refine j_iload_n C eJ9_floorDiv_7cf53_0 0 rfl ?_
  refine j_iload_n C eJ9_floorDiv_7cf53_1 1 rfl ?_
  refine j_idiv C eJ9_floorDiv_7cf53_2 (by omega) (by omega) ?_
  refine j_istore_n C eJ9_floorDiv_7cf53_3 rfl (by decide) (lv' := [(0, .int (zI a)), (1, .int (zI b)), (2, .int (zI (a.tdiv b)))]) rfl ?_
  refine j_iload_n C eJ9_floorDiv_7cf53_4 0 rfl ?_
  refine j_iload_n C eJ9_floorDiv_7cf53_5 1 rfl ?_
  refine j_xorS C eJ9_floorDiv_7cf53_6 ha hb (fun x hx hxs => ?_)
  refine j_if_ge C 21 eJ9_floorDiv_7cf53_7 (by decide) (by omega) (fun c7 => ?_) (fun c7 => ?_)
  ·
    refine j_iload_n C eJ9_floorDiv_7cf53_21 2 rfl ?_
    exact j_iret C hr hlocks rfl eJ9_floorDiv_7cf53_22 ⟨rfl, fl_div2 ha hb.1 (by first | exact Or.inl (hxs.mp c7) | exact Or.inr c14)⟩
  ·
    refine j_iload_n C eJ9_floorDiv_7cf53_10 2 rfl ?_
    refine j_iload_n C eJ9_floorDiv_7cf53_11 1 rfl ?_
    refine j_imul C eJ9_floorDiv_7cf53_12 ?_
    refine j_iload_n C eJ9_floorDiv_7cf53_13 0 rfl ?_
    refine j_icmp_eq C 21 eJ9_floorDiv_7cf53_14 (by decide) (by
        have h5 : -2147483648 ≤ a.tdiv b * b ∧ a.tdiv b * b ≤ 2147483647 := by
          have h6 := Int.tmod_add_mul_tdiv a b
          have h7 : a.tdiv b * b = b * a.tdiv b := Int.mul_comm _ _
          have h8 : (0 ≤ a → 0 ≤ a.tmod b ∧ a.tmod b ≤ a) ∧ (a < 0 → a ≤ a.tmod b ∧ a.tmod b ≤ 0) := fl_mod hb.1
          omega
        exact h5) (by omega) (fun c14 => ?_) (fun c14 => ?_)
    ·
      refine j_iload_n C eJ9_floorDiv_7cf53_21 2 rfl ?_
      exact j_iret C hr hlocks rfl eJ9_floorDiv_7cf53_22 ⟨rfl, fl_div2 ha hb.1 (by first | exact Or.inl (hxs.mp c7) | exact Or.inr c14)⟩
    ·
      refine j_iload_n C eJ9_floorDiv_7cf53_17 2 rfl ?_
      refine j_iconst C eJ9_floorDiv_7cf53_18 ?_
      refine j_isub C eJ9_floorDiv_7cf53_19 ?_
      exact j_iret C hr hlocks rfl eJ9_floorDiv_7cf53_20 ⟨rfl, fl_div1 ha hb.1 (by omega) c14⟩
abbrev rmJ9_floorMod_7cf53 : Room := { frames := 0, cells := 0, slots := 0, locals := 0 }
set_option maxHeartbeats 4000000 in
set_option maxRecDepth 100000 in
theorem ctJ9_floorMod_7cf53 (l : Launch) (D : va_G) (cB cI cZ cL : ClassId) (a b : Int) (ha : -2147483648 ≤ a ∧ a ≤ 2147483647) (hb : 0 < b ∧ b ≤ 2147483647) : mI l yJ9_floorMod_7cf53 wsJ9_floorMod_7cf53 rmJ9_floorMod_7cf53 D vwCl (tyl cB cI cZ cL) [.int (zI a), .int (zI b)] [] 0 0 (fun z w1 => w1 = [] ∧ z = a % b) := by
  refine mI_ofF (own := RJ9) rfl (by decide +kernel) rfl (Nat.le_of_ble_eq_true rfl) ?_
  intro p e s m args below meth c C hr hlocks hname
  show J p l e rmJ9_floorMod_7cf53 s m args below meth c _ 3 D vwCl _ 0 [(0, .int (zI a)), (1, .int (zI b))] [] [] 0 0
  refine j_iload_n C eJ9_floorMod_7cf53_0 0 rfl ?_
  refine j_iload_n C eJ9_floorMod_7cf53_1 1 rfl ?_
  refine j_irem C eJ9_floorMod_7cf53_2 (by omega) (by omega) ?_
  refine j_istore_n C eJ9_floorMod_7cf53_3 rfl (by decide) (lv' := [(0, .int (zI a)), (1, .int (zI b)), (2, .int (zI (a.tmod b)))]) rfl ?_
  refine j_iload_n C eJ9_floorMod_7cf53_4 0 rfl ?_
  refine j_iload_n C eJ9_floorMod_7cf53_5 1 rfl ?_
  refine j_xorS C eJ9_floorMod_7cf53_6 ha hb (fun x hx hxs => ?_)
  refine j_if_ge C 18 eJ9_floorMod_7cf53_7 (by decide) (by omega) (fun c7 => ?_) (fun c7 => ?_)
  ·
    refine j_iload_n C eJ9_floorMod_7cf53_18 2 rfl ?_
    exact j_iret C hr hlocks rfl eJ9_floorMod_7cf53_19 ⟨rfl, fl_mod2 ha hb.1 (by first | exact Or.inl (hxs.mp c7) | exact Or.inr c11)⟩
  ·
    refine j_iload_n C eJ9_floorMod_7cf53_10 2 rfl ?_
    refine j_if_eq C 18 eJ9_floorMod_7cf53_11 (by decide) (by have h8 := fl_mod (a := a) hb.1; omega) (fun c11 => ?_) (fun c11 => ?_)
    ·
      refine j_iload_n C eJ9_floorMod_7cf53_18 2 rfl ?_
      exact j_iret C hr hlocks rfl eJ9_floorMod_7cf53_19 ⟨rfl, fl_mod2 ha hb.1 (by first | exact Or.inl (hxs.mp c7) | exact Or.inr c11)⟩
    ·
      refine j_iload_n C eJ9_floorMod_7cf53_14 2 rfl ?_
      refine j_iload_n C eJ9_floorMod_7cf53_15 1 rfl ?_
      refine j_iadd C eJ9_floorMod_7cf53_16 ?_
      exact j_iret C hr hlocks rfl eJ9_floorMod_7cf53_17 ⟨rfl, fl_mod1 ha hb.1 (by omega) c11⟩
end
section
/-! THE CLASS: sheets built in the spare one -/
theorem ix_inj {w x x' y y' : Nat} (hx : x < w) (hx' : x' < w) (h : y * w + x = y' * w + x') : y = y' ∧ x = x' := by
  have h1 : (y * w + x) % w = x := by rw [Nat.add_comm, Nat.add_mul_mod_self_right]; exact Nat.mod_eq_of_lt hx
  have h2 : (y' * w + x') % w = x' := by rw [Nat.add_comm, Nat.add_mul_mod_self_right]; exact Nat.mod_eq_of_lt hx'
  have h3 : x = x' := by rw [← h1, ← h2, h]
  subst h3
  have h4 : y * w = y' * w := by omega
  exact ⟨Nat.eq_of_mul_eq_mul_right (by omega) h4, rfl⟩
/-- the places ahead of y, x are filled by f -/
def scn (w : Nat) (f : Nat → Nat → Int) (y x : Nat) (S : Nat → Int) : Prop := ∀ y' x', x' < w → (y' < y ∨ (y' = y ∧ x' < x)) → S (y' * w + x') = f y' x'
theorem scn_0 {w : Nat} {f : Nat → Nat → Int} {S : Nat → Int} : scn w f 0 0 S := fun y' x' _ h => by omega
theorem scn_put {w : Nat} {f : Nat → Nat → Int} {y x : Nat} {S : Nat → Int} (h : scn w f y x S) (hx : x < w) : scn w f y (x + 1) (zup S (y * w + x) (f y x)) := by
  intro y' x' hx' hh
  by_cases e : y' * w + x' = y * w + x
  · obtain ⟨rfl, rfl⟩ := ix_inj hx' hx e
    exact zup_s
  · rw [zup_n e]
    refine h y' x' hx' ?_
    rcases hh with hh | ⟨rfl, hh⟩
    · exact Or.inl hh
    · refine Or.inr ⟨rfl, ?_⟩
      have : x' ≠ x := fun q => e (by rw [q])
      omega
theorem scn_row {w : Nat} {f : Nat → Nat → Int} {y : Nat} {S : Nat → Int} (h : scn w f y w S) : scn w f (y + 1) 0 S := fun y' x' hx' hh => h y' x' hx' (by omega)
theorem hwsX0_shearAt : ∀ w ∈ u_ws RX0 TX0 16, w ∈ wsX0_shearAt := fun _ h => List.mem_cons_of_mem _ (List.mem_append_right _ h)
theorem kX0_shearAt_22 : Cond.fieldLink RX0 22 "SheetRows" (TX0 1).2.1 (TX0 1).2.2.1 ∈ wsX0_shearAt := by decide +kernel
abbrev rmX0_shearAt : Room := { frames := 1, cells := 0, slots := 0, locals := 22 }
/-- how far a shear by b brings column x down -/
def shr (h : Nat) (b : Int) (x : Nat) : Nat := ((b * (x : Int) / 32) % (h : Int)).toNat
set_option maxHeartbeats 4000000 in
set_option maxRecDepth 100000 in
theorem ctX0_shearAt (l : Launch) (D : va_G) (cB cI cZ cL : ClassId) (ad : Nat → Nat) (w h : Nat) (hs : Sz w h) (aG aS : Nat) (G S CB SB DK DR RE PF PK CO : Nat → Int) (rc pn kn cn : Int) (x : Nat) (hx : x < w) (b : Int) (hb : -100 ≤ b ∧ b ≤ 100) : mI l yX0_shearAt wsX0_shearAt rmX0_shearAt D vwCl (tyl cB cI cZ cL) [.ref (ad 0), .int (zI (x : Int)), .int (zI b)] (wX cB cI cZ ad w h aG aS G S CB SB DK DR RE PF PK CO rc pn kn cn) 0 0 (fun z w1 => w1 = wX cB cI cZ ad w h aG aS G S CB SB DK DR RE PF PK CO rc pn kn cn ∧ z = ((shr h b x : Nat) : Int)) := by
  refine mI_of (own := RX0) rfl (by decide) rfl (Nat.le_of_ble_eq_true rfl) ?_
  intro p e s m args below meth c C hr hlocks hname
  show J p l e rmX0_shearAt s m args below meth c _ 3 D vwCl _ 0 [(0, .ref (ad 0)), (1, .int (zI (x : Int))), (2, .int (zI b))] [] (wX cB cI cZ ad w h aG aS G S CB SB DK DR RE PF PK CO rc pn kn cn) 0 0
  obtain ⟨h1, h2, h3, h4⟩ := id hs
  have hbx : -4800 ≤ b * (x : Int) ∧ b * (x : Int) ≤ 4800 := by
    have hx2 : (x : Int) ≤ 48 := by omega
    have hx3 : (0 : Int) ≤ (x : Int) := by omega
    constructor
    · have := Int.mul_le_mul_of_nonneg_right (a := -100) (b := b) (c := (x : Int)) hb.1 hx3
      omega
    · have := Int.mul_le_mul_of_nonneg_right (a := b) (b := 100) (c := (x : Int)) hb.2 hx3
      omega
  refine j_iload_n C eX0_shearAt_0 2 rfl ?_
  refine j_iload_n C eX0_shearAt_1 1 rfl ?_
  refine j_imul C eX0_shearAt_2 ?_
  refine j_bipush C eX0_shearAt_3 (by decide +kernel) ?_
  refine j_callSi C (As := [.int (zI (b * (x : Int))), .int (zI 32)]) (rest := []) (ctJ9_floorDiv_7cf53 l D cB cI cZ cL (b * (x : Int)) 32 (by omega) (by omega)) (va_cwS 2 C.1.2.2.2.2 gX0_shearAt_J9_floorDiv_7cf53 rfl rfl rfl (by decide +kernel) ⟨Nat.le_of_ble_eq_true rfl, Nat.le_of_ble_eq_true rfl⟩) [] [0, 1, 2, 3, 4, 5, 6, 7, 8, 9, 10] (wr := wX cB cI cZ ad w h aG aS G S CB SB DK DR RE PF PK CO rc pn kn cn) rfl (by decide) rfl (by decide) (by decide) rfl rfl (Nat.le_of_ble_eq_true rfl) eX0_shearAt_5 ⟨Nat.le_of_ble_eq_true rfl, Nat.le_of_ble_eq_true rfl⟩ (fun z w1 hp => ?_)
  obtain ⟨rfl, rfl⟩ := hp
  rw [List.append_nil]
  refine j_aload_n C eX0_shearAt_8 0 rfl ?_
  refine j_getf C hwsX0_shearAt 0 rfl rfl 1 (by decide) kX0_shearAt_22 rfl rfl eX0_shearAt_9 ?_
  refine j_callSi C (As := [.int (zI (b * (x : Int) / 32)), .int (zI (h : Int))]) (rest := []) (ctJ9_floorMod_7cf53 l D cB cI cZ cL (b * (x : Int) / 32) (h : Int) (by omega) (by omega)) (va_cwS 2 C.1.2.2.2.2 gX0_shearAt_J9_floorMod_7cf53 rfl rfl rfl (by decide +kernel) ⟨Nat.le_of_ble_eq_true rfl, Nat.le_of_ble_eq_true rfl⟩) [] [0, 1, 2, 3, 4, 5, 6, 7, 8, 9, 10] (wr := wX cB cI cZ ad w h aG aS G S CB SB DK DR RE PF PK CO rc pn kn cn) rfl (by decide) rfl (by decide) (by decide) rfl rfl (Nat.le_of_ble_eq_true rfl) eX0_shearAt_12 ⟨Nat.le_of_ble_eq_true rfl, Nat.le_of_ble_eq_true rfl⟩ (fun z w1 hp => ?_)
  obtain ⟨rfl, rfl⟩ := hp
  rw [List.append_nil]
  exact j_iret C hr hlocks rfl eX0_shearAt_15 ⟨rfl, (Int.toNat_of_nonneg (Int.emod_nonneg _ (by omega))).symm⟩
theorem hwsX0_mirrorRows : ∀ w ∈ u_ws RX0 TX0 16, w ∈ wsX0_mirrorRows := fun _ h => List.mem_cons_of_mem _ (List.mem_append_right _ h)
theorem kX0_mirrorRows_18 : Cond.fieldLink RX0 18 "SheetRows" (TX0 0).2.1 (TX0 0).2.2.1 ∈ wsX0_mirrorRows := by decide +kernel
theorem kX0_mirrorRows_22 : Cond.fieldLink RX0 22 "SheetRows" (TX0 1).2.1 (TX0 1).2.2.1 ∈ wsX0_mirrorRows := by decide +kernel
theorem kX0_mirrorRows_25 : Cond.fieldLink RX0 25 "SheetRows" (TX0 2).2.1 (TX0 2).2.2.1 ∈ wsX0_mirrorRows := by decide +kernel
theorem kX0_mirrorRows_29 : Cond.fieldLink RX0 29 "SheetRows" (TX0 3).2.1 (TX0 3).2.2.1 ∈ wsX0_mirrorRows := by decide +kernel
abbrev rmX0_mirrorRows : Room := { frames := 0, cells := 0, slots := 0, locals := 0 }
set_option maxHeartbeats 4000000 in
set_option maxRecDepth 100000 in
theorem lqX0_mirrorRows {p : Program} {l : Launch} {e : Env} {s : State} {m : MethodId} {args : Array Value} {below : List Frame} {meth : Method} {c : Code} {Q : State → Prop} {D : va_G} {A : Nat → Prop} {cB cI cZ cL : ClassId} {w h : Nat} {ad : Nat → Nat} {aG aS : Nat} {G CB SB DK DR RE PF PK CO : Nat → Int} {rc pn kn cn : Int} (C : JC p m c cX0_mirrorRows 3 s args wsX0_mirrorRows RX0 D vwCl (tyl cB cI cZ cL) A) (hs : Sz w h) (hG : byt (w * h) G) {y : Nat} (hy : y < h) (kx : ∀ S : Nat → Int, scn w (fun y x => G (y * w + (w - 1 - x))) y w S → J p l e rmX0_mirrorRows s m args below meth c Q 3 D vwCl A 59 [(0, .ref (ad 0)), (1, .int (zI (y : Int))), (2, .int (zI (w : Int)))] [] (wX cB cI cZ ad w h aG aS G S CB SB DK DR RE PF PK CO rc pn kn cn) 0 0) : ∀ (n x : Nat) (S : Nat → Int), x ≤ w → w - x < n → scn w (fun y x => G (y * w + (w - 1 - x))) y x S → J p l e rmX0_mirrorRows s m args below meth c Q 3 D vwCl A 12 [(0, .ref (ad 0)), (1, .int (zI (y : Int))), (2, .int (zI (x : Int)))] [] (wX cB cI cZ ad w h aG aS G S CB SB DK DR RE PF PK CO rc pn kn cn) 0 0 := by
  have hm := hs.mul
  obtain ⟨h1, h2, h3, h4⟩ := id hs
  intro n
  induction n with
  | zero => intro x S _ hn; exact absurd hn (Nat.not_lt_zero _)
  | succ n ih =>
    intro x S hx hn hS
    refine j_iload_n C eX0_mirrorRows_12 2 rfl ?_
    refine j_aload_n C eX0_mirrorRows_13 0 rfl ?_
    refine j_getf C hwsX0_mirrorRows 0 rfl rfl 0 (by decide) kX0_mirrorRows_18 rfl rfl eX0_mirrorRows_14 ?_
    refine j_icmp_ge C 59 eX0_mirrorRows_17 (by decide) (by omega) (by omega) (fun c17 => ?_) (fun c17 => ?_)
    ·
      have he : x = w := by omega
      subst he
      exact kx S hS
    ·
      have h7 := ix_lt (w := w) (h := h) (x := x) (y := y) (by omega) hy
      have h8 := ix_lt (w := w) (h := h) (x := w - 1 - x) (y := y) (by omega) hy
      refine j_aload_n C eX0_mirrorRows_20 0 rfl ?_
      refine j_getf C hwsX0_mirrorRows 0 rfl rfl 3 (by decide) kX0_mirrorRows_29 rfl rfl eX0_mirrorRows_21 ?_
      refine j_iload_n C eX0_mirrorRows_24 1 rfl ?_
      refine j_aload_n C eX0_mirrorRows_25 0 rfl ?_
      refine j_getf C hwsX0_mirrorRows 0 rfl rfl 0 (by decide) kX0_mirrorRows_18 rfl rfl eX0_mirrorRows_26 ?_
      refine j_imul C eX0_mirrorRows_29 ?_
      refine j_iload_n C eX0_mirrorRows_30 2 rfl ?_
      refine j_iadd C eX0_mirrorRows_31 ?_
      refine j_aload_n C eX0_mirrorRows_32 0 rfl ?_
      refine j_getf C hwsX0_mirrorRows 0 rfl rfl 2 (by decide) kX0_mirrorRows_25 rfl rfl eX0_mirrorRows_33 ?_
      refine j_iload_n C eX0_mirrorRows_36 1 rfl ?_
      refine j_aload_n C eX0_mirrorRows_37 0 rfl ?_
      refine j_getf C hwsX0_mirrorRows 0 rfl rfl 0 (by decide) kX0_mirrorRows_18 rfl rfl eX0_mirrorRows_38 ?_
      refine j_imul C eX0_mirrorRows_41 ?_
      refine j_aload_n C eX0_mirrorRows_42 0 rfl ?_
      refine j_getf C hwsX0_mirrorRows 0 rfl rfl 0 (by decide) kX0_mirrorRows_18 rfl rfl eX0_mirrorRows_43 ?_
      refine j_iadd C eX0_mirrorRows_46 ?_
      refine j_iconst C eX0_mirrorRows_47 ?_
      refine j_isub C eX0_mirrorRows_48 ?_
      refine j_iload_n C eX0_mirrorRows_49 2 rfl ?_
      refine j_isub C eX0_mirrorRows_50 ?_
      refine j_bald C 1 0 rfl rfl (y * w + (w - 1 - x)) (by omega) h8 (by omega) eX0_mirrorRows_51 ?_
      refine j_bast C 2 0 rfl rfl (y * w + x) (by push_cast; rfl) h7 (by omega) (nar_b (hG _ h8)) eX0_mirrorRows_52 (wd' := wX cB cI cZ ad w h aG aS G (zup S (y * w + x) (G (y * w + (w - 1 - x)))) CB SB DK DR RE PF PK CO rc pn kn cn) rfl ?_
      refine j_iinc C eX0_mirrorRows_53 2 rfl rfl (by decide) (lv' := [(0, .ref (ad 0)), (1, .int (zI (y : Int))), (2, .int (zI ((x : Int) + 1)))]) rfl ?_
      refine j_goto C 12 eX0_mirrorRows_56 (by decide) ?_
      exact ih (x + 1) _ (by omega) (by omega) (scn_put hS (by omega))
set_option maxHeartbeats 4000000 in
set_option maxRecDepth 100000 in
theorem lpX0_mirrorRows {p : Program} {l : Launch} {e : Env} {s : State} {m : MethodId} {args : Array Value} {below : List Frame} {meth : Method} {c : Code} {Q : State → Prop} {D : va_G} {A : Nat → Prop} {cB cI cZ cL : ClassId} {w h : Nat} {ad : Nat → Nat} {aG aS : Nat} {G CB SB DK DR RE PF PK CO : Nat → Int} {rc pn kn cn : Int} (C : JC p m c cX0_mirrorRows 3 s args wsX0_mirrorRows RX0 D vwCl (tyl cB cI cZ cL) A) (hs : Sz w h) (hG : byt (w * h) G) (kx : ∀ S : Nat → Int, scn w (fun y x => G (y * w + (w - 1 - x))) h 0 S → J p l e rmX0_mirrorRows s m args below meth c Q 3 D vwCl A 65 [(0, .ref (ad 0)), (1, .int (zI (h : Int)))] [] (wX cB cI cZ ad w h aG aS G S CB SB DK DR RE PF PK CO rc pn kn cn) 0 0) : ∀ (n y : Nat) (S : Nat → Int), y ≤ h → h - y < n → scn w (fun y x => G (y * w + (w - 1 - x))) y 0 S → J p l e rmX0_mirrorRows s m args below meth c Q 3 D vwCl A 2 [(0, .ref (ad 0)), (1, .int (zI (y : Int)))] [] (wX cB cI cZ ad w h aG aS G S CB SB DK DR RE PF PK CO rc pn kn cn) 0 0 := by
  have hm := hs.mul
  obtain ⟨h1, h2, h3, h4⟩ := id hs
  intro n
  induction n with
  | zero => intro x S _ hn; exact absurd hn (Nat.not_lt_zero _)
  | succ n ih =>
    intro y S hy hn hS
    refine j_iload_n C eX0_mirrorRows_2 1 rfl ?_
    refine j_aload_n C eX0_mirrorRows_3 0 rfl ?_
    refine j_getf C hwsX0_mirrorRows 0 rfl rfl 1 (by decide) kX0_mirrorRows_22 rfl rfl eX0_mirrorRows_4 ?_
    refine j_icmp_ge C 65 eX0_mirrorRows_7 (by decide) (by omega) (by omega) (fun c7 => ?_) (fun c7 => ?_)
    ·
      have he : y = h := by omega
      subst he
      exact kx S hS
    ·
      refine j_iconst C eX0_mirrorRows_10 ?_
      refine j_istore_n C eX0_mirrorRows_11 rfl (by decide) (lv' := [(0, .ref (ad 0)), (1, .int (zI (y : Int))), (2, .int (zI 0))]) rfl ?_
      refine lqX0_mirrorRows C hs hG (by omega) (fun S hS => ?_) (w + 1) 0 S (by omega) (by omega) hS
      refine j_iinc C eX0_mirrorRows_59 1 rfl rfl (by decide) (lv' := [(0, .ref (ad 0)), (1, .int (zI ((y : Int) + 1))), (2, .int (zI (w : Int)))]) rfl ?_
      refine j_goto C 2 eX0_mirrorRows_62 (by decide) ?_
      refine j_loc [0, 1] (lv' := [(0, .ref (ad 0)), (1, .int (zI ((y : Int) + 1)))]) rfl ?_
      exact ih (y + 1) S (by omega) (by omega) (scn_row hS)
set_option maxHeartbeats 4000000 in
set_option maxRecDepth 100000 in
theorem ctX0_mirrorRows (l : Launch) (D : va_G) (cB cI cZ cL : ClassId) (ad : Nat → Nat) (w h : Nat) (hs : Sz w h) (aG aS : Nat) (G S CB SB DK DR RE PF PK CO : Nat → Int) (rc pn kn cn : Int) (hG : byt (w * h) G) : mV l yX0_mirrorRows wsX0_mirrorRows rmX0_mirrorRows D vwCl (tyl cB cI cZ cL) [.ref (ad 0)] (wX cB cI cZ ad w h aG aS G S CB SB DK DR RE PF PK CO rc pn kn cn) 0 0 (fun w1 => ∃ S' : Nat → Int, scn w (fun y x => G (y * w + (w - 1 - x))) h 0 S' ∧ w1 = wX cB cI cZ ad w h aG aS G S' CB SB DK DR RE PF PK CO rc pn kn cn) := by
  refine mV_of (own := RX0) rfl (by decide) rfl (Nat.le_of_ble_eq_true rfl) ?_
  intro p e s m args below meth c C hr hlocks hname
  show J p l e rmX0_mirrorRows s m args below meth c _ 3 D vwCl _ 0 [(0, .ref (ad 0))] [] (wX cB cI cZ ad w h aG aS G S CB SB DK DR RE PF PK CO rc pn kn cn) 0 0
  refine j_iconst C eX0_mirrorRows_0 ?_
  refine j_istore_n C eX0_mirrorRows_1 rfl (by decide) (lv' := [(0, .ref (ad 0)), (1, .int (zI 0))]) rfl ?_
  refine lpX0_mirrorRows C hs hG (fun S' hS' => ?_) (h + 1) 0 S (by omega) (by omega) scn_0
  exact j_vret C hr hlocks eX0_mirrorRows_65 ⟨S', hS', rfl⟩
theorem hwsX0_reverseRows : ∀ w ∈ u_ws RX0 TX0 16, w ∈ wsX0_reverseRows := fun _ h => List.mem_cons_of_mem _ (List.mem_append_right _ h)
theorem kX0_reverseRows_18 : Cond.fieldLink RX0 18 "SheetRows" (TX0 0).2.1 (TX0 0).2.2.1 ∈ wsX0_reverseRows := by decide +kernel
theorem kX0_reverseRows_22 : Cond.fieldLink RX0 22 "SheetRows" (TX0 1).2.1 (TX0 1).2.2.1 ∈ wsX0_reverseRows := by decide +kernel
theorem kX0_reverseRows_25 : Cond.fieldLink RX0 25 "SheetRows" (TX0 2).2.1 (TX0 2).2.2.1 ∈ wsX0_reverseRows := by decide +kernel
theorem kX0_reverseRows_29 : Cond.fieldLink RX0 29 "SheetRows" (TX0 3).2.1 (TX0 3).2.2.1 ∈ wsX0_reverseRows := by decide +kernel
abbrev rmX0_reverseRows : Room := { frames := 0, cells := 0, slots := 0, locals := 0 }
set_option maxHeartbeats 4000000 in
set_option maxRecDepth 100000 in
theorem lqX0_reverseRows {p : Program} {l : Launch} {e : Env} {s : State} {m : MethodId} {args : Array Value} {below : List Frame} {meth : Method} {c : Code} {Q : State → Prop} {D : va_G} {A : Nat → Prop} {cB cI cZ cL : ClassId} {w h : Nat} {ad : Nat → Nat} {aG aS : Nat} {G CB SB DK DR RE PF PK CO : Nat → Int} {rc pn kn cn : Int} (C : JC p m c cX0_reverseRows 3 s args wsX0_reverseRows RX0 D vwCl (tyl cB cI cZ cL) A) (hs : Sz w h) (hG : byt (w * h) G) {y : Nat} (hy : y < h) (kx : ∀ S : Nat → Int, scn w (fun y x => G ((h - 1 - y) * w + x)) y w S → J p l e rmX0_reverseRows s m args below meth c Q 3 D vwCl A 59 [(0, .ref (ad 0)), (1, .int (zI (y : Int))), (2, .int (zI (w : Int)))] [] (wX cB cI cZ ad w h aG aS G S CB SB DK DR RE PF PK CO rc pn kn cn) 0 0) : ∀ (n x : Nat) (S : Nat → Int), x ≤ w → w - x < n → scn w (fun y x => G ((h - 1 - y) * w + x)) y x S → J p l e rmX0_reverseRows s m args below meth c Q 3 D vwCl A 12 [(0, .ref (ad 0)), (1, .int (zI (y : Int))), (2, .int (zI (x : Int)))] [] (wX cB cI cZ ad w h aG aS G S CB SB DK DR RE PF PK CO rc pn kn cn) 0 0 := by
  have hm := hs.mul
  obtain ⟨h1, h2, h3, h4⟩ := id hs
  intro n
  induction n with
  | zero => intro x S _ hn; exact absurd hn (Nat.not_lt_zero _)
  | succ n ih =>
    intro x S hx hn hS
    refine j_iload_n C eX0_reverseRows_12 2 rfl ?_
    refine j_aload_n C eX0_reverseRows_13 0 rfl ?_
    refine j_getf C hwsX0_reverseRows 0 rfl rfl 0 (by decide) kX0_reverseRows_18 rfl rfl eX0_reverseRows_14 ?_
    refine j_icmp_ge C 59 eX0_reverseRows_17 (by decide) (by omega) (by omega) (fun c17 => ?_) (fun c17 => ?_)
    ·
      have he : x = w := by omega
      subst he
      exact kx S hS
    ·
      have h7 := ix_lt (w := w) (h := h) (x := x) (y := y) (by omega) hy
      have h8 := ix_lt (w := w) (h := h) (x := x) (y := h - 1 - y) (by omega) (by omega)
      refine j_aload_n C eX0_reverseRows_20 0 rfl ?_
      refine j_getf C hwsX0_reverseRows 0 rfl rfl 3 (by decide) kX0_reverseRows_29 rfl rfl eX0_reverseRows_21 ?_
      refine j_iload_n C eX0_reverseRows_24 1 rfl ?_
      refine j_aload_n C eX0_reverseRows_25 0 rfl ?_
      refine j_getf C hwsX0_reverseRows 0 rfl rfl 0 (by decide) kX0_reverseRows_18 rfl rfl eX0_reverseRows_26 ?_
      refine j_imul C eX0_reverseRows_29 ?_
      refine j_iload_n C eX0_reverseRows_30 2 rfl ?_
      refine j_iadd C eX0_reverseRows_31 ?_
      refine j_aload_n C eX0_reverseRows_32 0 rfl ?_
      refine j_getf C hwsX0_reverseRows 0 rfl rfl 2 (by decide) kX0_reverseRows_25 rfl rfl eX0_reverseRows_33 ?_
      refine j_aload_n C eX0_reverseRows_36 0 rfl ?_
      refine j_getf C hwsX0_reverseRows 0 rfl rfl 1 (by decide) kX0_reverseRows_22 rfl rfl eX0_reverseRows_37 ?_
      refine j_iconst C eX0_reverseRows_40 ?_
      refine j_isub C eX0_reverseRows_41 ?_
      refine j_iload_n C eX0_reverseRows_42 1 rfl ?_
      refine j_isub C eX0_reverseRows_43 ?_
      refine j_aload_n C eX0_reverseRows_44 0 rfl ?_
      refine j_getf C hwsX0_reverseRows 0 rfl rfl 0 (by decide) kX0_reverseRows_18 rfl rfl eX0_reverseRows_45 ?_
      refine j_imul C eX0_reverseRows_48 ?_
      refine j_iload_n C eX0_reverseRows_49 2 rfl ?_
      refine j_iadd C eX0_reverseRows_50 ?_
      refine j_bald C 1 0 rfl rfl ((h - 1 - y) * w + x) (by rw [show ((h - 1 - y) * w + x : Nat) = (h - 1 - y) * w + x from rfl]; push_cast; rw [Int.ofNat_sub (by omega), Int.ofNat_sub (by omega)]; rfl) h8 (by omega) eX0_reverseRows_51 ?_
      refine j_bast C 2 0 rfl rfl (y * w + x) (by push_cast; rfl) h7 (by omega) (nar_b (hG _ h8)) eX0_reverseRows_52 (wd' := wX cB cI cZ ad w h aG aS G (zup S (y * w + x) (G ((h - 1 - y) * w + x))) CB SB DK DR RE PF PK CO rc pn kn cn) rfl ?_
      refine j_iinc C eX0_reverseRows_53 2 rfl rfl (by decide) (lv' := [(0, .ref (ad 0)), (1, .int (zI (y : Int))), (2, .int (zI ((x : Int) + 1)))]) rfl ?_
      refine j_goto C 12 eX0_reverseRows_56 (by decide) ?_
      exact ih (x + 1) _ (by omega) (by omega) (scn_put hS (by omega))
set_option maxHeartbeats 4000000 in
set_option maxRecDepth 100000 in
theorem lpX0_reverseRows {p : Program} {l : Launch} {e : Env} {s : State} {m : MethodId} {args : Array Value} {below : List Frame} {meth : Method} {c : Code} {Q : State → Prop} {D : va_G} {A : Nat → Prop} {cB cI cZ cL : ClassId} {w h : Nat} {ad : Nat → Nat} {aG aS : Nat} {G CB SB DK DR RE PF PK CO : Nat → Int} {rc pn kn cn : Int} (C : JC p m c cX0_reverseRows 3 s args wsX0_reverseRows RX0 D vwCl (tyl cB cI cZ cL) A) (hs : Sz w h) (hG : byt (w * h) G) (kx : ∀ S : Nat → Int, scn w (fun y x => G ((h - 1 - y) * w + x)) h 0 S → J p l e rmX0_reverseRows s m args below meth c Q 3 D vwCl A 65 [(0, .ref (ad 0)), (1, .int (zI (h : Int)))] [] (wX cB cI cZ ad w h aG aS G S CB SB DK DR RE PF PK CO rc pn kn cn) 0 0) : ∀ (n y : Nat) (S : Nat → Int), y ≤ h → h - y < n → scn w (fun y x => G ((h - 1 - y) * w + x)) y 0 S → J p l e rmX0_reverseRows s m args below meth c Q 3 D vwCl A 2 [(0, .ref (ad 0)), (1, .int (zI (y : Int)))] [] (wX cB cI cZ ad w h aG aS G S CB SB DK DR RE PF PK CO rc pn kn cn) 0 0 := by
  have hm := hs.mul
  obtain ⟨h1, h2, h3, h4⟩ := id hs
  intro n
  induction n with
  | zero => intro x S _ hn; exact absurd hn (Nat.not_lt_zero _)
  | succ n ih =>
    intro y S hy hn hS
    refine j_iload_n C eX0_reverseRows_2 1 rfl ?_
    refine j_aload_n C eX0_reverseRows_3 0 rfl ?_
    refine j_getf C hwsX0_reverseRows 0 rfl rfl 1 (by decide) kX0_reverseRows_22 rfl rfl eX0_reverseRows_4 ?_
    refine j_icmp_ge C 65 eX0_reverseRows_7 (by decide) (by omega) (by omega) (fun c7 => ?_) (fun c7 => ?_)
    ·
      have he : y = h := by omega
      subst he
      exact kx S hS
    ·
      refine j_iconst C eX0_reverseRows_10 ?_
      refine j_istore_n C eX0_reverseRows_11 rfl (by decide) (lv' := [(0, .ref (ad 0)), (1, .int (zI (y : Int))), (2, .int (zI 0))]) rfl ?_
      refine lqX0_reverseRows C hs hG (by omega) (fun S hS => ?_) (w + 1) 0 S (by omega) (by omega) hS
      refine j_iinc C eX0_reverseRows_59 1 rfl rfl (by decide) (lv' := [(0, .ref (ad 0)), (1, .int (zI ((y : Int) + 1))), (2, .int (zI (w : Int)))]) rfl ?_
      refine j_goto C 2 eX0_reverseRows_62 (by decide) ?_
      refine j_loc [0, 1] (lv' := [(0, .ref (ad 0)), (1, .int (zI ((y : Int) + 1)))]) rfl ?_
      exact ih (y + 1) S (by omega) (by omega) (scn_row hS)
set_option maxHeartbeats 4000000 in
set_option maxRecDepth 100000 in
theorem ctX0_reverseRows (l : Launch) (D : va_G) (cB cI cZ cL : ClassId) (ad : Nat → Nat) (w h : Nat) (hs : Sz w h) (aG aS : Nat) (G S CB SB DK DR RE PF PK CO : Nat → Int) (rc pn kn cn : Int) (hG : byt (w * h) G) : mV l yX0_reverseRows wsX0_reverseRows rmX0_reverseRows D vwCl (tyl cB cI cZ cL) [.ref (ad 0)] (wX cB cI cZ ad w h aG aS G S CB SB DK DR RE PF PK CO rc pn kn cn) 0 0 (fun w1 => ∃ S' : Nat → Int, scn w (fun y x => G ((h - 1 - y) * w + x)) h 0 S' ∧ w1 = wX cB cI cZ ad w h aG aS G S' CB SB DK DR RE PF PK CO rc pn kn cn) := by
  refine mV_of (own := RX0) rfl (by decide) rfl (Nat.le_of_ble_eq_true rfl) ?_
  intro p e s m args below meth c C hr hlocks hname
  show J p l e rmX0_reverseRows s m args below meth c _ 3 D vwCl _ 0 [(0, .ref (ad 0))] [] (wX cB cI cZ ad w h aG aS G S CB SB DK DR RE PF PK CO rc pn kn cn) 0 0
  refine j_iconst C eX0_reverseRows_0 ?_
  refine j_istore_n C eX0_reverseRows_1 rfl (by decide) (lv' := [(0, .ref (ad 0)), (1, .int (zI 0))]) rfl ?_
  refine lpX0_reverseRows C hs hG (fun S' hS' => ?_) (h + 1) 0 S (by omega) (by omega) scn_0
  exact j_vret C hr hlocks eX0_reverseRows_65 ⟨S', hS', rfl⟩
theorem hwsX0_invertGreys : ∀ w ∈ u_ws RX0 TX0 16, w ∈ wsX0_invertGreys := fun _ h => List.mem_cons_of_mem _ (List.mem_append_right _ h)
theorem kX0_invertGreys_25 : Cond.fieldLink RX0 25 "SheetRows" (TX0 2).2.1 (TX0 2).2.2.1 ∈ wsX0_invertGreys := by decide +kernel
theorem kX0_invertGreys_29 : Cond.fieldLink RX0 29 "SheetRows" (TX0 3).2.1 (TX0 3).2.2.1 ∈ wsX0_invertGreys := by decide +kernel
abbrev rmX0_invertGreys : Room := { frames := 0, cells := 0, slots := 0, locals := 0 }
set_option maxHeartbeats 4000000 in
set_option maxRecDepth 100000 in
theorem lpX0_invertGreys {p : Program} {l : Launch} {e : Env} {s : State} {m : MethodId} {args : Array Value} {below : List Frame} {meth : Method} {c : Code} {Q : State → Prop} {D : va_G} {A : Nat → Prop} {cB cI cZ cL : ClassId} {w h : Nat} {ad : Nat → Nat} {aG aS : Nat} {G CB SB DK DR RE PF PK CO : Nat → Int} {rc pn kn cn : Int} (C : JC p m c cX0_invertGreys 2 s args wsX0_invertGreys RX0 D vwCl (tyl cB cI cZ cL) A) (hs : Sz w h) (kx : ∀ S : Nat → Int, (∀ k, k < w * h → S k = Int.bmod (255 - G k % 256) 256) → J p l e rmX0_invertGreys s m args below meth c Q 2 D vwCl A 38 [(0, .ref (ad 0)), (1, .int (zI ((w * h) : Int)))] [] (wX cB cI cZ ad w h aG aS G S CB SB DK DR RE PF PK CO rc pn kn cn) 0 0) : ∀ (n i : Nat) (S : Nat → Int), i ≤ w * h → w * h - i < n → (∀ k, k < i → S k = Int.bmod (255 - G k % 256) 256) → J p l e rmX0_invertGreys s m args below meth c Q 2 D vwCl A 2 [(0, .ref (ad 0)), (1, .int (zI (i : Int)))] [] (wX cB cI cZ ad w h aG aS G S CB SB DK DR RE PF PK CO rc pn kn cn) 0 0 := by
  have hm := hs.mul
  intro n
  induction n with
  | zero => intro x S _ hn; exact absurd hn (Nat.not_lt_zero _)
  | succ n ih =>
    intro i S hi hn hS
    refine j_iload_n C eX0_invertGreys_2 1 rfl ?_
    refine j_aload_n C eX0_invertGreys_3 0 rfl ?_
    refine j_getf C hwsX0_invertGreys 0 rfl rfl 2 (by decide) kX0_invertGreys_25 rfl rfl eX0_invertGreys_4 ?_
    refine j_alen C 1 0 rfl rfl eX0_invertGreys_7 ?_
    refine j_icmp_ge C 38 eX0_invertGreys_8 (by decide) (by omega) (by omega) (fun c8 => ?_) (fun c8 => ?_)
    ·
      have he : i = w * h := by omega
      subst he
      exact kx S hS
    ·
      refine j_aload_n C eX0_invertGreys_11 0 rfl ?_
      refine j_getf C hwsX0_invertGreys 0 rfl rfl 3 (by decide) kX0_invertGreys_29 rfl rfl eX0_invertGreys_12 ?_
      refine j_iload_n C eX0_invertGreys_15 1 rfl ?_
      refine j_sipush C eX0_invertGreys_16 (by decide +kernel) ?_
      refine j_aload_n C eX0_invertGreys_19 0 rfl ?_
      refine j_getf C hwsX0_invertGreys 0 rfl rfl 2 (by decide) kX0_invertGreys_25 rfl rfl eX0_invertGreys_20 ?_
      refine j_iload_n C eX0_invertGreys_23 1 rfl ?_
      refine j_bald C 1 0 rfl rfl i rfl (by omega) (by omega) eX0_invertGreys_24 ?_
      refine j_sipush C eX0_invertGreys_25 (by decide +kernel) ?_
      refine j_and255 C eX0_invertGreys_28 ?_
      refine j_isub C eX0_invertGreys_29 ?_
      refine j_i2bz C eX0_invertGreys_30 ?_
      refine j_bast C 2 0 rfl rfl i rfl (by omega) (by omega) (nar_b (bm_in _)) eX0_invertGreys_31 (wd' := wX cB cI cZ ad w h aG aS G (zup S i (Int.bmod (255 - ((G i) % 256)) 256)) CB SB DK DR RE PF PK CO rc pn kn cn) rfl ?_
      refine j_iinc C eX0_invertGreys_32 1 rfl rfl (by decide) (lv' := [(0, .ref (ad 0)), (1, .int (zI ((i : Int) + 1)))]) rfl ?_
      refine j_goto C 2 eX0_invertGreys_35 (by decide) ?_
      exact ih (i + 1) _ (by omega) (by omega) (fun k hk => by
        by_cases e : k = i
        · subst e; exact zup_s
        · rw [zup_n e]; exact hS k (by omega))
set_option maxHeartbeats 4000000 in
set_option maxRecDepth 100000 in
theorem ctX0_invertGreys (l : Launch) (D : va_G) (cB cI cZ cL : ClassId) (ad : Nat → Nat) (w h : Nat) (hs : Sz w h) (aG aS : Nat) (G S CB SB DK DR RE PF PK CO : Nat → Int) (rc pn kn cn : Int)  : mV l yX0_invertGreys wsX0_invertGreys rmX0_invertGreys D vwCl (tyl cB cI cZ cL) [.ref (ad 0)] (wX cB cI cZ ad w h aG aS G S CB SB DK DR RE PF PK CO rc pn kn cn) 0 0 (fun w1 => ∃ S' : Nat → Int, (∀ k, k < w * h → S' k = Int.bmod (255 - G k % 256) 256) ∧ w1 = wX cB cI cZ ad w h aG aS G S' CB SB DK DR RE PF PK CO rc pn kn cn) := by
  refine mV_of (own := RX0) rfl (by decide) rfl (Nat.le_of_ble_eq_true rfl) ?_
  intro p e s m args below meth c C hr hlocks hname
  show J p l e rmX0_invertGreys s m args below meth c _ 2 D vwCl _ 0 [(0, .ref (ad 0))] [] (wX cB cI cZ ad w h aG aS G S CB SB DK DR RE PF PK CO rc pn kn cn) 0 0
  refine j_iconst C eX0_invertGreys_0 ?_
  refine j_istore_n C eX0_invertGreys_1 rfl (by decide) (lv' := [(0, .ref (ad 0)), (1, .int (zI 0))]) rfl ?_
  refine lpX0_invertGreys C hs (fun S' hS' => ?_) (w * h + 1) 0 S (by omega) (by omega) (fun k hk => absurd hk (Nat.not_lt_zero _))
  exact j_vret C hr hlocks eX0_invertGreys_38 ⟨S', hS', rfl⟩
theorem hwsX0_halve : ∀ w ∈ u_ws RX0 TX0 16, w ∈ wsX0_halve := fun _ h => List.mem_cons_of_mem _ (List.mem_append_right _ h)
theorem kX0_halve_18 : Cond.fieldLink RX0 18 "SheetRows" (TX0 0).2.1 (TX0 0).2.2.1 ∈ wsX0_halve := by decide +kernel
theorem kX0_halve_22 : Cond.fieldLink RX0 22 "SheetRows" (TX0 1).2.1 (TX0 1).2.2.1 ∈ wsX0_halve := by decide +kernel
theorem kX0_halve_29 : Cond.fieldLink RX0 29 "SheetRows" (TX0 3).2.1 (TX0 3).2.2.1 ∈ wsX0_halve := by decide +kernel
abbrev rmX0_halve : Room := { frames := 1, cells := 0, slots := 0, locals := 23 }
/-- the mean of four greys, as a byte -/
def mn4 (w : Nat) (G : Nat → Int) (y x : Nat) : Int := Int.bmod ((G (2 * y * w + 2 * x) % 256 + G (2 * y * w + 2 * x + 1) % 256 + (G (2 * y * w + 2 * x + w) % 256 + G (2 * y * w + 2 * x + w + 1) % 256)) / 4) 256
/-- a halved sheet, as far as y, x -/
def hlv (w h : Nat) (G : Nat → Int) (y x : Nat) (S : Nat → Int) : Prop := ∀ y' x', x' < w → y' < h → S (y' * w + x') = if x' < w / 2 ∧ (y' < y ∨ (y' = y ∧ x' < x)) then mn4 w G y' x' else -1
theorem hlv_put {w h : Nat} {G : Nat → Int} {y x : Nat} {S : Nat → Int} (h0 : hlv w h G y x S) (hx : x < w / 2) : hlv w h G y (x + 1) (zup S (y * w + x) (mn4 w G y x)) := by
  intro y' x' hx' hy'
  by_cases e : y' * w + x' = y * w + x
  · obtain ⟨rfl, rfl⟩ := ix_inj hx' (by omega) e
    rw [zup_s, if_pos (by omega)]
  · rw [zup_n e, h0 y' x' hx' hy']
    have h1 : ¬ (y' = y ∧ x' = x) := fun q => e (by rw [q.1, q.2])
    by_cases c : x' < w / 2 ∧ (y' < y ∨ (y' = y ∧ x' < x))
    · rw [if_pos c, if_pos (by omega)]
    · rw [if_neg c, if_neg (by omega)]
theorem hlv_row {w h : Nat} {G : Nat → Int} {y : Nat} {S : Nat → Int} (h0 : hlv w h G y (w / 2) S) : hlv w h G (y + 1) 0 S := by
  intro y' x' hx' hy'
  rw [h0 y' x' hx' hy']
  by_cases c : x' < w / 2 ∧ (y' < y ∨ (y' = y ∧ x' < w / 2))
  · rw [if_pos c, if_pos (by omega)]
  · rw [if_neg c, if_neg (by omega)]
theorem ix2_lt {w h x y : Nat} (hx : x < w / 2) (hy : y < h / 2) : 2 * y * w + 2 * x + w + 1 < w * h := by
  have h1 := ix_lt (w := w) (h := h) (x := 2 * x + 1) (y := 2 * y + 1) (by omega) (by omega)
  have h2 : (2 * y + 1) * w = 2 * y * w + w := Nat.succ_mul _ _
  omega
set_option maxHeartbeats 4000000 in
set_option maxRecDepth 100000 in
theorem lqX0_halve {p : Program} {l : Launch} {e : Env} {s : State} {m : MethodId} {args : Array Value} {below : List Frame} {meth : Method} {c : Code} {Q : State → Prop} {D : va_G} {A : Nat → Prop} {cB cI cZ cL : ClassId} {w h : Nat} {ad : Nat → Nat} {aG aS : Nat} {G CB SB DK DR RE PF PK CO : Nat → Int} {rc pn kn cn : Int} (C : JC p m c cX0_halve 3 s args wsX0_halve RX0 D vwCl (tyl cB cI cZ cL) A) (hs : Sz w h) {y : Nat} (hy : y < h / 2) (kx : ∀ S : Nat → Int, hlv w h G y (w / 2) S → J p l e rmX0_halve s m args below meth c Q 3 D vwCl A 67 [(0, .ref (ad 0)), (1, .int (zI (y : Int))), (2, .int (zI ((w / 2) : Int)))] [] (wX cB cI cZ ad w h aG aS G S CB SB DK DR RE PF PK CO rc pn kn cn) 0 0) : ∀ (n x : Nat) (S : Nat → Int), x ≤ w / 2 → w / 2 - x < n → hlv w h G y x S → J p l e rmX0_halve s m args below meth c Q 3 D vwCl A 22 [(0, .ref (ad 0)), (1, .int (zI (y : Int))), (2, .int (zI (x : Int)))] [] (wX cB cI cZ ad w h aG aS G S CB SB DK DR RE PF PK CO rc pn kn cn) 0 0 := by
  have hm := hs.mul
  obtain ⟨h1, h2, h3, h4⟩ := id hs
  have hw2 : (w : Int).tdiv 2 = ((w / 2 : Nat) : Int) := by rw [Int.tdiv_eq_ediv_of_nonneg (by omega)]; omega
  intro n
  induction n with
  | zero => intro x S _ hn; exact absurd hn (Nat.not_lt_zero _)
  | succ n ih =>
    intro x S hx hn hS
    refine j_iload_n C eX0_halve_22 2 rfl ?_
    refine j_aload_n C eX0_halve_23 0 rfl ?_
    refine j_getf C hwsX0_halve 0 rfl rfl 0 (by decide) kX0_halve_18 rfl rfl eX0_halve_24 ?_
    refine j_iconst C eX0_halve_27 ?_
    refine j_idiv C eX0_halve_28 (by omega) (by omega) ?_
    refine j_icmp_ge C 67 eX0_halve_29 (by decide) (by omega) (by omega) (fun c29 => ?_) (fun c29 => ?_)
    ·
      have he : x = w / 2 := by omega
      subst he
      exact kx S hS
    ·
      have h7 := ix_lt (w := w) (h := h) (x := x) (y := y) (by omega) (by omega)
      refine j_aload_n C eX0_halve_32 0 rfl ?_
      refine j_getf C hwsX0_halve 0 rfl rfl 3 (by decide) kX0_halve_29 rfl rfl eX0_halve_33 ?_
      refine j_iload_n C eX0_halve_36 1 rfl ?_
      refine j_aload_n C eX0_halve_37 0 rfl ?_
      refine j_getf C hwsX0_halve 0 rfl rfl 0 (by decide) kX0_halve_18 rfl rfl eX0_halve_38 ?_
      refine j_imul C eX0_halve_41 ?_
      refine j_iload_n C eX0_halve_42 2 rfl ?_
      refine j_iadd C eX0_halve_43 ?_
      refine j_aload_n C eX0_halve_44 0 rfl ?_
      refine j_iconst C eX0_halve_45 ?_
      refine j_iload_n C eX0_halve_46 1 rfl ?_
      refine j_imul C eX0_halve_47 ?_
      refine j_aload_n C eX0_halve_48 0 rfl ?_
      refine j_getf C hwsX0_halve 0 rfl rfl 0 (by decide) kX0_halve_18 rfl rfl eX0_halve_49 ?_
      refine j_imul C eX0_halve_52 ?_
      refine j_iconst C eX0_halve_53 ?_
      refine j_iload_n C eX0_halve_54 2 rfl ?_
      refine j_imul C eX0_halve_55 ?_
      refine j_iadd C eX0_halve_56 ?_
      have e9 : 2 * (y : Int) * (w : Int) + 2 * (x : Int) = ((2 * y * w + 2 * x : Nat) : Int) := by push_cast; rfl
      rw [e9]
      refine j_callVi C (As := [.int (zI ((2 * y * w + 2 * x : Nat) : Int))]) (rest := [.int (zI (((y : Int) * (w : Int)) + (x : Int))), .ref aS]) (ctX0_meanOfFour l D cB cI cZ cL ad w h hs aG aS G S CB SB DK DR RE PF PK CO rc pn kn cn (2 * y * w + 2 * x) (by have := ix2_lt (w := w) (h := h) (x := x) (y := y) (by omega) hy; omega)) (cwV 1 C.1.2.2.2.2 gX0_halve_X0_meanOfFour rfl rfl rfl (by decide +kernel) ⟨Nat.le_of_ble_eq_true rfl, Nat.le_of_ble_eq_true rfl⟩) [0, 1, 2, 3, 4, 5, 6, 7, 8, 9, 10] [] (wr := []) rfl (by decide) rfl (by decide) (by decide) 0 rfl rfl rfl rfl (Nat.le_of_ble_eq_true rfl) eX0_halve_57 ⟨Nat.le_of_ble_eq_true rfl, Nat.le_of_ble_eq_true rfl⟩ (fun z w1 hp => ?_)
      obtain ⟨rfl, rfl⟩ := hp
      rw [List.nil_append]
      refine j_bast C 2 0 rfl rfl (y * w + x) (by push_cast; rfl) h7 (by omega) (nar_b (bm_in _)) eX0_halve_60 (wd' := wX cB cI cZ ad w h aG aS G (zup S (y * w + x) (mn4 w G y x)) CB SB DK DR RE PF PK CO rc pn kn cn) rfl ?_
      refine j_iinc C eX0_halve_61 2 rfl rfl (by decide) (lv' := [(0, .ref (ad 0)), (1, .int (zI (y : Int))), (2, .int (zI ((x : Int) + 1)))]) rfl ?_
      refine j_goto C 22 eX0_halve_64 (by decide) ?_
      exact ih (x + 1) _ (by omega) (by omega) (hlv_put hS (by omega))
set_option maxHeartbeats 4000000 in
set_option maxRecDepth 100000 in
theorem lpX0_halve {p : Program} {l : Launch} {e : Env} {s : State} {m : MethodId} {args : Array Value} {below : List Frame} {meth : Method} {c : Code} {Q : State → Prop} {D : va_G} {A : Nat → Prop} {cB cI cZ cL : ClassId} {w h : Nat} {ad : Nat → Nat} {aG aS : Nat} {G CB SB DK DR RE PF PK CO : Nat → Int} {rc pn kn cn : Int} (C : JC p m c cX0_halve 3 s args wsX0_halve RX0 D vwCl (tyl cB cI cZ cL) A) (hs : Sz w h) (kx : ∀ S : Nat → Int, hlv w h G (h / 2) 0 S → J p l e rmX0_halve s m args below meth c Q 3 D vwCl A 73 [(0, .ref (ad 0)), (1, .int (zI ((h / 2) : Int)))] [] (wX cB cI cZ ad w h aG aS G S CB SB DK DR RE PF PK CO rc pn kn cn) 0 0) : ∀ (n y : Nat) (S : Nat → Int), y ≤ h / 2 → h / 2 - y < n → hlv w h G y 0 S → J p l e rmX0_halve s m args below meth c Q 3 D vwCl A 10 [(0, .ref (ad 0)), (1, .int (zI (y : Int)))] [] (wX cB cI cZ ad w h aG aS G S CB SB DK DR RE PF PK CO rc pn kn cn) 0 0 := by
  have hm := hs.mul
  obtain ⟨h1, h2, h3, h4⟩ := id hs
  have hh2 : (h : Int).tdiv 2 = ((h / 2 : Nat) : Int) := by rw [Int.tdiv_eq_ediv_of_nonneg (by omega)]; omega
  intro n
  induction n with
  | zero => intro x S _ hn; exact absurd hn (Nat.not_lt_zero _)
  | succ n ih =>
    intro y S hy hn hS
    refine j_iload_n C eX0_halve_10 1 rfl ?_
    refine j_aload_n C eX0_halve_11 0 rfl ?_
    refine j_getf C hwsX0_halve 0 rfl rfl 1 (by decide) kX0_halve_22 rfl rfl eX0_halve_12 ?_
    refine j_iconst C eX0_halve_15 ?_
    refine j_idiv C eX0_halve_16 (by omega) (by omega) ?_
    refine j_icmp_ge C 73 eX0_halve_17 (by decide) (by omega) (by omega) (fun c17 => ?_) (fun c17 => ?_)
    ·
      have he : y = h / 2 := by omega
      subst he
      exact kx S hS
    ·
      refine j_iconst C eX0_halve_20 ?_
      refine j_istore_n C eX0_halve_21 rfl (by decide) (lv' := [(0, .ref (ad 0)), (1, .int (zI (y : Int))), (2, .int (zI 0))]) rfl ?_
      refine lqX0_halve C hs (by omega) (fun S hS => ?_) (w / 2 + 1) 0 S (by omega) (by omega) hS
      refine j_iinc C eX0_halve_67 1 rfl rfl (by decide) (lv' := [(0, .ref (ad 0)), (1, .int (zI ((y : Int) + 1))), (2, .int (zI ((w / 2) : Int)))]) rfl ?_
      refine j_goto C 10 eX0_halve_70 (by decide) ?_
      refine j_loc [0, 1] (lv' := [(0, .ref (ad 0)), (1, .int (zI ((y : Int) + 1)))]) rfl ?_
      exact ih (y + 1) S (by omega) (by omega) (hlv_row hS)
set_option maxHeartbeats 4000000 in
set_option maxRecDepth 100000 in
theorem ctX0_halve (l : Launch) (D : va_G) (cB cI cZ cL : ClassId) (ad : Nat → Nat) (w h : Nat) (hs : Sz w h) (aG aS : Nat) (G S CB SB DK DR RE PF PK CO : Nat → Int) (rc pn kn cn : Int)  : mV l yX0_halve wsX0_halve rmX0_halve D vwCl (tyl cB cI cZ cL) [.ref (ad 0)] (wX cB cI cZ ad w h aG aS G S CB SB DK DR RE PF PK CO rc pn kn cn) 0 0 (fun w1 => ∃ S' : Nat → Int, hlv w h G (h / 2) 0 S' ∧ w1 = wX cB cI cZ ad w h aG aS G S' CB SB DK DR RE PF PK CO rc pn kn cn) := by
  refine mV_of (own := RX0) rfl (by decide) rfl (Nat.le_of_ble_eq_true rfl) ?_
  intro p e s m args below meth c C hr hlocks hname
  show J p l e rmX0_halve s m args below meth c _ 3 D vwCl _ 0 [(0, .ref (ad 0))] [] (wX cB cI cZ ad w h aG aS G S CB SB DK DR RE PF PK CO rc pn kn cn) 0 0
  have hm := hs.mul
  refine j_aload_n C eX0_halve_0 0 rfl ?_
  refine j_getf C hwsX0_halve 0 rfl rfl 3 (by decide) kX0_halve_29 rfl rfl eX0_halve_1 ?_
  refine j_iconst C eX0_halve_4 ?_
  refine j_callSv C (As := [.ref aS, .int (zI (-1))]) (rest := []) (ctJ7_fill_031fb l D cB cI cZ cL aS (w * h) S (-1) (by omega) (by omega)) (va_cwS 2 C.1.2.2.2.2 gX0_halve_J7_fill_031fb rfl rfl rfl (by decide +kernel) ⟨Nat.le_of_ble_eq_true rfl, Nat.le_of_ble_eq_true rfl⟩) [2] [0, 1, 3, 4, 5, 6, 7, 8, 9, 10] (wr := ([0, 1, 3, 4, 5, 6, 7, 8, 9, 10].filterMap (fun i => (wX cB cI cZ ad w h aG aS G S CB SB DK DR RE PF PK CO rc pn kn cn)[i]?))) rfl (by decide) rfl (by decide) (by decide) rfl rfl (Nat.le_of_ble_eq_true rfl) eX0_halve_5 ⟨Nat.le_of_ble_eq_true rfl, Nat.le_of_ble_eq_true rfl⟩ (fun w1 hp => ?_)
  obtain ⟨S1, hS1, rfl⟩ := hp
  refine j_perm [0, 1, 10, 2, 3, 4, 5, 6, 7, 8, 9] (by decide) (wd' := wX cB cI cZ ad w h aG aS G S1 CB SB DK DR RE PF PK CO rc pn kn cn) rfl ?_
  refine j_iconst C eX0_halve_8 ?_
  refine j_istore_n C eX0_halve_9 rfl (by decide) (lv' := [(0, .ref (ad 0)), (1, .int (zI 0))]) rfl ?_
  refine lpX0_halve C hs (fun S' hS' => ?_) (h + 1) 0 S1 (by omega) (by omega) (fun y' x' hx' hy' => by rw [if_neg (by omega)]; exact hS1 _ (ix_lt hx' hy'))
  exact j_vret C hr hlocks eX0_halve_73 ⟨S', hS', rfl⟩
end
section
/-! PURE: sums, how often each grey comes, the threshold -/
def sumN (f : Nat → Int) : Nat → Int
  | 0 => 0
  | n + 1 => sumN f n + f n
theorem sumN_congr {f g : Nat → Int} : ∀ {n : Nat}, (∀ k, k < n → f k = g k) → sumN f n = sumN g n
  | 0, _ => rfl
  | n + 1, h => by
    show sumN f n + f n = sumN g n + g n
    rw [sumN_congr (fun k hk => h k (by omega)), h n (by omega)]
theorem sumN_add (f g : Nat → Int) : ∀ n, sumN (fun k => f k + g k) n = sumN f n + sumN g n
  | 0 => rfl
  | n + 1 => by
    show sumN (fun k => f k + g k) n + (f n + g n) = (sumN f n + f n) + (sumN g n + g n)
    rw [sumN_add f g n]; omega
theorem sumN_lin (c : Int) (f g : Nat → Int) : ∀ n, sumN (fun k => c * f k - g k) n = c * sumN f n - sumN g n
  | 0 => by show (0 : Int) = c * 0 - 0; rw [Int.mul_zero]; rfl
  | n + 1 => by
    show sumN (fun k => c * f k - g k) n + (c * f n - g n) = c * (sumN f n + f n) - (sumN g n + g n)
    rw [sumN_lin c f g n, Int.mul_add]; omega
theorem sumN_le {f g : Nat → Int} : ∀ {n : Nat}, (∀ k, k < n → f k ≤ g k) → sumN f n ≤ sumN g n
  | 0, _ => Int.le_refl _
  | n + 1, h => by
    show sumN f n + f n ≤ sumN g n + g n
    have h1 := sumN_le (n := n) (fun k hk => h k (by omega))
    have h2 := h n (by omega)
    omega
theorem sumN_c (c : Int) : ∀ n : Nat, sumN (fun _ => c) n = c * (n : Int)
  | 0 => by show (0 : Int) = c * 0; rw [Int.mul_zero]
  | n + 1 => by
    show sumN (fun _ => c) n + c = c * ((n + 1 : Nat) : Int)
    rw [sumN_c c n]; push_cast; rw [Int.mul_add, Int.mul_one]
theorem sumN_nn {f : Nat → Int} {n : Nat} (h : ∀ k, k < n → 0 ≤ f k) : 0 ≤ sumN f n := by
  have h1 := sumN_le (f := fun _ => 0) (g := f) (n := n) h
  rw [sumN_c, Int.zero_mul] at h1
  exact h1
def rs (f : Nat → Int) (a b : Nat) : Int := sumN f b - sumN f a
theorem rs_self (f : Nat → Int) (a : Nat) : rs f a a = 0 := by unfold rs; omega
theorem rs_succ (f : Nat → Int) (a b : Nat) : rs f a (b + 1) = rs f a b + f b := by
  show sumN f b + f b - sumN f a = sumN f b - sumN f a + f b
  omega
theorem rs_congr {f g : Nat → Int} {a b : Nat} (hab : a ≤ b) (h : ∀ u, a ≤ u → u < b → f u = g u) : rs f a b = rs g a b := by
  obtain ⟨d, rfl⟩ : ∃ d, b = a + d := ⟨b - a, by omega⟩
  induction d with
  | zero => rw [Nat.add_zero, rs_self, rs_self]
  | succ d ih =>
    rw [show a + (d + 1) = (a + d) + 1 from rfl, rs_succ, rs_succ, ih (by omega) (fun u h1 h2 => h u h1 (by omega)), h (a + d) (by omega) (by omega)]
theorem rs_le {f g : Nat → Int} {a b : Nat} (hab : a ≤ b) (h : ∀ u, a ≤ u → u < b → f u ≤ g u) : rs f a b ≤ rs g a b := by
  obtain ⟨d, rfl⟩ : ∃ d, b = a + d := ⟨b - a, by omega⟩
  induction d with
  | zero => rw [Nat.add_zero, rs_self, rs_self]; exact Int.le_refl _
  | succ d ih =>
    rw [show a + (d + 1) = (a + d) + 1 from rfl, rs_succ, rs_succ]
    have h1 := ih (by omega) (fun u h1 h2 => h u h1 (by omega))
    have h2 := h (a + d) (by omega) (by omega)
    omega
theorem rs_lin (c : Int) (f g : Nat → Int) (a b : Nat) : rs (fun k => c * f k - g k) a b = c * rs f a b - rs g a b := by
  unfold rs
  rw [sumN_lin, sumN_lin, Int.mul_sub]; omega
theorem rs_c0 (f : Nat → Int) (c : Int) (a b : Nat) : rs (fun k => c * f k) a b = c * rs f a b := by
  have h := rs_lin c f (fun _ => 0) a b
  have h2 : rs (fun _ => (0 : Int)) a b = 0 := by unfold rs; rw [sumN_c, sumN_c, Int.zero_mul, Int.zero_mul]; rfl
  rw [h2] at h
  simpa using h
theorem rs_nn {f : Nat → Int} {a b : Nat} (hab : a ≤ b) (h : ∀ u, a ≤ u → u < b → 0 ≤ f u) : 0 ≤ rs f a b := by
  have h1 := rs_le (f := fun _ => 0) (g := f) hab h
  have h2 : rs (fun _ => (0 : Int)) a b = 0 := by unfold rs; rw [sumN_c, sumN_c, Int.zero_mul, Int.zero_mul]; rfl
  omega
theorem rs_0 {f : Nat → Int} {a b : Nat} (hn : ∀ u, 0 ≤ f u) (h : rs f a b = 0) : ∀ u, a ≤ u → u < b → f u = 0 := by
  intro u h1 h2
  have e1 : rs f a b = rs f a u + f u + rs f (u + 1) b := by
    have := rs_succ f a u
    unfold rs at *
    omega
  have n1 := rs_nn (f := f) (a := a) (b := u) h1 (fun _ _ _ => hn _)
  have n2 := rs_nn (f := f) (a := u + 1) (b := b) (by omega) (fun _ _ _ => hn _)
  have n3 := hn u
  omega
/-- how many of the first n greys are v -/
def hst (g : Nat → Int) (n v : Nat) : Int := sumN (fun k => if g k = (v : Int) then 1 else 0) n
theorem hst_nn (g : Nat → Int) (n v : Nat) : 0 ≤ hst g n v := sumN_nn (fun k _ => by by_cases h : g k = (v : Int) <;> simp [h])
theorem hst_congr {g g' : Nat → Int} {n : Nat} (h : ∀ k, k < n → g k = g' k) : hst g n = hst g' n := by
  funext v
  exact sumN_congr (fun k hk => by rw [h k hk])
theorem dl (x : Int) : ∀ v : Nat, sumN (fun u => if x = (u : Int) then 1 else 0) v = if 0 ≤ x ∧ x < (v : Int) then 1 else 0
  | 0 => by rw [if_neg (by omega)]; rfl
  | v + 1 => by
    show sumN (fun u => if x = (u : Int) then 1 else 0) v + (if x = (v : Int) then 1 else 0) = _
    rw [dl x v]
    by_cases h1 : x = (v : Int)
    · rw [if_neg (by omega), if_pos h1, if_pos (by omega)]; rfl
    · rw [if_neg h1]
      by_cases h2 : 0 ≤ x ∧ x < (v : Int)
      · rw [if_pos h2, if_pos (by omega)]; rfl
      · rw [if_neg h2, if_neg (by omega)]; rfl
theorem hst_cum (g : Nat → Int) (v : Nat) : ∀ n, sumN (hst g n) v = sumN (fun k => if 0 ≤ g k ∧ g k < (v : Int) then 1 else 0) n
  | 0 => by
    show sumN (fun _ => (0 : Int)) v = 0
    rw [sumN_c, Int.zero_mul]
  | n + 1 => by
    show sumN (fun u => hst g n u + (if g n = (u : Int) then 1 else 0)) v = sumN (fun k => if 0 ≤ g k ∧ g k < (v : Int) then 1 else 0) n + (if 0 ≤ g n ∧ g n < (v : Int) then 1 else 0)
    rw [sumN_add, dl, hst_cum g v n]
theorem cum_in (g : Nat → Int) (n v : Nat) : 0 ≤ sumN (hst g n) v ∧ sumN (hst g n) v ≤ (n : Int) := by
  rw [hst_cum]
  constructor
  · exact sumN_nn (fun k _ => by by_cases h : 0 ≤ g k ∧ g k < (v : Int) <;> simp [h])
  · have h1 := sumN_le (f := fun k => if 0 ≤ g k ∧ g k < (v : Int) then 1 else 0) (g := fun _ => 1) (n := n) (fun k _ => by by_cases h : 0 ≤ g k ∧ g k < (v : Int) <;> simp [h])
    rw [sumN_c, Int.one_mul] at h1
    exact h1
theorem scum_in (g : Nat → Int) {n v : Nat} (hn : n ≤ 2304) (hv : v ≤ 256) : 0 ≤ sumN (fun u => (u : Int) * hst g n u) v ∧ sumN (fun u => (u : Int) * hst g n u) v ≤ 587520 := by
  constructor
  · exact sumN_nn (fun u _ => Int.mul_nonneg (by omega) (hst_nn g n u))
  · have h1 := sumN_le (f := fun u => (u : Int) * hst g n u) (g := fun u => 255 * hst g n u - 0) (n := v) (fun u hu => by
      show (u : Int) * hst g n u ≤ 255 * hst g n u - 0
      have := Int.mul_le_mul_of_nonneg_right (a := (u : Int)) (b := 255) (by omega) (hst_nn g n u)
      omega)
    rw [sumN_lin 255 (hst g n) (fun _ => 0), sumN_c, Int.zero_mul] at h1
    have h2 := cum_in g n v
    omega
/-- the mean of a lot, how far each is from it, the spread -/
def mnH (H : Nat → Int) (a b : Nat) : Int := if rs H a b = 0 then 0 else rs (fun u => (u : Int) * H u) a b / rs H a b
def dst (m : Int) (u : Nat) : Int := if (u : Int) < m then m - u else u - m
def far (H : Nat → Int) (a b : Nat) : Int := rs (fun u => H u * dst (mnH H a b) u) a b
def spr (H : Nat → Int) (t : Nat) : Int := far H 0 (t + 1) + far H (t + 1) 256
/-- the first place of the least -/
def am (f : Nat → Int) : Nat → Nat
  | 0 => 0
  | n + 1 => if f (n + 1) < f (am f n) then n + 1 else am f n
theorem am_le (f : Nat → Int) : ∀ n, am f n ≤ n
  | 0 => Nat.le_refl _
  | n + 1 => by
    have h := am_le f n
    unfold am
    split <;> omega
theorem thr_ex (g : Nat → Int) (n : Nat) : ∃ t : Nat, t = am (spr (hst g n)) 254 := ⟨_, rfl⟩
noncomputable def thr (g : Nat → Int) (n : Nat) : Nat := Classical.choose (thr_ex g n)
theorem thr_eq (g : Nat → Int) (n : Nat) : thr g n = am (spr (hst g n)) 254 := Classical.choose_spec (thr_ex g n)
theorem thr_le (g : Nat → Int) (n : Nat) : thr g n ≤ 254 := by rw [thr_eq]; exact am_le _ _
theorem thr_congr {g g' : Nat → Int} {n : Nat} (h : ∀ k, k < n → g k = g' k) : thr g n = thr g' n := by
  rw [thr_eq, thr_eq, hst_congr h]
theorem mn_in {H : Nat → Int} (hH : ∀ u, 0 ≤ H u) {a b : Nat} (hab : a ≤ b) (hp : 0 < rs H a b) : (a : Int) ≤ mnH H a b ∧ mnH H a b < (b : Int) := by
  unfold mnH
  rw [if_neg (by omega)]
  have h1 := rs_le (f := fun u => (a : Int) * H u) (g := fun u => (u : Int) * H u) hab (fun u h1 h2 => Int.mul_le_mul_of_nonneg_right (by omega) (hH u))
  have h2 := rs_le (f := fun u => (u : Int) * H u) (g := fun u => ((b : Int) - 1) * H u) hab (fun u h1 h2 => Int.mul_le_mul_of_nonneg_right (by omega) (hH u))
  rw [rs_c0] at h1 h2
  constructor
  · exact Int.le_ediv_of_mul_le hp h1
  · refine Int.ediv_lt_of_lt_mul hp ?_
    have h3 : ((b : Int) - 1) * rs H a b = (b : Int) * rs H a b - rs H a b := by rw [Int.sub_mul, Int.one_mul]
    omega
/-- the same by the counts and sums below -/
def lot (CB SB : Nat → Int) (a b : Nat) : Int := if CB b - CB a ≤ 0 then 0 else
  ((SB b - SB a) / (CB b - CB a)) * (CB (((SB b - SB a) / (CB b - CB a)).toNat + 1) - CB a) - (SB (((SB b - SB a) / (CB b - CB a)).toNat + 1) - SB a) + (SB b - SB (((SB b - SB a) / (CB b - CB a)).toNat + 1) - ((SB b - SB a) / (CB b - CB a)) * (CB b - CB (((SB b - SB a) / (CB b - CB a)).toNat + 1)))
/-- the tally: of each v up to 256, how many greys are below and their sum -/
def tly (g : Nat → Int) (n : Nat) (CB SB : Nat → Int) : Prop := ∀ v, v ≤ 256 → CB v = sumN (hst g n) v ∧ SB v = sumN (fun u => (u : Int) * hst g n u) v
theorem lot_far {g : Nat → Int} {n : Nat} {CB SB : Nat → Int} (ht : tly g n CB SB) {a b : Nat} (hab : a ≤ b) (hb : b ≤ 256) : lot CB SB a b = far (hst g n) a b := by
  have hH := hst_nn g n
  have e1 : CB b - CB a = rs (hst g n) a b := by rw [(ht b hb).1, (ht a (by omega)).1]; rfl
  have e2 : SB b - SB a = rs (fun u => (u : Int) * hst g n u) a b := by rw [(ht b hb).2, (ht a (by omega)).2]; rfl
  have hnn := rs_nn (f := hst g n) hab (fun u _ _ => hH u)
  unfold lot
  rw [e1, e2]
  by_cases h0 : rs (hst g n) a b ≤ 0
  · rw [if_pos h0]
    have hz := rs_0 hH (show rs (hst g n) a b = 0 by omega)
    unfold far
    rw [rs_congr (g := fun _ => 0 * (0 : Int)) hab (fun u h1 h2 => by rw [hz u h1 h2, Int.zero_mul, Int.zero_mul]), rs_c0, Int.zero_mul]
  · rw [if_neg h0]
    have hp : 0 < rs (hst g n) a b := by omega
    obtain ⟨m1, m2⟩ := mn_in hH hab hp
    have hm : rs (fun u => (u : Int) * hst g n u) a b / rs (hst g n) a b = mnH (hst g n) a b := by unfold mnH; rw [if_neg (by omega)]
    rw [hm]
    obtain ⟨k, hk⟩ : ∃ k : Nat, mnH (hst g n) a b = (k : Int) := ⟨(mnH (hst g n) a b).toNat, by omega⟩
    have hak : a ≤ k := by omega
    have hkb : k < b := by omega
    unfold far
    rw [hk, Int.toNat_natCast]
    have c1 := rs_congr (f := fun u => hst g n u * dst (k : Int) u) (g := fun u => (k : Int) * hst g n u - (u : Int) * hst g n u) (a := a) (b := k + 1) (by omega) (fun u h1 h2 => by
      show hst g n u * dst (k : Int) u = (k : Int) * hst g n u - (u : Int) * hst g n u
      have hd : dst (k : Int) u = (k : Int) - u := by unfold dst; split <;> omega
      rw [hd, Int.mul_sub, Int.mul_comm (hst g n u) (k : Int), Int.mul_comm (hst g n u) (u : Int)])
    have c2 := rs_congr (f := fun u => hst g n u * dst (k : Int) u) (g := fun u => (-1) * ((k : Int) * hst g n u - (u : Int) * hst g n u) - 0) (a := k + 1) (b := b) (by omega) (fun u h1 h2 => by
      show hst g n u * dst (k : Int) u = (-1) * ((k : Int) * hst g n u - (u : Int) * hst g n u) - 0
      have hd : dst (k : Int) u = (u : Int) - k := by unfold dst; split <;> omega
      rw [hd, Int.mul_sub, Int.mul_comm (hst g n u) (k : Int), Int.mul_comm (hst g n u) (u : Int)]
      omega)
    rw [rs_lin] at c1
    rw [rs_lin, rs_lin] at c2
    have hz : rs (fun _ => (0 : Int)) (k + 1) b = 0 := by unfold rs; rw [sumN_c, sumN_c, Int.zero_mul, Int.zero_mul]; rfl
    have hcat : rs (fun u => hst g n u * dst (k : Int) u) a b = rs (fun u => hst g n u * dst (k : Int) u) a (k + 1) + rs (fun u => hst g n u * dst (k : Int) u) (k + 1) b := by unfold rs; omega
    have f1 : CB (k + 1) - CB a = rs (hst g n) a (k + 1) := by rw [(ht (k + 1) (by omega)).1, (ht a (by omega)).1]; rfl
    have f2 : SB (k + 1) - SB a = rs (fun u => (u : Int) * hst g n u) a (k + 1) := by rw [(ht (k + 1) (by omega)).2, (ht a (by omega)).2]; rfl
    have f3 : CB b - CB (k + 1) = rs (hst g n) (k + 1) b := by rw [(ht (k + 1) (by omega)).1, (ht b (by omega)).1]; rfl
    have f4 : SB b - SB (k + 1) = rs (fun u => (u : Int) * hst g n u) (k + 1) b := by rw [(ht (k + 1) (by omega)).2, (ht b (by omega)).2]; rfl
    rw [f1, f2, f3, f4, hcat, c1, c2, hz]
    omega
/-- bounds of a spread -/
theorem far_in (g : Nat → Int) {n : Nat} (hn : n ≤ 2304) {a b : Nat} (hab : a ≤ b) (hb : b ≤ 256) : 0 ≤ far (hst g n) a b ∧ far (hst g n) a b ≤ 589824 := by
  have hH := hst_nn g n
  have hnn := rs_nn (f := hst g n) hab (fun u _ _ => hH u)
  have hm : 0 ≤ mnH (hst g n) a b ∧ mnH (hst g n) a b ≤ 256 := by
    by_cases h0 : rs (hst g n) a b = 0
    · unfold mnH; rw [if_pos h0]; omega
    · have := mn_in hH hab (by omega); omega
  have hd : ∀ u : Nat, u < b → 0 ≤ dst (mnH (hst g n) a b) u ∧ dst (mnH (hst g n) a b) u ≤ 256 := fun u hu => by unfold dst; split <;> omega
  unfold far
  constructor
  · exact rs_nn hab (fun u h1 h2 => Int.mul_nonneg (hH u) (hd u h2).1)
  · have h1 := rs_le (f := fun u => hst g n u * dst (mnH (hst g n) a b) u) (g := fun u => 256 * hst g n u) hab (fun u h1 h2 => by
      show hst g n u * dst (mnH (hst g n) a b) u ≤ 256 * hst g n u
      rw [Int.mul_comm 256]
      exact Int.mul_le_mul_of_nonneg_left (hd u h2).2 (hH u))
    rw [rs_c0] at h1
    have h2 := cum_in g n a
    have h3 := cum_in g n b
    have h4 : rs (hst g n) a b = sumN (hst g n) b - sumN (hst g n) a := rfl
    omega
end
section
/-! THE CLASS: tally, spread, threshold, dark -/
abbrev ivt (g : Nat → Int) (n : Nat) : Prop := (n : Int) < 2 * sumN (hst g n) (thr g n + 1)
/-- 1 where a grey is dark -/
noncomputable def dkf (g : Nat → Int) (n k : Nat) : Int := if (g k ≤ ((thr g n : Nat) : Int) ↔ ¬ ivt g n) then 1 else 0
theorem ivt_congr {g g' : Nat → Int} {n : Nat} (h : ∀ k, k < n → g k = g' k) : ivt g n ↔ ivt g' n := by
  unfold ivt
  rw [hst_congr h, thr_congr h]
theorem dkf_congr {g g' : Nat → Int} {n : Nat} (h : ∀ k, k < n → g k = g' k) {k : Nat} (hk : k < n) : dkf g n k = dkf g' n k := by
  unfold dkf
  have e := ivt_congr h
  have e1 := thr_congr h
  have e2 := h k hk
  by_cases c : (g k ≤ ((thr g n : Nat) : Int) ↔ ¬ ivt g n)
  · rw [if_pos c, if_pos]
    rw [← e1, ← e2]
    exact c.trans (not_congr e)
  · rw [if_neg c, if_neg]
    intro q
    rw [← e1, ← e2] at q
    exact c (q.trans (not_congr e.symm))
theorem dkf_01 (g : Nat → Int) (n k : Nat) : dkf g n k = 0 ∨ dkf g n k = 1 := by unfold dkf; split <;> simp
theorem hwsX0_tallyGreys : ∀ w ∈ u_ws RX0 TX0 16, w ∈ wsX0_tallyGreys := fun _ h => List.mem_cons_of_mem _ (List.mem_append_right _ h)
theorem kX0_tallyGreys_25 : Cond.fieldLink RX0 25 "SheetRows" (TX0 2).2.1 (TX0 2).2.2.1 ∈ wsX0_tallyGreys := by decide +kernel
theorem kX0_tallyGreys_32 : Cond.fieldLink RX0 32 "SheetRows" (TX0 4).2.1 (TX0 4).2.2.1 ∈ wsX0_tallyGreys := by decide +kernel
theorem kX0_tallyGreys_36 : Cond.fieldLink RX0 36 "SheetRows" (TX0 5).2.1 (TX0 5).2.2.1 ∈ wsX0_tallyGreys := by decide +kernel
abbrev rmX0_tallyGreys : Room := { frames := 1, cells := 0, slots := 0, locals := 23 }
set_option maxHeartbeats 4000000 in
set_option maxRecDepth 100000 in
theorem lqX0_tallyGreys {p : Program} {l : Launch} {e : Env} {s : State} {m : MethodId} {args : Array Value} {below : List Frame} {meth : Method} {c : Code} {Q : State → Prop} {D : va_G} {A : Nat → Prop} {cB cI cZ cL : ClassId} {w h : Nat} {ad : Nat → Nat} {aG aS : Nat} {G S SB DK DR RE PF PK CO : Nat → Int} {rc pn kn cn : Int} (C : JC p m c cX0_tallyGreys 2 s args wsX0_tallyGreys RX0 D vwCl (tyl cB cI cZ cL) A) (hs : Sz w h) (kx : ∀ CB : Nat → Int, CB 0 = 0 → (∀ v, v < 256 → CB (v + 1) = hst (fun k => G k % 256) (w * h) v) → J p l e rmX0_tallyGreys s m args below meth c Q 2 D vwCl A 46 [(0, .ref (ad 0)), (1, .int (zI ((w * h) : Int)))] [] (wX cB cI cZ ad w h aG aS G S CB SB DK DR RE PF PK CO rc pn kn cn) 0 0) : ∀ (n i : Nat) (CB : Nat → Int), i ≤ w * h → w * h - i < n → CB 0 = 0 → (∀ v, v < 256 → CB (v + 1) = hst (fun k => G k % 256) i v) → J p l e rmX0_tallyGreys s m args below meth c Q 2 D vwCl A 10 [(0, .ref (ad 0)), (1, .int (zI (i : Int)))] [] (wX cB cI cZ ad w h aG aS G S CB SB DK DR RE PF PK CO rc pn kn cn) 0 0 := by
  have hm := hs.mul
  intro n
  induction n with
  | zero => intro i CB _ hn; exact absurd hn (Nat.not_lt_zero _)
  | succ n ih =>
    intro i CB hi hn h0 hCB
    refine j_iload_n C eX0_tallyGreys_10 1 rfl ?_
    refine j_aload_n C eX0_tallyGreys_11 0 rfl ?_
    refine j_getf C hwsX0_tallyGreys 0 rfl rfl 2 (by decide) kX0_tallyGreys_25 rfl rfl eX0_tallyGreys_12 ?_
    refine j_alen C 1 0 rfl rfl eX0_tallyGreys_15 ?_
    refine j_icmp_ge C 46 eX0_tallyGreys_16 (by decide) (by omega) (by omega) (fun c16 => ?_) (fun c16 => ?_)
    ·
      have he : i = w * h := by omega
      subst he
      exact kx CB h0 hCB
    ·
      refine j_aload_n C eX0_tallyGreys_19 0 rfl ?_
      refine j_getf C hwsX0_tallyGreys 0 rfl rfl 4 (by decide) kX0_tallyGreys_32 rfl rfl eX0_tallyGreys_20 ?_
      refine j_aload_n C eX0_tallyGreys_23 0 rfl ?_
      refine j_getf C hwsX0_tallyGreys 0 rfl rfl 2 (by decide) kX0_tallyGreys_25 rfl rfl eX0_tallyGreys_24 ?_
      refine j_iload_n C eX0_tallyGreys_27 1 rfl ?_
      refine j_bald C 1 0 rfl rfl i rfl (by omega) (by omega) eX0_tallyGreys_28 ?_
      refine j_sipush C eX0_tallyGreys_29 (by decide +kernel) ?_
      refine j_and255 C eX0_tallyGreys_32 ?_
      refine j_iconst C eX0_tallyGreys_33 ?_
      refine j_iadd C eX0_tallyGreys_34 ?_
      refine j_dup2 C eX0_tallyGreys_35 rfl rfl ?_
      refine j_iald C 3 1 rfl rfl ((G i % 256).toNat + 1) (by omega) (by omega) (by omega) eX0_tallyGreys_36 ?_
      refine j_iconst C eX0_tallyGreys_37 ?_
      refine j_iadd C eX0_tallyGreys_38 ?_
      refine j_iast C 3 1 rfl rfl ((G i % 256).toNat + 1) (by omega) (by omega) (by omega) eX0_tallyGreys_39 (wd' := wX cB cI cZ ad w h aG aS G S (zup CB ((G i % 256).toNat + 1) ((CB ((G i % 256).toNat + 1)) + 1)) SB DK DR RE PF PK CO rc pn kn cn) rfl ?_
      refine j_iinc C eX0_tallyGreys_40 1 rfl rfl (by decide) (lv' := [(0, .ref (ad 0)), (1, .int (zI ((i : Int) + 1)))]) rfl ?_
      refine j_goto C 10 eX0_tallyGreys_43 (by decide) ?_
      refine ih (i + 1) _ (by omega) (by omega) ?_ ?_
      · rw [zup_n (by omega)]; exact h0
      · intro v hv
        have e1 : hst (fun k => G k % 256) (i + 1) v = hst (fun k => G k % 256) i v + if G i % 256 = (v : Int) then 1 else 0 := rfl
        rw [e1]
        by_cases e : v = (G i % 256).toNat
        · subst e
          rw [zup_s, hCB _ hv, if_pos (by omega)]
        · rw [zup_n (by omega), hCB v hv, if_neg (by omega)]; omega
set_option maxHeartbeats 4000000 in
set_option maxRecDepth 100000 in
theorem lrX0_tallyGreys {p : Program} {l : Launch} {e : Env} {s : State} {m : MethodId} {args : Array Value} {below : List Frame} {meth : Method} {c : Code} {Q : State → Prop} {D : va_G} {A : Nat → Prop} {cB cI cZ cL : ClassId} {w h : Nat} {ad : Nat → Nat} {aG aS : Nat} {G S DK DR RE PF PK CO : Nat → Int} {rc pn kn cn : Int} (C : JC p m c cX0_tallyGreys 2 s args wsX0_tallyGreys RX0 D vwCl (tyl cB cI cZ cL) A) (hs : Sz w h) (kx : ∀ CB SB : Nat → Int, tly (fun k => G k % 256) (w * h) CB SB → J p l e rmX0_tallyGreys s m args below meth c Q 2 D vwCl A 110 [(0, .ref (ad 0)), (1, .int (zI 257))] [] (wX cB cI cZ ad w h aG aS G S CB SB DK DR RE PF PK CO rc pn kn cn) 0 0) : ∀ (n u : Nat) (CB SB : Nat → Int), u ≤ 256 → 256 - u < n → (∀ v, v ≤ u → CB v = sumN (hst (fun k => G k % 256) (w * h)) v ∧ SB v = sumN (fun u => (u : Int) * (hst (fun k => G k % 256) (w * h)) u) v) → (∀ v, u ≤ v → v < 256 → CB (v + 1) = (hst (fun k => G k % 256) (w * h)) v) → J p l e rmX0_tallyGreys s m args below meth c Q 2 D vwCl A 55 [(0, .ref (ad 0)), (1, .int (zI ((u + 1) : Int)))] [] (wX cB cI cZ ad w h aG aS G S CB SB DK DR RE PF PK CO rc pn kn cn) 0 0 := by
  have hm := hs.mul
  intro n
  induction n with
  | zero => intro u CB SB _ hn; exact absurd hn (Nat.not_lt_zero _)
  | succ n ih =>
    intro u CB SB hu hn hA hB
    refine j_iload_n C eX0_tallyGreys_55 1 rfl ?_
    refine j_sipush C eX0_tallyGreys_56 (by decide +kernel) ?_
    refine j_icmp_gt C 110 eX0_tallyGreys_59 (by decide) (by omega) (by omega) (fun c59 => ?_) (fun c59 => ?_)
    ·
      have he : u = 256 := by omega
      subst he
      exact kx CB SB hA
    ·
      refine j_aload_n C eX0_tallyGreys_62 0 rfl ?_
      refine j_getf C hwsX0_tallyGreys 0 rfl rfl 5 (by decide) kX0_tallyGreys_36 rfl rfl eX0_tallyGreys_63 ?_
      refine j_iload_n C eX0_tallyGreys_66 1 rfl ?_
      refine j_aload_n C eX0_tallyGreys_67 0 rfl ?_
      refine j_getf C hwsX0_tallyGreys 0 rfl rfl 5 (by decide) kX0_tallyGreys_36 rfl rfl eX0_tallyGreys_68 ?_
      refine j_iload_n C eX0_tallyGreys_71 1 rfl ?_
      refine j_iconst C eX0_tallyGreys_72 ?_
      refine j_isub C eX0_tallyGreys_73 ?_
      refine j_iald C 4 1 rfl rfl u (by omega) (by omega) (by omega) eX0_tallyGreys_74 ?_
      refine j_aload_n C eX0_tallyGreys_75 0 rfl ?_
      refine j_getf C hwsX0_tallyGreys 0 rfl rfl 4 (by decide) kX0_tallyGreys_32 rfl rfl eX0_tallyGreys_76 ?_
      refine j_iload_n C eX0_tallyGreys_79 1 rfl ?_
      refine j_iald C 3 1 rfl rfl (u + 1) rfl (by omega) (by omega) eX0_tallyGreys_80 ?_
      refine j_iload_n C eX0_tallyGreys_81 1 rfl ?_
      refine j_iconst C eX0_tallyGreys_82 ?_
      refine j_isub C eX0_tallyGreys_83 ?_
      refine j_imul C eX0_tallyGreys_84 ?_
      refine j_iadd C eX0_tallyGreys_85 ?_
      refine j_iast C 4 1 rfl rfl (u + 1) rfl (by omega) (by omega) eX0_tallyGreys_86 (wd' := wX cB cI cZ ad w h aG aS G S CB (zup SB (u + 1) ((SB u) + ((CB (u + 1)) * (((u + 1) : Int) - 1)))) DK DR RE PF PK CO rc pn kn cn) rfl ?_
      refine j_aload_n C eX0_tallyGreys_87 0 rfl ?_
      refine j_getf C hwsX0_tallyGreys 0 rfl rfl 4 (by decide) kX0_tallyGreys_32 rfl rfl eX0_tallyGreys_88 ?_
      refine j_iload_n C eX0_tallyGreys_91 1 rfl ?_
      refine j_dup2 C eX0_tallyGreys_92 rfl rfl ?_
      refine j_iald C 3 1 rfl rfl (u + 1) rfl (by omega) (by omega) eX0_tallyGreys_93 ?_
      refine j_aload_n C eX0_tallyGreys_94 0 rfl ?_
      refine j_getf C hwsX0_tallyGreys 0 rfl rfl 4 (by decide) kX0_tallyGreys_32 rfl rfl eX0_tallyGreys_95 ?_
      refine j_iload_n C eX0_tallyGreys_98 1 rfl ?_
      refine j_iconst C eX0_tallyGreys_99 ?_
      refine j_isub C eX0_tallyGreys_100 ?_
      refine j_iald C 3 1 rfl rfl u (by omega) (by omega) (by omega) eX0_tallyGreys_101 ?_
      refine j_iadd C eX0_tallyGreys_102 ?_
      refine j_iast C 3 1 rfl rfl (u + 1) rfl (by omega) (by omega) eX0_tallyGreys_103 (wd' := wX cB cI cZ ad w h aG aS G S (zup CB (u + 1) ((CB (u + 1)) + (CB u))) (zup SB (u + 1) ((SB u) + ((CB (u + 1)) * (((u + 1) : Int) - 1)))) DK DR RE PF PK CO rc pn kn cn) rfl ?_
      refine j_iinc C eX0_tallyGreys_104 1 rfl rfl (by decide) (lv' := [(0, .ref (ad 0)), (1, .int (zI (((u + 1) : Int) + 1)))]) rfl ?_
      refine j_goto C 55 eX0_tallyGreys_107 (by decide) ?_
      refine ih (u + 1) _ _ (by omega) (by omega) ?_ ?_
      · intro v hv
        by_cases e : v = u + 1
        · subst e
          rw [zup_s, zup_s, hB u (by omega) (by omega), (hA u (by omega)).1, (hA u (by omega)).2]
          constructor
          · show (hst (fun k => G k % 256) (w * h)) u + sumN (hst (fun k => G k % 256) (w * h)) u = sumN (hst (fun k => G k % 256) (w * h)) u + (hst (fun k => G k % 256) (w * h)) u
            omega
          · show _ = sumN (fun u => (u : Int) * (hst (fun k => G k % 256) (w * h)) u) u + (u : Int) * (hst (fun k => G k % 256) (w * h)) u
            rw [show ((u : Int) + 1) - 1 = (u : Int) by omega, Int.mul_comm ((hst (fun k => G k % 256) (w * h)) u)]
        · rw [zup_n e, zup_n e]
          exact hA v (by omega)
      · intro v h1 h2
        rw [zup_n (by omega)]
        exact hB v (by omega) h2
set_option maxHeartbeats 4000000 in
set_option maxRecDepth 100000 in
theorem ctX0_tallyGreys (l : Launch) (D : va_G) (cB cI cZ cL : ClassId) (ad : Nat → Nat) (w h : Nat) (hs : Sz w h) (aG aS : Nat) (G S CB SB DK DR RE PF PK CO : Nat → Int) (rc pn kn cn : Int)  : mV l yX0_tallyGreys wsX0_tallyGreys rmX0_tallyGreys D vwCl (tyl cB cI cZ cL) [.ref (ad 0)] (wX cB cI cZ ad w h aG aS G S CB SB DK DR RE PF PK CO rc pn kn cn) 0 0 (fun w1 => ∃ CB' SB' : Nat → Int, tly (fun k => G k % 256) (w * h) CB' SB' ∧ w1 = wX cB cI cZ ad w h aG aS G S CB' SB' DK DR RE PF PK CO rc pn kn cn) := by
  refine mV_of (own := RX0) rfl (by decide) rfl (Nat.le_of_ble_eq_true rfl) ?_
  intro p e s m args below meth c C hr hlocks hname
  show J p l e rmX0_tallyGreys s m args below meth c _ 2 D vwCl _ 0 [(0, .ref (ad 0))] [] (wX cB cI cZ ad w h aG aS G S CB SB DK DR RE PF PK CO rc pn kn cn) 0 0
  have hm := hs.mul
  refine j_aload_n C eX0_tallyGreys_0 0 rfl ?_
  refine j_getf C hwsX0_tallyGreys 0 rfl rfl 4 (by decide) kX0_tallyGreys_32 rfl rfl eX0_tallyGreys_1 ?_
  refine j_iconst C eX0_tallyGreys_4 ?_
  refine j_callSv C (As := [.ref (ad 4), .int (zI 0)]) (rest := []) (ctJ7_fill_53178 l D cB cI cZ cL (ad 4) 257 CB 0 (by omega)) (va_cwS 2 C.1.2.2.2.2 gX0_tallyGreys_J7_fill_53178 rfl rfl rfl (by decide +kernel) ⟨Nat.le_of_ble_eq_true rfl, Nat.le_of_ble_eq_true rfl⟩) [3] [0, 1, 2, 4, 5, 6, 7, 8, 9, 10] (wr := ([0, 1, 2, 4, 5, 6, 7, 8, 9, 10].filterMap (fun i => (wX cB cI cZ ad w h aG aS G S CB SB DK DR RE PF PK CO rc pn kn cn)[i]?))) rfl (by decide) rfl (by decide) (by decide) rfl rfl (Nat.le_of_ble_eq_true rfl) eX0_tallyGreys_5 ⟨Nat.le_of_ble_eq_true rfl, Nat.le_of_ble_eq_true rfl⟩ (fun w1 hp => ?_)
  obtain ⟨CB1, hCB1, rfl⟩ := hp
  refine j_perm [0, 1, 2, 10, 3, 4, 5, 6, 7, 8, 9] (by decide) (wd' := wX cB cI cZ ad w h aG aS G S CB1 SB DK DR RE PF PK CO rc pn kn cn) rfl ?_
  refine j_iconst C eX0_tallyGreys_8 ?_
  refine j_istore_n C eX0_tallyGreys_9 rfl (by decide) (lv' := [(0, .ref (ad 0)), (1, .int (zI 0))]) rfl ?_
  refine lqX0_tallyGreys C hs (fun CB2 h0 hCB2 => ?_) (w * h + 1) 0 CB1 (by omega) (by omega) (hCB1 0 (by omega)) (fun v hv => by rw [hCB1 (v + 1) (by omega)]; rfl)
  refine j_aload_n C eX0_tallyGreys_46 0 rfl ?_
  refine j_getf C hwsX0_tallyGreys 0 rfl rfl 5 (by decide) kX0_tallyGreys_36 rfl rfl eX0_tallyGreys_47 ?_
  refine j_iconst C eX0_tallyGreys_50 ?_
  refine j_iconst C eX0_tallyGreys_51 ?_
  refine j_iast C 4 1 rfl rfl 0 rfl (by omega) (by omega) eX0_tallyGreys_52 (wd' := wX cB cI cZ ad w h aG aS G S CB2 (zup SB 0 0) DK DR RE PF PK CO rc pn kn cn) rfl ?_
  refine j_iconst C eX0_tallyGreys_53 ?_
  refine j_istore_n C eX0_tallyGreys_54 rfl (by decide) (lv' := [(0, .ref (ad 0)), (1, .int (zI 1))]) rfl ?_
  refine lrX0_tallyGreys C hs (fun CB' SB' ht => ?_) 257 0 _ _ (by omega) (by omega) (fun v hv => by
    have e : v = 0 := by omega
    subst e
    exact ⟨h0, zup_s⟩) (fun v _ hv => hCB2 v hv)
  exact j_vret C hr hlocks eX0_tallyGreys_110 ⟨CB', SB', ht, rfl⟩
theorem hwsX0_spreadOfLot : ∀ w ∈ u_ws RX0 TX0 16, w ∈ wsX0_spreadOfLot := fun _ h => List.mem_cons_of_mem _ (List.mem_append_right _ h)
theorem kX0_spreadOfLot_32 : Cond.fieldLink RX0 32 "SheetRows" (TX0 4).2.1 (TX0 4).2.2.1 ∈ wsX0_spreadOfLot := by decide +kernel
theorem kX0_spreadOfLot_36 : Cond.fieldLink RX0 36 "SheetRows" (TX0 5).2.1 (TX0 5).2.2.1 ∈ wsX0_spreadOfLot := by decide +kernel
abbrev rmX0_spreadOfLot : Room := { frames := 0, cells := 0, slots := 0, locals := 0 }
set_option maxHeartbeats 4000000 in
set_option maxRecDepth 100000 in
theorem ctX0_spreadOfLot (l : Launch) (D : va_G) (cB cI cZ cL : ClassId) (ad : Nat → Nat) (w h : Nat) (hs : Sz w h) (aG aS : Nat) (G S CB SB DK DR RE PF PK CO : Nat → Int) (rc pn kn cn : Int) (g : Nat → Int) (n : Nat) (hn : n ≤ 2304) (ht : tly g n CB SB) (a b : Nat) (hab : a ≤ b) (hb : b ≤ 256) : mI l yX0_spreadOfLot wsX0_spreadOfLot rmX0_spreadOfLot D vwCl (tyl cB cI cZ cL) [.ref (ad 0), .int (zI (a : Int)), .int (zI (b : Int))] (wX cB cI cZ ad w h aG aS G S CB SB DK DR RE PF PK CO rc pn kn cn) 0 0 (fun z w1 => w1 = wX cB cI cZ ad w h aG aS G S CB SB DK DR RE PF PK CO rc pn kn cn ∧ z = far (hst g n) a b) := by
  refine mI_of (own := RX0) rfl (by decide) rfl (Nat.le_of_ble_eq_true rfl) ?_
  intro p e s m args below meth c C hr hlocks hname
  show J p l e rmX0_spreadOfLot s m args below meth c _ 8 D vwCl _ 0 [(0, .ref (ad 0)), (1, .int (zI (a : Int))), (2, .int (zI (b : Int)))] [] (wX cB cI cZ ad w h aG aS G S CB SB DK DR RE PF PK CO rc pn kn cn) 0 0
  have hm := hs.mul
  have bnd : ∀ v, v ≤ 256 → (0 ≤ CB v ∧ CB v ≤ 2304) ∧ (0 ≤ SB v ∧ SB v ≤ 587520) := fun v hv => by
    rw [(ht v hv).1, (ht v hv).2]
    have h1 := cum_in g n v
    exact ⟨by omega, scum_in g hn hv⟩
  have ba := bnd a (by omega)
  have bb := bnd b hb
  refine j_aload_n C eX0_spreadOfLot_0 0 rfl ?_
  refine j_getf C hwsX0_spreadOfLot 0 rfl rfl 4 (by decide) kX0_spreadOfLot_32 rfl rfl eX0_spreadOfLot_1 ?_
  refine j_iload_n C eX0_spreadOfLot_4 2 rfl ?_
  refine j_iald C 3 1 rfl rfl b rfl (by omega) (by omega) eX0_spreadOfLot_5 ?_
  refine j_aload_n C eX0_spreadOfLot_6 0 rfl ?_
  refine j_getf C hwsX0_spreadOfLot 0 rfl rfl 4 (by decide) kX0_spreadOfLot_32 rfl rfl eX0_spreadOfLot_7 ?_
  refine j_iload_n C eX0_spreadOfLot_10 1 rfl ?_
  refine j_iald C 3 1 rfl rfl a rfl (by omega) (by omega) eX0_spreadOfLot_11 ?_
  refine j_isub C eX0_spreadOfLot_12 ?_
  refine j_istore_n C eX0_spreadOfLot_13 rfl (by decide) (lv' := [(0, .ref (ad 0)), (1, .int (zI (a : Int))), (2, .int (zI (b : Int))), (3, .int (zI ((CB b) - (CB a))))]) rfl ?_
  refine j_iload_n C eX0_spreadOfLot_14 3 rfl ?_
  refine j_if_gt C 20 eX0_spreadOfLot_15 (by decide) (by omega) (fun c15 => ?_) (fun c15 => ?_)
  ·
    have hH := hst_nn g n
    have e1 : CB b - CB a = rs (hst g n) a b := by rw [(ht b hb).1, (ht a (by omega)).1]; rfl
    have e2 : SB b - SB a = rs (fun u => (u : Int) * hst g n u) a b := by rw [(ht b hb).2, (ht a (by omega)).2]; rfl
    have hsn : 0 ≤ SB b - SB a := by rw [e2]; exact rs_nn hab (fun u _ _ => Int.mul_nonneg (by omega) (hH u))
    have hmn := mn_in hH hab (by omega)
    have hmd : (SB b - SB a) / (CB b - CB a) = mnH (hst g n) a b := by unfold mnH; rw [if_neg (by omega), e1, e2]
    obtain ⟨k, hk⟩ : ∃ k : Nat, (SB b - SB a) / (CB b - CB a) = (k : Int) := ⟨((SB b - SB a) / (CB b - CB a)).toNat, by omega⟩
    have hkb : k < b := by omega
    refine j_aload_n C eX0_spreadOfLot_20 0 rfl ?_
    refine j_getf C hwsX0_spreadOfLot 0 rfl rfl 5 (by decide) kX0_spreadOfLot_36 rfl rfl eX0_spreadOfLot_21 ?_
    refine j_iload_n C eX0_spreadOfLot_24 2 rfl ?_
    refine j_iald C 4 1 rfl rfl b rfl (by omega) (by omega) eX0_spreadOfLot_25 ?_
    refine j_aload_n C eX0_spreadOfLot_26 0 rfl ?_
    refine j_getf C hwsX0_spreadOfLot 0 rfl rfl 5 (by decide) kX0_spreadOfLot_36 rfl rfl eX0_spreadOfLot_27 ?_
    refine j_iload_n C eX0_spreadOfLot_30 1 rfl ?_
    refine j_iald C 4 1 rfl rfl a rfl (by omega) (by omega) eX0_spreadOfLot_31 ?_
    refine j_isub C eX0_spreadOfLot_32 ?_
    refine j_iload_n C eX0_spreadOfLot_33 3 rfl ?_
    refine j_idiv C eX0_spreadOfLot_34 (by omega) (by omega) ?_
    rw [Int.tdiv_eq_ediv_of_nonneg (by omega), hk]
    refine j_istore C eX0_spreadOfLot_35 rfl (by decide) (lv' := [(0, .ref (ad 0)), (1, .int (zI (a : Int))), (2, .int (zI (b : Int))), (3, .int (zI ((CB b) - (CB a)))), (4, .int (zI (k : Int)))]) rfl ?_
    refine j_iload C eX0_spreadOfLot_37 4 rfl ?_
    refine j_iconst C eX0_spreadOfLot_39 ?_
    refine j_iadd C eX0_spreadOfLot_40 ?_
    refine j_istore C eX0_spreadOfLot_41 rfl (by decide) (lv' := [(0, .ref (ad 0)), (1, .int (zI (a : Int))), (2, .int (zI (b : Int))), (3, .int (zI ((CB b) - (CB a)))), (4, .int (zI (k : Int))), (5, .int (zI ((k : Int) + 1)))]) rfl ?_
    refine j_iload C eX0_spreadOfLot_43 4 rfl ?_
    refine j_aload_n C eX0_spreadOfLot_45 0 rfl ?_
    refine j_getf C hwsX0_spreadOfLot 0 rfl rfl 4 (by decide) kX0_spreadOfLot_32 rfl rfl eX0_spreadOfLot_46 ?_
    refine j_iload C eX0_spreadOfLot_49 5 rfl ?_
    refine j_iald C 3 1 rfl rfl (k + 1) rfl (by omega) (by omega) eX0_spreadOfLot_51 ?_
    refine j_aload_n C eX0_spreadOfLot_52 0 rfl ?_
    refine j_getf C hwsX0_spreadOfLot 0 rfl rfl 4 (by decide) kX0_spreadOfLot_32 rfl rfl eX0_spreadOfLot_53 ?_
    refine j_iload_n C eX0_spreadOfLot_56 1 rfl ?_
    refine j_iald C 3 1 rfl rfl a rfl (by omega) (by omega) eX0_spreadOfLot_57 ?_
    refine j_isub C eX0_spreadOfLot_58 ?_
    refine j_imul C eX0_spreadOfLot_59 ?_
    refine j_aload_n C eX0_spreadOfLot_60 0 rfl ?_
    refine j_getf C hwsX0_spreadOfLot 0 rfl rfl 5 (by decide) kX0_spreadOfLot_36 rfl rfl eX0_spreadOfLot_61 ?_
    refine j_iload C eX0_spreadOfLot_64 5 rfl ?_
    refine j_iald C 4 1 rfl rfl (k + 1) rfl (by omega) (by omega) eX0_spreadOfLot_66 ?_
    refine j_aload_n C eX0_spreadOfLot_67 0 rfl ?_
    refine j_getf C hwsX0_spreadOfLot 0 rfl rfl 5 (by decide) kX0_spreadOfLot_36 rfl rfl eX0_spreadOfLot_68 ?_
    refine j_iload_n C eX0_spreadOfLot_71 1 rfl ?_
    refine j_iald C 4 1 rfl rfl a rfl (by omega) (by omega) eX0_spreadOfLot_72 ?_
    refine j_isub C eX0_spreadOfLot_73 ?_
    refine j_isub C eX0_spreadOfLot_74 ?_
    refine j_istore C eX0_spreadOfLot_75 rfl (by decide) (lv' := [(0, .ref (ad 0)), (1, .int (zI (a : Int))), (2, .int (zI (b : Int))), (3, .int (zI ((CB b) - (CB a)))), (4, .int (zI (k : Int))), (5, .int (zI ((k : Int) + 1))), (6, .int (zI (((k : Int) * ((CB (k + 1)) - (CB a))) - ((SB (k + 1)) - (SB a)))))]) rfl ?_
    refine j_aload_n C eX0_spreadOfLot_77 0 rfl ?_
    refine j_getf C hwsX0_spreadOfLot 0 rfl rfl 5 (by decide) kX0_spreadOfLot_36 rfl rfl eX0_spreadOfLot_78 ?_
    refine j_iload_n C eX0_spreadOfLot_81 2 rfl ?_
    refine j_iald C 4 1 rfl rfl b rfl (by omega) (by omega) eX0_spreadOfLot_82 ?_
    refine j_aload_n C eX0_spreadOfLot_83 0 rfl ?_
    refine j_getf C hwsX0_spreadOfLot 0 rfl rfl 5 (by decide) kX0_spreadOfLot_36 rfl rfl eX0_spreadOfLot_84 ?_
    refine j_iload C eX0_spreadOfLot_87 5 rfl ?_
    refine j_iald C 4 1 rfl rfl (k + 1) rfl (by omega) (by omega) eX0_spreadOfLot_89 ?_
    refine j_isub C eX0_spreadOfLot_90 ?_
    refine j_iload C eX0_spreadOfLot_91 4 rfl ?_
    refine j_aload_n C eX0_spreadOfLot_93 0 rfl ?_
    refine j_getf C hwsX0_spreadOfLot 0 rfl rfl 4 (by decide) kX0_spreadOfLot_32 rfl rfl eX0_spreadOfLot_94 ?_
    refine j_iload_n C eX0_spreadOfLot_97 2 rfl ?_
    refine j_iald C 3 1 rfl rfl b rfl (by omega) (by omega) eX0_spreadOfLot_98 ?_
    refine j_aload_n C eX0_spreadOfLot_99 0 rfl ?_
    refine j_getf C hwsX0_spreadOfLot 0 rfl rfl 4 (by decide) kX0_spreadOfLot_32 rfl rfl eX0_spreadOfLot_100 ?_
    refine j_iload C eX0_spreadOfLot_103 5 rfl ?_
    refine j_iald C 3 1 rfl rfl (k + 1) rfl (by omega) (by omega) eX0_spreadOfLot_105 ?_
    refine j_isub C eX0_spreadOfLot_106 ?_
    refine j_imul C eX0_spreadOfLot_107 ?_
    refine j_isub C eX0_spreadOfLot_108 ?_
    refine j_istore C eX0_spreadOfLot_109 rfl (by decide) (lv' := [(0, .ref (ad 0)), (1, .int (zI (a : Int))), (2, .int (zI (b : Int))), (3, .int (zI ((CB b) - (CB a)))), (4, .int (zI (k : Int))), (5, .int (zI ((k : Int) + 1))), (6, .int (zI (((k : Int) * ((CB (k + 1)) - (CB a))) - ((SB (k + 1)) - (SB a))))), (7, .int (zI (((SB b) - (SB (k + 1))) - ((k : Int) * ((CB b) - (CB (k + 1)))))))]) rfl ?_
    refine j_iload C eX0_spreadOfLot_111 6 rfl ?_
    refine j_iload C eX0_spreadOfLot_113 7 rfl ?_
    refine j_iadd C eX0_spreadOfLot_115 ?_
    exact j_iret C hr hlocks rfl eX0_spreadOfLot_116 ⟨rfl, by rw [← lot_far ht hab hb]; unfold lot; rw [if_neg (by omega), hk, Int.toNat_natCast]⟩
  ·
    refine j_iconst C eX0_spreadOfLot_18 ?_
    exact j_iret C hr hlocks rfl eX0_spreadOfLot_19 ⟨rfl, by rw [← lot_far ht hab hb]; unfold lot; rw [if_pos (by omega)]⟩
theorem hwsX0_spreadAt : ∀ w ∈ u_ws RX0 TX0 16, w ∈ wsX0_spreadAt := fun _ h => List.mem_cons_of_mem _ (List.mem_append_right _ h)
abbrev rmX0_spreadAt : Room := { frames := 1, cells := 0, slots := 0, locals := 27 }
set_option maxHeartbeats 4000000 in
set_option maxRecDepth 100000 in
theorem ctX0_spreadAt (l : Launch) (D : va_G) (cB cI cZ cL : ClassId) (ad : Nat → Nat) (w h : Nat) (hs : Sz w h) (aG aS : Nat) (G S CB SB DK DR RE PF PK CO : Nat → Int) (rc pn kn cn : Int) (g : Nat → Int) (n : Nat) (hn : n ≤ 2304) (ht : tly g n CB SB) (t : Nat) (htt : t ≤ 254) : mI l yX0_spreadAt wsX0_spreadAt rmX0_spreadAt D vwCl (tyl cB cI cZ cL) [.ref (ad 0), .int (zI (t : Int))] (wX cB cI cZ ad w h aG aS G S CB SB DK DR RE PF PK CO rc pn kn cn) 0 0 (fun z w1 => w1 = wX cB cI cZ ad w h aG aS G S CB SB DK DR RE PF PK CO rc pn kn cn ∧ z = spr (hst g n) t) := by
  refine mI_of (own := RX0) rfl (by decide) rfl (Nat.le_of_ble_eq_true rfl) ?_
  intro p e s m args below meth c C hr hlocks hname
  show J p l e rmX0_spreadAt s m args below meth c _ 2 D vwCl _ 0 [(0, .ref (ad 0)), (1, .int (zI (t : Int)))] [] (wX cB cI cZ ad w h aG aS G S CB SB DK DR RE PF PK CO rc pn kn cn) 0 0
  refine j_aload_n C eX0_spreadAt_0 0 rfl ?_
  refine j_iconst C eX0_spreadAt_1 ?_
  refine j_iload_n C eX0_spreadAt_2 1 rfl ?_
  refine j_iconst C eX0_spreadAt_3 ?_
  refine j_iadd C eX0_spreadAt_4 ?_
  refine j_callVi C (As := [.int (zI 0), .int (zI ((t : Int) + 1))]) (rest := []) (ctX0_spreadOfLot l D cB cI cZ cL ad w h hs aG aS G S CB SB DK DR RE PF PK CO rc pn kn cn g n hn ht 0 (t + 1) (by omega) (by omega)) (cwV 2 C.1.2.2.2.2 gX0_spreadAt_X0_spreadOfLot rfl rfl rfl (by decide +kernel) ⟨Nat.le_of_ble_eq_true rfl, Nat.le_of_ble_eq_true rfl⟩) [0, 1, 2, 3, 4, 5, 6, 7, 8, 9, 10] [] (wr := []) rfl (by decide) rfl (by decide) (by decide) 0 rfl rfl rfl rfl (Nat.le_of_ble_eq_true rfl) eX0_spreadAt_5 ⟨Nat.le_of_ble_eq_true rfl, Nat.le_of_ble_eq_true rfl⟩ (fun z w1 hp => ?_)
  obtain ⟨rfl, rfl⟩ := hp
  rw [List.nil_append]
  refine j_aload_n C eX0_spreadAt_8 0 rfl ?_
  refine j_iload_n C eX0_spreadAt_9 1 rfl ?_
  refine j_iconst C eX0_spreadAt_10 ?_
  refine j_iadd C eX0_spreadAt_11 ?_
  refine j_sipush C eX0_spreadAt_12 (by decide +kernel) ?_
  refine j_callVi C (As := [.int (zI ((t : Int) + 1)), .int (zI 256)]) (rest := [.int (zI (far (hst g n) 0 (t + 1)))]) (ctX0_spreadOfLot l D cB cI cZ cL ad w h hs aG aS G S CB SB DK DR RE PF PK CO rc pn kn cn g n hn ht (t + 1) 256 (by omega) (by omega)) (cwV 2 C.1.2.2.2.2 gX0_spreadAt_X0_spreadOfLot rfl rfl rfl (by decide +kernel) ⟨Nat.le_of_ble_eq_true rfl, Nat.le_of_ble_eq_true rfl⟩) [0, 1, 2, 3, 4, 5, 6, 7, 8, 9, 10] [] (wr := []) rfl (by decide) rfl (by decide) (by decide) 0 rfl rfl rfl rfl (Nat.le_of_ble_eq_true rfl) eX0_spreadAt_15 ⟨Nat.le_of_ble_eq_true rfl, Nat.le_of_ble_eq_true rfl⟩ (fun z w1 hp => ?_)
  obtain ⟨rfl, rfl⟩ := hp
  rw [List.nil_append]
  refine j_iadd C eX0_spreadAt_18 ?_
  exact j_iret C hr hlocks rfl eX0_spreadAt_19 ⟨rfl, rfl⟩
theorem hwsX0_threshold : ∀ w ∈ u_ws RX0 TX0 16, w ∈ wsX0_threshold := fun _ h => List.mem_cons_of_mem _ (List.mem_append_right _ h)
abbrev rmX0_threshold : Room := { frames := 2, cells := 0, slots := 0, locals := 48 }
set_option maxHeartbeats 4000000 in
set_option maxRecDepth 100000 in
theorem lpX0_threshold {p : Program} {l : Launch} {e : Env} {s : State} {m : MethodId} {args : Array Value} {below : List Frame} {meth : Method} {c : Code} {Q : State → Prop} {D : va_G} {A : Nat → Prop} {cB cI cZ cL : ClassId} {w h : Nat} {ad : Nat → Nat} {aG aS : Nat} {G S CB SB DK DR RE PF PK CO : Nat → Int} {rc pn kn cn : Int} (C : JC p m c cX0_threshold 5 s args wsX0_threshold RX0 D vwCl (tyl cB cI cZ cL) A) (hs : Sz w h) (ht : tly (fun k => G k % 256) (w * h) CB SB) (kx : J p l e rmX0_threshold s m args below meth c Q 5 D vwCl A 45 [(0, .ref (ad 0)), (1, .int (zI ((am (spr (hst (fun k => G k % 256) (w * h))) 254) : Int))), (2, .int (zI ((spr (hst (fun k => G k % 256) (w * h))) (am (spr (hst (fun k => G k % 256) (w * h))) 254)))), (3, .int (zI ((254 + 1) : Int)))] [] (wX cB cI cZ ad w h aG aS G S CB SB DK DR RE PF PK CO rc pn kn cn) 0 0) : ∀ (n t : Nat), t ≤ 254 → 254 - t < n → J p l e rmX0_threshold s m args below meth c Q 5 D vwCl A 14 [(0, .ref (ad 0)), (1, .int (zI ((am (spr (hst (fun k => G k % 256) (w * h))) t) : Int))), (2, .int (zI ((spr (hst (fun k => G k % 256) (w * h))) (am (spr (hst (fun k => G k % 256) (w * h))) t)))), (3, .int (zI ((t + 1) : Int)))] [] (wX cB cI cZ ad w h aG aS G S CB SB DK DR RE PF PK CO rc pn kn cn) 0 0 := by
  have hm := hs.mul
  intro n
  induction n with
  | zero => intro t _ hn; exact absurd hn (Nat.not_lt_zero _)
  | succ n ih =>
    intro t htt hn
    have hal := am_le (spr (hst (fun k => G k % 256) (w * h))) t
    have hr : ∀ u : Nat, u ≤ 254 → 0 ≤ (spr (hst (fun k => G k % 256) (w * h))) u ∧ (spr (hst (fun k => G k % 256) (w * h))) u ≤ 1179648 := fun u hu => by
      have h1 := far_in (fun k => G k % 256) (n := (w * h)) (by omega) (a := 0) (b := u + 1) (by omega) (by omega)
      have h2 := far_in (fun k => G k % 256) (n := (w * h)) (by omega) (a := u + 1) (b := 256) (by omega) (by omega)
      unfold spr
      omega
    refine j_iload_n C eX0_threshold_14 3 rfl ?_
    refine j_sipush C eX0_threshold_15 (by decide +kernel) ?_
    refine j_icmp_ge C 45 eX0_threshold_18 (by decide) (by omega) (by omega) (fun c18 => ?_) (fun c18 => ?_)
    ·
      have he : t = 254 := by omega
      subst he
      exact kx
    ·
      refine j_aload_n C eX0_threshold_21 0 rfl ?_
      refine j_iload_n C eX0_threshold_22 3 rfl ?_
      refine j_callVi C (As := [.int (zI ((t + 1) : Int))]) (rest := []) (ctX0_spreadAt l D cB cI cZ cL ad w h hs aG aS G S CB SB DK DR RE PF PK CO rc pn kn cn (fun k => G k % 256) (w * h) (by omega) ht (t + 1) (by omega)) (cwV 1 C.1.2.2.2.2 gX0_threshold_X0_spreadAt rfl rfl rfl (by decide +kernel) ⟨Nat.le_of_ble_eq_true rfl, Nat.le_of_ble_eq_true rfl⟩) [0, 1, 2, 3, 4, 5, 6, 7, 8, 9, 10] [] (wr := []) rfl (by decide) rfl (by decide) (by decide) 0 rfl rfl rfl rfl (Nat.le_of_ble_eq_true rfl) eX0_threshold_23 ⟨Nat.le_of_ble_eq_true rfl, Nat.le_of_ble_eq_true rfl⟩ (fun z w1 hp => ?_)
      obtain ⟨rfl, rfl⟩ := hp
      rw [List.nil_append]
      refine j_istore C eX0_threshold_26 rfl (by decide) (lv' := [(0, .ref (ad 0)), (1, .int (zI ((am (spr (hst (fun k => G k % 256) (w * h))) t) : Int))), (2, .int (zI ((spr (hst (fun k => G k % 256) (w * h))) (am (spr (hst (fun k => G k % 256) (w * h))) t)))), (3, .int (zI ((t + 1) : Int))), (4, .int (zI ((spr (hst (fun k => G k % 256) (w * h))) (t + 1))))]) rfl ?_
      have hr1 := hr (t + 1) (by omega)
      have hr2 := hr (am (spr (hst (fun k => G k % 256) (w * h))) t) (by omega)
      refine j_iload C eX0_threshold_28 4 rfl ?_
      refine j_iload_n C eX0_threshold_30 2 rfl ?_
      refine j_icmp_ge C 39 eX0_threshold_31 (by decide) (by omega) (by omega) (fun c31 => ?_) (fun c31 => ?_)
      ·
        refine j_iinc C eX0_threshold_39 3 rfl rfl (by decide) (lv' := [(0, .ref (ad 0)), (1, .int (zI ((am (spr (hst (fun k => G k % 256) (w * h))) t) : Int))), (2, .int (zI ((spr (hst (fun k => G k % 256) (w * h))) (am (spr (hst (fun k => G k % 256) (w * h))) t)))), (3, .int (zI (((t + 1) : Int) + 1))), (4, .int (zI ((spr (hst (fun k => G k % 256) (w * h))) (t + 1))))]) rfl ?_
        refine j_goto C 14 eX0_threshold_42 (by decide) ?_
        refine j_loc [0, 1, 2, 3] (lv' := [(0, .ref (ad 0)), (1, .int (zI ((am (spr (hst (fun k => G k % 256) (w * h))) t) : Int))), (2, .int (zI ((spr (hst (fun k => G k % 256) (w * h))) (am (spr (hst (fun k => G k % 256) (w * h))) t)))), (3, .int (zI (((t + 1) : Int) + 1)))]) rfl ?_
        have e1 : am (spr (hst (fun k => G k % 256) (w * h))) (t + 1) = am (spr (hst (fun k => G k % 256) (w * h))) t := by show (if (spr (hst (fun k => G k % 256) (w * h))) (t + 1) < (spr (hst (fun k => G k % 256) (w * h))) (am (spr (hst (fun k => G k % 256) (w * h))) t) then t + 1 else am (spr (hst (fun k => G k % 256) (w * h))) t) = _; rw [if_neg (by omega)]
        have hb := ih (t + 1) (by omega) (by omega)
        rw [e1] at hb
        exact hb
      ·
        refine j_iload_n C eX0_threshold_34 3 rfl ?_
        refine j_istore_n C eX0_threshold_35 rfl (by decide) (lv' := [(0, .ref (ad 0)), (1, .int (zI ((t + 1) : Int))), (2, .int (zI ((spr (hst (fun k => G k % 256) (w * h))) (am (spr (hst (fun k => G k % 256) (w * h))) t)))), (3, .int (zI ((t + 1) : Int))), (4, .int (zI ((spr (hst (fun k => G k % 256) (w * h))) (t + 1))))]) rfl ?_
        refine j_iload C eX0_threshold_36 4 rfl ?_
        refine j_istore_n C eX0_threshold_38 rfl (by decide) (lv' := [(0, .ref (ad 0)), (1, .int (zI ((t + 1) : Int))), (2, .int (zI ((spr (hst (fun k => G k % 256) (w * h))) (t + 1)))), (3, .int (zI ((t + 1) : Int))), (4, .int (zI ((spr (hst (fun k => G k % 256) (w * h))) (t + 1))))]) rfl ?_
        refine j_iinc C eX0_threshold_39 3 rfl rfl (by decide) (lv' := [(0, .ref (ad 0)), (1, .int (zI ((t + 1) : Int))), (2, .int (zI ((spr (hst (fun k => G k % 256) (w * h))) (t + 1)))), (3, .int (zI (((t + 1) : Int) + 1))), (4, .int (zI ((spr (hst (fun k => G k % 256) (w * h))) (t + 1))))]) rfl ?_
        refine j_goto C 14 eX0_threshold_42 (by decide) ?_
        refine j_loc [0, 1, 2, 3] (lv' := [(0, .ref (ad 0)), (1, .int (zI ((t + 1) : Int))), (2, .int (zI ((spr (hst (fun k => G k % 256) (w * h))) (t + 1)))), (3, .int (zI (((t + 1) : Int) + 1)))]) rfl ?_
        have e1 : am (spr (hst (fun k => G k % 256) (w * h))) (t + 1) = t + 1 := by show (if (spr (hst (fun k => G k % 256) (w * h))) (t + 1) < (spr (hst (fun k => G k % 256) (w * h))) (am (spr (hst (fun k => G k % 256) (w * h))) t) then t + 1 else am (spr (hst (fun k => G k % 256) (w * h))) t) = _; rw [if_pos c31]
        have hb := ih (t + 1) (by omega) (by omega)
        rw [e1] at hb
        exact hb
set_option maxHeartbeats 4000000 in
set_option maxRecDepth 100000 in
theorem ctX0_threshold (l : Launch) (D : va_G) (cB cI cZ cL : ClassId) (ad : Nat → Nat) (w h : Nat) (hs : Sz w h) (aG aS : Nat) (G S CB SB DK DR RE PF PK CO : Nat → Int) (rc pn kn cn : Int)  : mI l yX0_threshold wsX0_threshold rmX0_threshold D vwCl (tyl cB cI cZ cL) [.ref (ad 0)] (wX cB cI cZ ad w h aG aS G S CB SB DK DR RE PF PK CO rc pn kn cn) 0 0 (fun z w1 => ∃ CB' SB' : Nat → Int, tly (fun k => G k % 256) (w * h) CB' SB' ∧ w1 = wX cB cI cZ ad w h aG aS G S CB' SB' DK DR RE PF PK CO rc pn kn cn ∧ z = ((thr (fun k => G k % 256) (w * h) : Nat) : Int)) := by
  refine mI_of (own := RX0) rfl (by decide) rfl (Nat.le_of_ble_eq_true rfl) ?_
  intro p e s m args below meth c C hr hlocks hname
  show J p l e rmX0_threshold s m args below meth c _ 5 D vwCl _ 0 [(0, .ref (ad 0))] [] (wX cB cI cZ ad w h aG aS G S CB SB DK DR RE PF PK CO rc pn kn cn) 0 0
  have hm := hs.mul
  refine j_aload_n C eX0_threshold_0 0 rfl ?_
  refine j_callVv C (As := []) (rest := []) (ctX0_tallyGreys l D cB cI cZ cL ad w h hs aG aS G S CB SB DK DR RE PF PK CO rc pn kn cn ) (cwV 0 C.1.2.2.2.2 gX0_threshold_X0_tallyGreys rfl rfl rfl (by decide +kernel) ⟨Nat.le_of_ble_eq_true rfl, Nat.le_of_ble_eq_true rfl⟩) [0, 1, 2, 3, 4, 5, 6, 7, 8, 9, 10] [] (wr := []) rfl (by decide) rfl (by decide) (by decide) 0 rfl rfl rfl rfl (Nat.le_of_ble_eq_true rfl) eX0_threshold_1 ⟨Nat.le_of_ble_eq_true rfl, Nat.le_of_ble_eq_true rfl⟩ (fun w1 hp => ?_)
  obtain ⟨CB1, SB1, ht, rfl⟩ := hp
  rw [List.nil_append]
  refine j_iconst C eX0_threshold_4 ?_
  refine j_istore_n C eX0_threshold_5 rfl (by decide) (lv' := [(0, .ref (ad 0)), (1, .int (zI 0))]) rfl ?_
  refine j_aload_n C eX0_threshold_6 0 rfl ?_
  refine j_iconst C eX0_threshold_7 ?_
  refine j_callVi C (As := [.int (zI 0)]) (rest := []) (ctX0_spreadAt l D cB cI cZ cL ad w h hs aG aS G S CB1 SB1 DK DR RE PF PK CO rc pn kn cn (fun k => G k % 256) (w * h) (by omega) ht 0 (by omega)) (cwV 1 C.1.2.2.2.2 gX0_threshold_X0_spreadAt rfl rfl rfl (by decide +kernel) ⟨Nat.le_of_ble_eq_true rfl, Nat.le_of_ble_eq_true rfl⟩) [0, 1, 2, 3, 4, 5, 6, 7, 8, 9, 10] [] (wr := []) rfl (by decide) rfl (by decide) (by decide) 0 rfl rfl rfl rfl (Nat.le_of_ble_eq_true rfl) eX0_threshold_8 ⟨Nat.le_of_ble_eq_true rfl, Nat.le_of_ble_eq_true rfl⟩ (fun z w1 hp => ?_)
  obtain ⟨rfl, rfl⟩ := hp
  rw [List.nil_append]
  refine j_istore_n C eX0_threshold_11 rfl (by decide) (lv' := [(0, .ref (ad 0)), (1, .int (zI 0)), (2, .int (zI ((spr (hst (fun k => G k % 256) (w * h))) 0)))]) rfl ?_
  refine j_iconst C eX0_threshold_12 ?_
  refine j_istore_n C eX0_threshold_13 rfl (by decide) (lv' := [(0, .ref (ad 0)), (1, .int (zI 0)), (2, .int (zI ((spr (hst (fun k => G k % 256) (w * h))) 0))), (3, .int (zI 1))]) rfl ?_
  refine lpX0_threshold C hs ht ?_ 255 0 (by omega) (by omega)
  refine j_iload_n C eX0_threshold_45 1 rfl ?_
  exact j_iret C hr hlocks rfl eX0_threshold_46 ⟨CB1, SB1, ht, rfl, by rw [thr_eq]⟩
theorem hwsX0_inverted : ∀ w ∈ u_ws RX0 TX0 16, w ∈ wsX0_inverted := fun _ h => List.mem_cons_of_mem _ (List.mem_append_right _ h)
abbrev rmX0_inverted : Room := { frames := 3, cells := 0, slots := 0, locals := 72 }
set_option maxHeartbeats 4000000 in
set_option maxRecDepth 100000 in
theorem ctX0_inverted (l : Launch) (D : va_G) (cB cI cZ cL : ClassId) (ad : Nat → Nat) (w h : Nat) (hs : Sz w h) (aG aS : Nat) (G S CB SB DK DR RE PF PK CO : Nat → Int) (rc pn kn cn : Int)  : mI l yX0_inverted wsX0_inverted rmX0_inverted D vwCl (tyl cB cI cZ cL) [.ref (ad 0)] (wX cB cI cZ ad w h aG aS G S CB SB DK DR RE PF PK CO rc pn kn cn) 0 0 (fun z w1 => ∃ CB' SB' : Nat → Int, w1 = wX cB cI cZ ad w h aG aS G S CB' SB' DK DR RE PF PK CO rc pn kn cn ∧ z = if ivt (fun k => G k % 256) (w * h) then 1 else 0) := by
  refine mI_of (own := RX0) rfl (by decide) rfl (Nat.le_of_ble_eq_true rfl) ?_
  intro p e s m args below meth c C hr hlocks hname
  show J p l e rmX0_inverted s m args below meth c _ 1 D vwCl _ 0 [(0, .ref (ad 0))] [] (wX cB cI cZ ad w h aG aS G S CB SB DK DR RE PF PK CO rc pn kn cn) 0 0
  have hm := hs.mul
  refine j_aload_n C eX0_inverted_0 0 rfl ?_
  refine j_aload_n C eX0_inverted_1 0 rfl ?_
  refine j_callVi C (As := []) (rest := [.ref (ad 0)]) (ctX0_threshold l D cB cI cZ cL ad w h hs aG aS G S CB SB DK DR RE PF PK CO rc pn kn cn ) (cwV 0 C.1.2.2.2.2 gX0_inverted_X0_threshold rfl rfl rfl (by decide +kernel) ⟨Nat.le_of_ble_eq_true rfl, Nat.le_of_ble_eq_true rfl⟩) [0, 1, 2, 3, 4, 5, 6, 7, 8, 9, 10] [] (wr := []) rfl (by decide) rfl (by decide) (by decide) 0 rfl rfl rfl rfl (Nat.le_of_ble_eq_true rfl) eX0_inverted_2 ⟨Nat.le_of_ble_eq_true rfl, Nat.le_of_ble_eq_true rfl⟩ (fun z w1 hp => ?_)
  obtain ⟨CB1, SB1, ht, rfl, rfl⟩ := hp
  rw [List.nil_append]
  have htl := thr_le (fun k => G k % 256) (w * h)
  have hcb := (ht (thr (fun k => G k % 256) (w * h) + 1) (by omega)).1
  have hcm := cum_in (fun k => G k % 256) (w * h) (thr (fun k => G k % 256) (w * h) + 1)
  refine j_callVi C (As := [.int (zI ((thr (fun k => G k % 256) (w * h)) : Int))]) (rest := []) (ctX0_hasMostlyLow l D cB cI cZ cL ad w h hs aG aS G S CB1 SB1 DK DR RE PF PK CO rc pn kn cn (thr (fun k => G k % 256) (w * h)) (by omega) (by omega)) (cwV 1 C.1.2.2.2.2 gX0_inverted_X0_hasMostlyLow rfl rfl rfl (by decide +kernel) ⟨Nat.le_of_ble_eq_true rfl, Nat.le_of_ble_eq_true rfl⟩) [0, 1, 2, 3, 4, 5, 6, 7, 8, 9, 10] [] (wr := []) rfl (by decide) rfl (by decide) (by decide) 0 rfl rfl rfl rfl (Nat.le_of_ble_eq_true rfl) eX0_inverted_5 ⟨Nat.le_of_ble_eq_true rfl, Nat.le_of_ble_eq_true rfl⟩ (fun z w1 hp => ?_)
  obtain ⟨rfl, rfl⟩ := hp
  rw [List.nil_append]
  rw [hcb]
  exact j_iret C hr hlocks (nar_bool (by split <;> omega)) eX0_inverted_8 ⟨CB1, SB1, rfl, rfl⟩
theorem hwsX0_markDark : ∀ w ∈ u_ws RX0 TX0 16, w ∈ wsX0_markDark := fun _ h => List.mem_cons_of_mem _ (List.mem_append_right _ h)
theorem kX0_markDark_25 : Cond.fieldLink RX0 25 "SheetRows" (TX0 2).2.1 (TX0 2).2.2.1 ∈ wsX0_markDark := by decide +kernel
theorem kX0_markDark_39 : Cond.fieldLink RX0 39 "SheetRows" (TX0 6).2.1 (TX0 6).2.2.1 ∈ wsX0_markDark := by decide +kernel
abbrev rmX0_markDark : Room := { frames := 3, cells := 0, slots := 0, locals := 72 }
set_option maxHeartbeats 4000000 in
set_option maxRecDepth 100000 in
theorem lpX0_markDark {p : Program} {l : Launch} {e : Env} {s : State} {m : MethodId} {args : Array Value} {below : List Frame} {meth : Method} {c : Code} {Q : State → Prop} {D : va_G} {A : Nat → Prop} {cB cI cZ cL : ClassId} {w h : Nat} {ad : Nat → Nat} {aG aS : Nat} {G S CB SB DR RE PF PK CO : Nat → Int} {rc pn kn cn : Int} (C : JC p m c cX0_markDark 5 s args wsX0_markDark RX0 D vwCl (tyl cB cI cZ cL) A) (hs : Sz w h) {d : Int} (hd : (d = 1 ∧ ¬ ivt (fun k => G k % 256) (w * h)) ∨ (d = 0 ∧ ivt (fun k => G k % 256) (w * h))) (kx : ∀ DK : Nat → Int, (∀ k, k < w * h → DK k = dkf (fun k => G k % 256) (w * h) k) → J p l e rmX0_markDark s m args below meth c Q 5 D vwCl A 74 [(0, .ref (ad 0)), (1, .int (zI ((thr (fun k => G k % 256) (w * h)) : Int))), (2, .int (zI d)), (3, .int (zI ((w * h) : Int)))] [] (wX cB cI cZ ad w h aG aS G S CB SB DK DR RE PF PK CO rc pn kn cn) 0 0) : ∀ (n i : Nat) (DK : Nat → Int), i ≤ w * h → w * h - i < n → (∀ k, k < i → DK k = dkf (fun k => G k % 256) (w * h) k) → J p l e rmX0_markDark s m args below meth c Q 5 D vwCl A 21 [(0, .ref (ad 0)), (1, .int (zI ((thr (fun k => G k % 256) (w * h)) : Int))), (2, .int (zI d)), (3, .int (zI (i : Int)))] [] (wX cB cI cZ ad w h aG aS G S CB SB DK DR RE PF PK CO rc pn kn cn) 0 0 := by
  have hm := hs.mul
  have htl := thr_le (fun k => G k % 256) (w * h)
  intro n
  induction n with
  | zero => intro i DK _ hn; exact absurd hn (Nat.not_lt_zero _)
  | succ n ih =>
    intro i DK hi hn hDK
    refine j_iload_n C eX0_markDark_21 3 rfl ?_
    refine j_aload_n C eX0_markDark_22 0 rfl ?_
    refine j_getf C hwsX0_markDark 0 rfl rfl 2 (by decide) kX0_markDark_25 rfl rfl eX0_markDark_23 ?_
    refine j_alen C 1 0 rfl rfl eX0_markDark_26 ?_
    refine j_icmp_ge C 74 eX0_markDark_27 (by decide) (by omega) (by omega) (fun c27 => ?_) (fun c27 => ?_)
    ·
      have he : i = w * h := by omega
      subst he
      exact kx DK hDK
    ·
      refine j_aload_n C eX0_markDark_30 0 rfl ?_
      refine j_getf C hwsX0_markDark 0 rfl rfl 2 (by decide) kX0_markDark_25 rfl rfl eX0_markDark_31 ?_
      refine j_iload_n C eX0_markDark_34 3 rfl ?_
      refine j_bald C 1 0 rfl rfl i rfl (by omega) (by omega) eX0_markDark_35 ?_
      refine j_sipush C eX0_markDark_36 (by decide +kernel) ?_
      refine j_and255 C eX0_markDark_39 ?_
      refine j_iload_n C eX0_markDark_40 1 rfl ?_
      refine j_icmp_gt C 48 eX0_markDark_41 (by decide) (by omega) (by omega) (fun c41 => ?_) (fun c41 => ?_)
      ·
        refine j_iconst C eX0_markDark_48 ?_
        refine j_istore C eX0_markDark_49 rfl (by decide) (lv' := [(0, .ref (ad 0)), (1, .int (zI ((thr (fun k => G k % 256) (w * h)) : Int))), (2, .int (zI d)), (3, .int (zI (i : Int))), (4, .int (zI 0))]) rfl ?_
        refine j_aload_n C eX0_markDark_51 0 rfl ?_
        refine j_getf C hwsX0_markDark 0 rfl rfl 6 (by decide) kX0_markDark_39 rfl rfl eX0_markDark_52 ?_
        refine j_iload_n C eX0_markDark_55 3 rfl ?_
        refine j_iload C eX0_markDark_56 4 rfl ?_
        refine j_iload_n C eX0_markDark_58 2 rfl ?_
        refine j_icmp_ne C 66 eX0_markDark_59 (by decide) (by omega) (by omega) (fun c59 => ?_) (fun c59 => ?_)
        ·
          refine j_iconst C eX0_markDark_66 ?_
          refine j_zast C 5 2 rfl rfl i rfl (by omega) (by omega) (nar_z (by omega)) eX0_markDark_67 (wd' := wX cB cI cZ ad w h aG aS G S CB SB (zup DK i 0) DR RE PF PK CO rc pn kn cn) rfl ?_
          refine j_iinc C eX0_markDark_68 3 rfl rfl (by decide) (lv' := [(0, .ref (ad 0)), (1, .int (zI ((thr (fun k => G k % 256) (w * h)) : Int))), (2, .int (zI d)), (3, .int (zI ((i : Int) + 1))), (4, .int (zI 0))]) rfl ?_
          refine j_goto C 21 eX0_markDark_71 (by decide) ?_
          refine j_loc [0, 1, 2, 3] (lv' := [(0, .ref (ad 0)), (1, .int (zI ((thr (fun k => G k % 256) (w * h)) : Int))), (2, .int (zI d)), (3, .int (zI ((i : Int) + 1)))]) rfl ?_
          refine ih (i + 1) _ (by omega) (by omega) (fun k hk => ?_)
          by_cases e : k = i
          · subst e
            rw [zup_s]
            unfold dkf
            rw [if_neg]
            rcases hd with ⟨q1, q2⟩ | ⟨q1, q2⟩
            · intro z; have z2 : G k % 256 ≤ ((thr (fun k => G k % 256) (w * h) : Nat) : Int) := z.mpr q2; omega
            · intro z; exact z.mp (by omega) q2
          · rw [zup_n e]; exact hDK k (by omega)
        ·
          refine j_iconst C eX0_markDark_62 ?_
          refine j_goto C 67 eX0_markDark_63 (by decide) ?_
          refine j_zast C 5 2 rfl rfl i rfl (by omega) (by omega) (nar_z (by omega)) eX0_markDark_67 (wd' := wX cB cI cZ ad w h aG aS G S CB SB (zup DK i 1) DR RE PF PK CO rc pn kn cn) rfl ?_
          refine j_iinc C eX0_markDark_68 3 rfl rfl (by decide) (lv' := [(0, .ref (ad 0)), (1, .int (zI ((thr (fun k => G k % 256) (w * h)) : Int))), (2, .int (zI d)), (3, .int (zI ((i : Int) + 1))), (4, .int (zI 0))]) rfl ?_
          refine j_goto C 21 eX0_markDark_71 (by decide) ?_
          refine j_loc [0, 1, 2, 3] (lv' := [(0, .ref (ad 0)), (1, .int (zI ((thr (fun k => G k % 256) (w * h)) : Int))), (2, .int (zI d)), (3, .int (zI ((i : Int) + 1)))]) rfl ?_
          refine ih (i + 1) _ (by omega) (by omega) (fun k hk => ?_)
          by_cases e : k = i
          · subst e
            rw [zup_s]
            unfold dkf
            rw [if_pos]
            rcases hd with ⟨q1, q2⟩ | ⟨q1, q2⟩
            · exact ⟨fun _ => q2, fun _ => by omega⟩
            · exact ⟨fun z => by have z2 : G k % 256 ≤ ((thr (fun k => G k % 256) (w * h) : Nat) : Int) := z; omega, fun z => absurd q2 z⟩
          · rw [zup_n e]; exact hDK k (by omega)
      ·
        refine j_iconst C eX0_markDark_44 ?_
        refine j_goto C 49 eX0_markDark_45 (by decide) ?_
        refine j_istore C eX0_markDark_49 rfl (by decide) (lv' := [(0, .ref (ad 0)), (1, .int (zI ((thr (fun k => G k % 256) (w * h)) : Int))), (2, .int (zI d)), (3, .int (zI (i : Int))), (4, .int (zI 1))]) rfl ?_
        refine j_aload_n C eX0_markDark_51 0 rfl ?_
        refine j_getf C hwsX0_markDark 0 rfl rfl 6 (by decide) kX0_markDark_39 rfl rfl eX0_markDark_52 ?_
        refine j_iload_n C eX0_markDark_55 3 rfl ?_
        refine j_iload C eX0_markDark_56 4 rfl ?_
        refine j_iload_n C eX0_markDark_58 2 rfl ?_
        refine j_icmp_ne C 66 eX0_markDark_59 (by decide) (by omega) (by omega) (fun c59 => ?_) (fun c59 => ?_)
        ·
          refine j_iconst C eX0_markDark_66 ?_
          refine j_zast C 5 2 rfl rfl i rfl (by omega) (by omega) (nar_z (by omega)) eX0_markDark_67 (wd' := wX cB cI cZ ad w h aG aS G S CB SB (zup DK i 0) DR RE PF PK CO rc pn kn cn) rfl ?_
          refine j_iinc C eX0_markDark_68 3 rfl rfl (by decide) (lv' := [(0, .ref (ad 0)), (1, .int (zI ((thr (fun k => G k % 256) (w * h)) : Int))), (2, .int (zI d)), (3, .int (zI ((i : Int) + 1))), (4, .int (zI 1))]) rfl ?_
          refine j_goto C 21 eX0_markDark_71 (by decide) ?_
          refine j_loc [0, 1, 2, 3] (lv' := [(0, .ref (ad 0)), (1, .int (zI ((thr (fun k => G k % 256) (w * h)) : Int))), (2, .int (zI d)), (3, .int (zI ((i : Int) + 1)))]) rfl ?_
          refine ih (i + 1) _ (by omega) (by omega) (fun k hk => ?_)
          by_cases e : k = i
          · subst e
            rw [zup_s]
            unfold dkf
            rw [if_neg]
            rcases hd with ⟨q1, q2⟩ | ⟨q1, q2⟩
            · intro z; have z2 : G k % 256 ≤ ((thr (fun k => G k % 256) (w * h) : Nat) : Int) := z.mpr q2; omega
            · intro z; exact z.mp (by omega) q2
          · rw [zup_n e]; exact hDK k (by omega)
        ·
          refine j_iconst C eX0_markDark_62 ?_
          refine j_goto C 67 eX0_markDark_63 (by decide) ?_
          refine j_zast C 5 2 rfl rfl i rfl (by omega) (by omega) (nar_z (by omega)) eX0_markDark_67 (wd' := wX cB cI cZ ad w h aG aS G S CB SB (zup DK i 1) DR RE PF PK CO rc pn kn cn) rfl ?_
          refine j_iinc C eX0_markDark_68 3 rfl rfl (by decide) (lv' := [(0, .ref (ad 0)), (1, .int (zI ((thr (fun k => G k % 256) (w * h)) : Int))), (2, .int (zI d)), (3, .int (zI ((i : Int) + 1))), (4, .int (zI 1))]) rfl ?_
          refine j_goto C 21 eX0_markDark_71 (by decide) ?_
          refine j_loc [0, 1, 2, 3] (lv' := [(0, .ref (ad 0)), (1, .int (zI ((thr (fun k => G k % 256) (w * h)) : Int))), (2, .int (zI d)), (3, .int (zI ((i : Int) + 1)))]) rfl ?_
          refine ih (i + 1) _ (by omega) (by omega) (fun k hk => ?_)
          by_cases e : k = i
          · subst e
            rw [zup_s]
            unfold dkf
            rw [if_pos]
            rcases hd with ⟨q1, q2⟩ | ⟨q1, q2⟩
            · exact ⟨fun _ => q2, fun _ => by omega⟩
            · exact ⟨fun z => by have z2 : G k % 256 ≤ ((thr (fun k => G k % 256) (w * h) : Nat) : Int) := z; omega, fun z => absurd q2 z⟩
          · rw [zup_n e]; exact hDK k (by omega)
set_option maxHeartbeats 4000000 in
set_option maxRecDepth 100000 in
theorem ctX0_markDark (l : Launch) (D : va_G) (cB cI cZ cL : ClassId) (ad : Nat → Nat) (w h : Nat) (hs : Sz w h) (aG aS : Nat) (G S CB SB DK DR RE PF PK CO : Nat → Int) (rc pn kn cn : Int)  : mV l yX0_markDark wsX0_markDark rmX0_markDark D vwCl (tyl cB cI cZ cL) [.ref (ad 0)] (wX cB cI cZ ad w h aG aS G S CB SB DK DR RE PF PK CO rc pn kn cn) 0 0 (fun w1 => ∃ CB' SB' DK' : Nat → Int, (∀ k, k < w * h → DK' k = dkf (fun k => G k % 256) (w * h) k) ∧ w1 = wX cB cI cZ ad w h aG aS G S CB' SB' DK' DR RE PF PK CO rc pn kn cn) := by
  refine mV_of (own := RX0) rfl (by decide) rfl (Nat.le_of_ble_eq_true rfl) ?_
  intro p e s m args below meth c C hr hlocks hname
  show J p l e rmX0_markDark s m args below meth c _ 5 D vwCl _ 0 [(0, .ref (ad 0))] [] (wX cB cI cZ ad w h aG aS G S CB SB DK DR RE PF PK CO rc pn kn cn) 0 0
  have hm := hs.mul
  refine j_aload_n C eX0_markDark_0 0 rfl ?_
  refine j_callVi C (As := []) (rest := []) (ctX0_threshold l D cB cI cZ cL ad w h hs aG aS G S CB SB DK DR RE PF PK CO rc pn kn cn ) (cwV 0 C.1.2.2.2.2 gX0_markDark_X0_threshold rfl rfl rfl (by decide +kernel) ⟨Nat.le_of_ble_eq_true rfl, Nat.le_of_ble_eq_true rfl⟩) [0, 1, 2, 3, 4, 5, 6, 7, 8, 9, 10] [] (wr := []) rfl (by decide) rfl (by decide) (by decide) 0 rfl rfl rfl rfl (Nat.le_of_ble_eq_true rfl) eX0_markDark_1 ⟨Nat.le_of_ble_eq_true rfl, Nat.le_of_ble_eq_true rfl⟩ (fun z w1 hp => ?_)
  obtain ⟨CB1, SB1, ht, rfl, rfl⟩ := hp
  rw [List.nil_append]
  refine j_istore_n C eX0_markDark_4 rfl (by decide) (lv' := [(0, .ref (ad 0)), (1, .int (zI ((thr (fun k => G k % 256) (w * h)) : Int)))]) rfl ?_
  refine j_aload_n C eX0_markDark_5 0 rfl ?_
  refine j_iload_n C eX0_markDark_6 1 rfl ?_
  have htl := thr_le (fun k => G k % 256) (w * h)
  have hcb := (ht (thr (fun k => G k % 256) (w * h) + 1) (by omega)).1
  have hcm := cum_in (fun k => G k % 256) (w * h) (thr (fun k => G k % 256) (w * h) + 1)
  refine j_callVi C (As := [.int (zI ((thr (fun k => G k % 256) (w * h)) : Int))]) (rest := []) (ctX0_hasMostlyLow l D cB cI cZ cL ad w h hs aG aS G S CB1 SB1 DK DR RE PF PK CO rc pn kn cn (thr (fun k => G k % 256) (w * h)) (by omega) (by omega)) (cwV 1 C.1.2.2.2.2 gX0_markDark_X0_hasMostlyLow rfl rfl rfl (by decide +kernel) ⟨Nat.le_of_ble_eq_true rfl, Nat.le_of_ble_eq_true rfl⟩) [0, 1, 2, 3, 4, 5, 6, 7, 8, 9, 10] [] (wr := []) rfl (by decide) rfl (by decide) (by decide) 0 rfl rfl rfl rfl (Nat.le_of_ble_eq_true rfl) eX0_markDark_7 ⟨Nat.le_of_ble_eq_true rfl, Nat.le_of_ble_eq_true rfl⟩ (fun z w1 hp => ?_)
  obtain ⟨rfl, rfl⟩ := hp
  rw [List.nil_append]
  rw [hcb]
  obtain ⟨e0, he0⟩ : ∃ e0 : Int, e0 = (if ((w * h : Nat) : Int) < 2 * sumN (hst (fun k => G k % 256) (w * h)) (thr (fun k => G k % 256) (w * h) + 1) then 1 else 0) := ⟨_, rfl⟩
  rw [← he0]
  have he1 : (e0 = 1 ∧ ivt (fun k => G k % 256) (w * h)) ∨ (e0 = 0 ∧ ¬ ivt (fun k => G k % 256) (w * h)) := by
    rw [he0]
    by_cases c : ivt (fun k => G k % 256) (w * h)
    · exact Or.inl ⟨if_pos c, c⟩
    · exact Or.inr ⟨if_neg c, c⟩
  refine j_if_ne C 17 eX0_markDark_10 (by decide) (by omega) (fun c10 => ?_) (fun c10 => ?_)
  ·
    refine j_iconst C eX0_markDark_17 ?_
    refine j_istore_n C eX0_markDark_18 rfl (by decide) (lv' := [(0, .ref (ad 0)), (1, .int (zI ((thr (fun k => G k % 256) (w * h)) : Int))), (2, .int (zI 0))]) rfl ?_
    refine j_iconst C eX0_markDark_19 ?_
    refine j_istore_n C eX0_markDark_20 rfl (by decide) (lv' := [(0, .ref (ad 0)), (1, .int (zI ((thr (fun k => G k % 256) (w * h)) : Int))), (2, .int (zI 0)), (3, .int (zI 0))]) rfl ?_
    refine j_loc [0, 1, 2, 3] (lv' := [(0, .ref (ad 0)), (1, .int (zI ((thr (fun k => G k % 256) (w * h)) : Int))), (2, .int (zI 0)), (3, .int (zI 0))]) rfl ?_
    have hd9 : (0 = (1 : Int) ∧ ¬ ivt (fun k => G k % 256) (w * h)) ∨ (0 = (0 : Int) ∧ ivt (fun k => G k % 256) (w * h)) := by
      rcases he1 with ⟨q1, q2⟩ | ⟨q1, q2⟩
      · exact Or.inr ⟨rfl, q2⟩
      · omega
    refine lpX0_markDark C hs (d := 0) hd9 (fun DK' hDK' => ?_) (w * h + 1) 0 DK (by omega) (by omega) (fun k hk => absurd hk (Nat.not_lt_zero _))
    exact j_vret C hr hlocks eX0_markDark_74 ⟨CB1, SB1, DK', hDK', rfl⟩
  ·
    refine j_iconst C eX0_markDark_13 ?_
    refine j_goto C 18 eX0_markDark_14 (by decide) ?_
    refine j_istore_n C eX0_markDark_18 rfl (by decide) (lv' := [(0, .ref (ad 0)), (1, .int (zI ((thr (fun k => G k % 256) (w * h)) : Int))), (2, .int (zI 1))]) rfl ?_
    refine j_iconst C eX0_markDark_19 ?_
    refine j_istore_n C eX0_markDark_20 rfl (by decide) (lv' := [(0, .ref (ad 0)), (1, .int (zI ((thr (fun k => G k % 256) (w * h)) : Int))), (2, .int (zI 1)), (3, .int (zI 0))]) rfl ?_
    refine j_loc [0, 1, 2, 3] (lv' := [(0, .ref (ad 0)), (1, .int (zI ((thr (fun k => G k % 256) (w * h)) : Int))), (2, .int (zI 1)), (3, .int (zI 0))]) rfl ?_
    have hd9 : (1 = (1 : Int) ∧ ¬ ivt (fun k => G k % 256) (w * h)) ∨ (1 = (0 : Int) ∧ ivt (fun k => G k % 256) (w * h)) := by
      rcases he1 with ⟨q1, q2⟩ | ⟨q1, q2⟩
      · omega
      · exact Or.inl ⟨rfl, q2⟩
    refine lpX0_markDark C hs (d := 1) hd9 (fun DK' hDK' => ?_) (w * h + 1) 0 DK (by omega) (by omega) (fun k hk => absurd hk (Nat.not_lt_zero _))
    exact j_vret C hr hlocks eX0_markDark_74 ⟨CB1, SB1, DK', hDK', rfl⟩
end
section
/-! THE CLASS: shears -/
theorem tm_nat (a b : Nat) : (a : Int).tmod (b : Int) = ((a % b : Nat) : Int) := by
  rw [Int.tmod_eq_emod_of_nonneg (Int.natCast_nonneg a)]
  exact (Int.natCast_emod a b).symm
theorem shr_lt {h : Nat} (hh : 1 ≤ h) (b : Int) (x : Nat) : shr h b x < h := by
  unfold shr
  have h1 := Int.emod_lt_of_pos (b * (x : Int) / 32) (b := (h : Int)) (by omega)
  have h2 := Int.emod_nonneg (b * (x : Int) / 32) (b := (h : Int)) (by omega)
  omega
def ccl (w h : Nat) (D : Nat → Int) (b : Int) (r x y : Nat) : Int := if D (y * w + x) = 1 ∧ (y + shr h b x) % h = r then 1 else 0
/-- how many dark greys row r has in the sheet sheared by b; the sum of their squares -/
def rwc (w h : Nat) (D : Nat → Int) (b : Int) (r : Nat) : Int := sumN (fun x => sumN (fun y => ccl w h D b r x y) h) w
def ssq (w h : Nat) (D : Nat → Int) (b : Int) : Int := sumN (fun r => rwc w h D b r * rwc w h D b r) h
def prt (w h : Nat) (D : Nat → Int) (b : Int) (x y r : Nat) : Int := sumN (fun x => sumN (fun y => ccl w h D b r x y) h) x + sumN (fun y => ccl w h D b r x y) y
theorem prt_y (w h : Nat) (D : Nat → Int) (b : Int) (x y r : Nat) : prt w h D b x (y + 1) r = prt w h D b x y r + ccl w h D b r x y := (Int.add_assoc _ _ _).symm
theorem prt_x (w h : Nat) (D : Nat → Int) (b : Int) (x r : Nat) : prt w h D b (x + 1) 0 r = prt w h D b x h r := Int.add_zero _
theorem ccl_01 (w h : Nat) (D : Nat → Int) (b : Int) (r x y : Nat) : 0 ≤ ccl w h D b r x y ∧ ccl w h D b r x y ≤ 1 := by unfold ccl; split <;> omega
theorem rwc_in {w h : Nat} (hs : Sz w h) (D : Nat → Int) (b : Int) (r : Nat) : 0 ≤ rwc w h D b r ∧ rwc w h D b r ≤ 2304 := by
  obtain ⟨h1, h2, h3, h4⟩ := hs
  have i1 : ∀ x, 0 ≤ sumN (fun y => ccl w h D b r x y) h ∧ sumN (fun y => ccl w h D b r x y) h ≤ 48 := fun x => by
    constructor
    · exact sumN_nn (fun y _ => (ccl_01 w h D b r x y).1)
    · have := sumN_le (f := fun y => ccl w h D b r x y) (g := fun _ => 1) (n := h) (fun y _ => (ccl_01 w h D b r x y).2)
      rw [sumN_c] at this
      omega
  unfold rwc
  constructor
  · exact sumN_nn (fun x _ => (i1 x).1)
  · have := sumN_le (f := fun x => sumN (fun y => ccl w h D b r x y) h) (g := fun _ => 48) (n := w) (fun x _ => (i1 x).2)
    rw [sumN_c] at this
    omega
theorem ssq_in {w h : Nat} (hs : Sz w h) (D : Nat → Int) (b : Int) : 0 ≤ ssq w h D b ∧ ssq w h D b ≤ 254803968 := by
  have i1 : ∀ r, 0 ≤ rwc w h D b r * rwc w h D b r ∧ rwc w h D b r * rwc w h D b r ≤ 5308416 := fun r => by
    have h1 := rwc_in hs D b r
    exact ⟨Int.mul_nonneg h1.1 h1.1, Int.mul_le_mul h1.2 h1.2 h1.1 (by omega)⟩
  obtain ⟨h1, h2, h3, h4⟩ := hs
  unfold ssq
  constructor
  · exact sumN_nn (fun x _ => (i1 x).1)
  · have := sumN_le (f := fun r => rwc w h D b r * rwc w h D b r) (g := fun _ => 5308416) (n := h) (fun x _ => (i1 x).2)
    rw [sumN_c] at this
    omega
theorem ssq_congr {w h : Nat} {D D' : Nat → Int} (hD : ∀ k, k < w * h → D k = D' k) (b : Int) : ssq w h D b = ssq w h D' b := by
  have h1 : ∀ r, rwc w h D b r = rwc w h D' b r := fun r => sumN_congr (fun x hx => sumN_congr (fun y hy => by unfold ccl; rw [hD _ (ix_lt hx hy)]))
  exact sumN_congr (fun r _ => by rw [h1 r])
/-- the better of two leans; the best of those from the middle outwards -/
def pk2 (f : Int → Int) (b c : Int) : Int := if f b < f c then c else b
def skb (f : Int → Int) : Nat → Int
  | 0 => 0
  | n + 1 => pk2 f (pk2 f (skb f n) (-((n : Int) + 1))) ((n : Int) + 1)
theorem pk2_in {f : Int → Int} {b c : Int} {P : Int → Prop} (hb : P b) (hc : P c) : P (pk2 f b c) := by unfold pk2; split <;> assumption
theorem skb_in (f : Int → Int) : ∀ n : Nat, -(n : Int) ≤ skb f n ∧ skb f n ≤ (n : Int)
  | 0 => by unfold skb; omega
  | n + 1 => by
    have h := skb_in f n
    unfold skb
    exact pk2_in (P := fun z => -((n + 1 : Nat) : Int) ≤ z ∧ z ≤ ((n + 1 : Nat) : Int)) (pk2_in (P := fun z => -((n + 1 : Nat) : Int) ≤ z ∧ z ≤ ((n + 1 : Nat) : Int)) (by omega) (by omega)) (by omega)
theorem skb_congr {f f' : Int → Int} (h : ∀ b, f b = f' b) (n : Nat) : skb f n = skb f' n := by rw [show f = f' from funext h]
theorem mod_add_inj {a b s h : Nat} (ha : a < h) (hb : b < h) (e : (a + s) % h = (b + s) % h) : a = b := by
  have key : ∀ a b : Nat, a ≤ b → b < h → (a + s) % h = (b + s) % h → a = b := fun a b hab hb e => by
    have h1 := Nat.sub_mod_eq_zero_of_mod_eq e.symm
    have h2 : b + s - (a + s) = b - a := by omega
    rw [h2, Nat.mod_eq_of_lt (by omega)] at h1
    omega
  rcases Nat.le_total a b with q | q
  · exact key a b q hb e
  · exact (key b a q ha e.symm).symm
/-- the columns ahead of x, and of column x the greys ahead of y, are sheared -/
def tnd (w h : Nat) (G : Nat → Int) (b : Int) (x y : Nat) (S : Nat → Int) : Prop := ∀ x' y', x' < w → y' < h → (x' < x ∨ (x' = x ∧ y' < y)) → S ((y' + shr h b x') % h * w + x') = G (y' * w + x')
theorem tnd_put {w h : Nat} {G : Nat → Int} {b : Int} {x y : Nat} {S : Nat → Int} (h0 : tnd w h G b x y S) (hx : x < w) (hy : y < h) : tnd w h G b x (y + 1) (zup S ((y + shr h b x) % h * w + x) (G (y * w + x))) := by
  intro x' y' hx' hy' hh
  by_cases e : (y' + shr h b x') % h * w + x' = (y + shr h b x) % h * w + x
  · obtain ⟨e1, rfl⟩ := ix_inj hx' hx e
    have e2 := mod_add_inj hy' hy e1
    subst e2
    exact zup_s
  · rw [zup_n e]
    refine h0 x' y' hx' hy' ?_
    rcases hh with hh | ⟨rfl, hh⟩
    · exact Or.inl hh
    · refine Or.inr ⟨rfl, ?_⟩
      have : y' ≠ y := fun q => e (by rw [q])
      omega
theorem tnd_col {w h : Nat} {G : Nat → Int} {b : Int} {x : Nat} {S : Nat → Int} (h0 : tnd w h G b x h S) : tnd w h G b (x + 1) 0 S := fun x' y' hx' hy' hh => h0 x' y' hx' hy' (by omega)
theorem ix_of {w h k : Nat} (hw : 1 ≤ w) (hk : k < w * h) : k / w < h ∧ k % w < w ∧ k / w * w + k % w = k := by
  refine ⟨Nat.div_lt_of_lt_mul hk, Nat.mod_lt _ (by omega), ?_⟩
  rw [Nat.mul_comm]; exact Nat.div_add_mod k w
/-- every place of a sheared sheet is told -/
theorem tnd_all {w h : Nat} {G : Nat → Int} {b : Int} {S : Nat → Int} (hs : Sz w h) (h0 : tnd w h G b w 0 S) {k : Nat} (hk : k < w * h) : S k = G ((k / w + (h - shr h b (k % w))) % h * w + k % w) ∧ (k / w + (h - shr h b (k % w))) % h * w + k % w < w * h := by
  obtain ⟨h1, h2, h3, h4⟩ := hs
  obtain ⟨e1, e2, e3⟩ := ix_of h1 hk
  have hsl := shr_lt h3 b (k % w)
  have hy : (k / w + (h - shr h b (k % w))) % h < h := Nat.mod_lt _ (by omega)
  refine ⟨?_, ix_lt e2 hy⟩
  rw [← h0 (k % w) _ e2 hy (Or.inl e2)]
  congr 1
  rw [Nat.mod_add_mod, show k / w + (h - shr h b (k % w)) + shr h b (k % w) = k / w + h by omega, Nat.add_mod_right, Nat.mod_eq_of_lt e1, e3]
theorem tnd_byt {w h : Nat} {G : Nat → Int} {b : Int} {S : Nat → Int} (hs : Sz w h) (h0 : tnd w h G b w 0 S) (hG : byt (w * h) G) : byt (w * h) S := fun k hk => by
  obtain ⟨e, hl⟩ := tnd_all hs h0 hk
  rw [e]
  exact hG _ hl
theorem hwsX0_sumOfSquares : ∀ w ∈ u_ws RX0 TX0 16, w ∈ wsX0_sumOfSquares := fun _ h => List.mem_cons_of_mem _ (List.mem_append_right _ h)
theorem kX0_sumOfSquares_18 : Cond.fieldLink RX0 18 "SheetRows" (TX0 0).2.1 (TX0 0).2.2.1 ∈ wsX0_sumOfSquares := by decide +kernel
theorem kX0_sumOfSquares_22 : Cond.fieldLink RX0 22 "SheetRows" (TX0 1).2.1 (TX0 1).2.2.1 ∈ wsX0_sumOfSquares := by decide +kernel
theorem kX0_sumOfSquares_39 : Cond.fieldLink RX0 39 "SheetRows" (TX0 6).2.1 (TX0 6).2.2.1 ∈ wsX0_sumOfSquares := by decide +kernel
theorem kX0_sumOfSquares_43 : Cond.fieldLink RX0 43 "SheetRows" (TX0 7).2.1 (TX0 7).2.2.1 ∈ wsX0_sumOfSquares := by decide +kernel
abbrev rmX0_sumOfSquares : Room := { frames := 2, cells := 0, slots := 0, locals := 44 }
set_option maxHeartbeats 4000000 in
set_option maxRecDepth 100000 in
theorem lqX0_sumOfSquares {p : Program} {l : Launch} {e : Env} {s : State} {m : MethodId} {args : Array Value} {below : List Frame} {meth : Method} {c : Code} {Q : State → Prop} {D : va_G} {A : Nat → Prop} {cB cI cZ cL : ClassId} {w h : Nat} {ad : Nat → Nat} {aG aS : Nat} {G S CB SB DK RE PF PK CO : Nat → Int} {rc pn kn cn : Int} (C : JC p m c cX0_sumOfSquares 5 s args wsX0_sumOfSquares RX0 D vwCl (tyl cB cI cZ cL) A) (hs : Sz w h) {b : Int} (hDK : ∀ k, k < w * h → DK k = 0 ∨ DK k = 1) {x : Nat} (hx : x < w) (kx : ∀ DR : Nat → Int, (∀ r, r < h → DR r = prt w h DK b x h r) → J p l e rmX0_sumOfSquares s m args below meth c Q 5 D vwCl A 78 [(0, .ref (ad 0)), (1, .int (zI b)), (2, .int (zI (x : Int))), (3, .int (zI ((shr h b x : Nat) : Int))), (4, .int (zI (h : Int)))] [] (wX cB cI cZ ad w h aG aS G S CB SB DK DR RE PF PK CO rc pn kn cn) 0 0) : ∀ (n y : Nat) (DR : Nat → Int), y ≤ h → h - y < n → (∀ r, r < h → DR r = prt w h DK b x y r) → J p l e rmX0_sumOfSquares s m args below meth c Q 5 D vwCl A 28 [(0, .ref (ad 0)), (1, .int (zI b)), (2, .int (zI (x : Int))), (3, .int (zI ((shr h b x : Nat) : Int))), (4, .int (zI (y : Int)))] [] (wX cB cI cZ ad w h aG aS G S CB SB DK DR RE PF PK CO rc pn kn cn) 0 0 := by
  have hm := hs.mul
  obtain ⟨h1, h2, h3, h4⟩ := id hs
  have hsl := shr_lt h3 b x
  intro n
  induction n with
  | zero => intro y DR _ hn; exact absurd hn (Nat.not_lt_zero _)
  | succ n ih =>
    intro y DR hy hn hDR
    refine j_iload C eX0_sumOfSquares_28 4 rfl ?_
    refine j_aload_n C eX0_sumOfSquares_30 0 rfl ?_
    refine j_getf C hwsX0_sumOfSquares 0 rfl rfl 1 (by decide) kX0_sumOfSquares_22 rfl rfl eX0_sumOfSquares_31 ?_
    refine j_icmp_ge C 78 eX0_sumOfSquares_34 (by decide) (by omega) (by omega) (fun c34 => ?_) (fun c34 => ?_)
    ·
      have he : y = h := by omega
      subst he
      exact kx DR hDR
    ·
      have h7 := ix_lt (w := w) (h := h) (x := x) (y := y) hx (by omega)
      have hd0 := hDK _ h7
      refine j_aload_n C eX0_sumOfSquares_37 0 rfl ?_
      refine j_getf C hwsX0_sumOfSquares 0 rfl rfl 6 (by decide) kX0_sumOfSquares_39 rfl rfl eX0_sumOfSquares_38 ?_
      refine j_iload C eX0_sumOfSquares_41 4 rfl ?_
      refine j_aload_n C eX0_sumOfSquares_43 0 rfl ?_
      refine j_getf C hwsX0_sumOfSquares 0 rfl rfl 0 (by decide) kX0_sumOfSquares_18 rfl rfl eX0_sumOfSquares_44 ?_
      refine j_imul C eX0_sumOfSquares_47 ?_
      refine j_iload_n C eX0_sumOfSquares_48 2 rfl ?_
      refine j_iadd C eX0_sumOfSquares_49 ?_
      refine j_zald C 5 2 rfl rfl (y * w + x) (by push_cast; rfl) h7 (by omega) eX0_sumOfSquares_50 ?_
      refine j_if_eq C 72 eX0_sumOfSquares_51 (by decide) (by omega) (fun c51 => ?_) (fun c51 => ?_)
      ·
        refine j_iinc C eX0_sumOfSquares_72 4 rfl rfl (by decide) (lv' := [(0, .ref (ad 0)), (1, .int (zI b)), (2, .int (zI (x : Int))), (3, .int (zI ((shr h b x : Nat) : Int))), (4, .int (zI ((y : Int) + 1)))]) rfl ?_
        refine j_goto C 28 eX0_sumOfSquares_75 (by decide) ?_
        refine ih (y + 1) _ (by omega) (by omega) (fun r hr => ?_)
        have e1 : prt w h DK b x (y + 1) r = prt w h DK b x y r + ccl w h DK b r x y := prt_y w h DK b x y r
        have e2 : ccl w h DK b r x y = 0 := by
          unfold ccl
          rw [if_neg (fun q => by omega)]
        rw [e1, e2, hDR r hr]; omega
      ·
        refine j_aload_n C eX0_sumOfSquares_54 0 rfl ?_
        refine j_getf C hwsX0_sumOfSquares 0 rfl rfl 7 (by decide) kX0_sumOfSquares_43 rfl rfl eX0_sumOfSquares_55 ?_
        refine j_iload C eX0_sumOfSquares_58 4 rfl ?_
        refine j_iload_n C eX0_sumOfSquares_60 3 rfl ?_
        refine j_iadd C eX0_sumOfSquares_61 ?_
        refine j_aload_n C eX0_sumOfSquares_62 0 rfl ?_
        refine j_getf C hwsX0_sumOfSquares 0 rfl rfl 1 (by decide) kX0_sumOfSquares_22 rfl rfl eX0_sumOfSquares_63 ?_
        refine j_irem C eX0_sumOfSquares_66 (by omega) (by omega) ?_
        have hrl : (y + shr h b x) % h < h := Nat.mod_lt _ (by omega)
        have er : ((y : Int) + ((shr h b x : Nat) : Int)).tmod (h : Int) = (((y + shr h b x) % h : Nat) : Int) := by rw [← tm_nat]; push_cast; rfl
        rw [er]
        refine j_dup2 C eX0_sumOfSquares_67 rfl rfl ?_
        refine j_iald C 6 1 rfl rfl ((y + shr h b x) % h) rfl (by omega) (by omega) eX0_sumOfSquares_68 ?_
        refine j_iconst C eX0_sumOfSquares_69 ?_
        refine j_iadd C eX0_sumOfSquares_70 ?_
        refine j_iast C 6 1 rfl rfl ((y + shr h b x) % h) rfl (by omega) (by omega) eX0_sumOfSquares_71 (wd' := wX cB cI cZ ad w h aG aS G S CB SB DK (zup DR ((y + shr h b x) % h) ((DR ((y + shr h b x) % h)) + 1)) RE PF PK CO rc pn kn cn) rfl ?_
        refine j_iinc C eX0_sumOfSquares_72 4 rfl rfl (by decide) (lv' := [(0, .ref (ad 0)), (1, .int (zI b)), (2, .int (zI (x : Int))), (3, .int (zI ((shr h b x : Nat) : Int))), (4, .int (zI ((y : Int) + 1)))]) rfl ?_
        refine j_goto C 28 eX0_sumOfSquares_75 (by decide) ?_
        refine ih (y + 1) _ (by omega) (by omega) (fun r hr => ?_)
        have e1 : prt w h DK b x (y + 1) r = prt w h DK b x y r + ccl w h DK b r x y := prt_y w h DK b x y r
        have e2 : ccl w h DK b r x y = if (y + shr h b x) % h = r then 1 else 0 := by
          unfold ccl
          have hd1 : DK (y * w + x) = 1 := by have := hDK _ h7; omega
          by_cases c : (y + shr h b x) % h = r
          · rw [if_pos c, if_pos ⟨hd1, c⟩]
          · rw [if_neg c, if_neg (fun q => c q.2)]
        rw [e1, e2]
        by_cases e : r = (y + shr h b x) % h
        · subst e
          rw [zup_s, if_pos rfl, hDR _ hrl]
        · rw [zup_n e, if_neg (fun q => e q.symm), hDR r hr]; omega
set_option maxHeartbeats 4000000 in
set_option maxRecDepth 100000 in
theorem lpX0_sumOfSquares {p : Program} {l : Launch} {e : Env} {s : State} {m : MethodId} {args : Array Value} {below : List Frame} {meth : Method} {c : Code} {Q : State → Prop} {D : va_G} {A : Nat → Prop} {cB cI cZ cL : ClassId} {w h : Nat} {ad : Nat → Nat} {aG aS : Nat} {G S CB SB DK RE PF PK CO : Nat → Int} {rc pn kn cn : Int} (C : JC p m c cX0_sumOfSquares 5 s args wsX0_sumOfSquares RX0 D vwCl (tyl cB cI cZ cL) A) (hs : Sz w h) {b : Int} (hb : -100 ≤ b ∧ b ≤ 100) (hDK : ∀ k, k < w * h → DK k = 0 ∨ DK k = 1) (kx : ∀ DR : Nat → Int, (∀ r, r < h → DR r = rwc w h DK b r) → J p l e rmX0_sumOfSquares s m args below meth c Q 5 D vwCl A 84 [(0, .ref (ad 0)), (1, .int (zI b)), (2, .int (zI (w : Int)))] [] (wX cB cI cZ ad w h aG aS G S CB SB DK DR RE PF PK CO rc pn kn cn) 0 0) : ∀ (n x : Nat) (DR : Nat → Int), x ≤ w → w - x < n → (∀ r, r < h → DR r = prt w h DK b x 0 r) → J p l e rmX0_sumOfSquares s m args below meth c Q 5 D vwCl A 10 [(0, .ref (ad 0)), (1, .int (zI b)), (2, .int (zI (x : Int)))] [] (wX cB cI cZ ad w h aG aS G S CB SB DK DR RE PF PK CO rc pn kn cn) 0 0 := by
  have hm := hs.mul
  obtain ⟨h1, h2, h3, h4⟩ := id hs
  intro n
  induction n with
  | zero => intro y DR _ hn; exact absurd hn (Nat.not_lt_zero _)
  | succ n ih =>
    intro x DR hx hn hDR
    refine j_iload_n C eX0_sumOfSquares_10 2 rfl ?_
    refine j_aload_n C eX0_sumOfSquares_11 0 rfl ?_
    refine j_getf C hwsX0_sumOfSquares 0 rfl rfl 0 (by decide) kX0_sumOfSquares_18 rfl rfl eX0_sumOfSquares_12 ?_
    refine j_icmp_ge C 84 eX0_sumOfSquares_15 (by decide) (by omega) (by omega) (fun c15 => ?_) (fun c15 => ?_)
    ·
      have he : x = w := by omega
      subst he
      exact kx DR (fun r hr => by rw [hDR r hr]; unfold prt rwc; show _ + 0 = _; omega)
    ·
      refine j_aload_n C eX0_sumOfSquares_18 0 rfl ?_
      refine j_iload_n C eX0_sumOfSquares_19 2 rfl ?_
      refine j_iload_n C eX0_sumOfSquares_20 1 rfl ?_
      refine j_callVi C (As := [.int (zI (x : Int)), .int (zI b)]) (rest := []) (ctX0_shearAt l D cB cI cZ cL ad w h hs aG aS G S CB SB DK DR RE PF PK CO rc pn kn cn x (by omega) b hb) (cwV 2 C.1.2.2.2.2 gX0_sumOfSquares_X0_shearAt rfl rfl rfl (by decide +kernel) ⟨Nat.le_of_ble_eq_true rfl, Nat.le_of_ble_eq_true rfl⟩) [0, 1, 2, 3, 4, 5, 6, 7, 8, 9, 10] [] (wr := []) rfl (by decide) rfl (by decide) (by decide) 0 rfl rfl rfl rfl (Nat.le_of_ble_eq_true rfl) eX0_sumOfSquares_21 ⟨Nat.le_of_ble_eq_true rfl, Nat.le_of_ble_eq_true rfl⟩ (fun z w1 hp => ?_)
      obtain ⟨rfl, rfl⟩ := hp
      rw [List.nil_append]
      refine j_istore_n C eX0_sumOfSquares_24 rfl (by decide) (lv' := [(0, .ref (ad 0)), (1, .int (zI b)), (2, .int (zI (x : Int))), (3, .int (zI ((shr h b x : Nat) : Int)))]) rfl ?_
      refine j_iconst C eX0_sumOfSquares_25 ?_
      refine j_istore C eX0_sumOfSquares_26 rfl (by decide) (lv' := [(0, .ref (ad 0)), (1, .int (zI b)), (2, .int (zI (x : Int))), (3, .int (zI ((shr h b x : Nat) : Int))), (4, .int (zI 0))]) rfl ?_
      refine lqX0_sumOfSquares C hs hDK (by omega) (fun DR hDR => ?_) (h + 1) 0 DR (by omega) (by omega) hDR
      refine j_iinc C eX0_sumOfSquares_78 2 rfl rfl (by decide) (lv' := [(0, .ref (ad 0)), (1, .int (zI b)), (2, .int (zI ((x : Int) + 1))), (3, .int (zI ((shr h b x : Nat) : Int))), (4, .int (zI (h : Int)))]) rfl ?_
      refine j_goto C 10 eX0_sumOfSquares_81 (by decide) ?_
      refine j_loc [0, 1, 2] (lv' := [(0, .ref (ad 0)), (1, .int (zI b)), (2, .int (zI ((x : Int) + 1)))]) rfl ?_
      exact ih (x + 1) DR (by omega) (by omega) (fun r hr => by rw [hDR r hr, prt_x])
set_option maxHeartbeats 4000000 in
set_option maxRecDepth 100000 in
theorem lrX0_sumOfSquares {p : Program} {l : Launch} {e : Env} {s : State} {m : MethodId} {args : Array Value} {below : List Frame} {meth : Method} {c : Code} {Q : State → Prop} {D : va_G} {A : Nat → Prop} {cB cI cZ cL : ClassId} {w h : Nat} {ad : Nat → Nat} {aG aS : Nat} {G S CB SB DK DR RE PF PK CO : Nat → Int} {rc pn kn cn : Int} (C : JC p m c cX0_sumOfSquares 5 s args wsX0_sumOfSquares RX0 D vwCl (tyl cB cI cZ cL) A) (hs : Sz w h) {b : Int} (hDR : ∀ r, r < h → DR r = rwc w h DK b r) (kx : J p l e rmX0_sumOfSquares s m args below meth c Q 5 D vwCl A 118 [(0, .ref (ad 0)), (1, .int (zI b)), (2, .int (zI (sumN (fun r => rwc w h DK b r * rwc w h DK b r) h))), (3, .int (zI (h : Int)))] [] (wX cB cI cZ ad w h aG aS G S CB SB DK DR RE PF PK CO rc pn kn cn) 0 0) : ∀ (n r : Nat), r ≤ h → h - r < n → J p l e rmX0_sumOfSquares s m args below meth c Q 5 D vwCl A 88 [(0, .ref (ad 0)), (1, .int (zI b)), (2, .int (zI (sumN (fun r => rwc w h DK b r * rwc w h DK b r) r))), (3, .int (zI (r : Int)))] [] (wX cB cI cZ ad w h aG aS G S CB SB DK DR RE PF PK CO rc pn kn cn) 0 0 := by
  obtain ⟨h1, h2, h3, h4⟩ := id hs
  intro n
  induction n with
  | zero => intro y _ hn; exact absurd hn (Nat.not_lt_zero _)
  | succ n ih =>
    intro r hr hn
    refine j_iload_n C eX0_sumOfSquares_88 3 rfl ?_
    refine j_aload_n C eX0_sumOfSquares_89 0 rfl ?_
    refine j_getf C hwsX0_sumOfSquares 0 rfl rfl 1 (by decide) kX0_sumOfSquares_22 rfl rfl eX0_sumOfSquares_90 ?_
    refine j_icmp_ge C 118 eX0_sumOfSquares_93 (by decide) (by omega) (by omega) (fun c93 => ?_) (fun c93 => ?_)
    ·
      have he : r = h := by omega
      subst he
      exact kx
    ·
      refine j_iload_n C eX0_sumOfSquares_96 2 rfl ?_
      refine j_aload_n C eX0_sumOfSquares_97 0 rfl ?_
      refine j_getf C hwsX0_sumOfSquares 0 rfl rfl 7 (by decide) kX0_sumOfSquares_43 rfl rfl eX0_sumOfSquares_98 ?_
      refine j_iload_n C eX0_sumOfSquares_101 3 rfl ?_
      refine j_iald C 6 1 rfl rfl r rfl (by omega) (by omega) eX0_sumOfSquares_102 ?_
      refine j_aload_n C eX0_sumOfSquares_103 0 rfl ?_
      refine j_getf C hwsX0_sumOfSquares 0 rfl rfl 7 (by decide) kX0_sumOfSquares_43 rfl rfl eX0_sumOfSquares_104 ?_
      refine j_iload_n C eX0_sumOfSquares_107 3 rfl ?_
      refine j_iald C 6 1 rfl rfl r rfl (by omega) (by omega) eX0_sumOfSquares_108 ?_
      refine j_imul C eX0_sumOfSquares_109 ?_
      refine j_iadd C eX0_sumOfSquares_110 ?_
      refine j_istore_n C eX0_sumOfSquares_111 rfl (by decide) (lv' := [(0, .ref (ad 0)), (1, .int (zI b)), (2, .int (zI ((sumN (fun r => rwc w h DK b r * rwc w h DK b r) r) + ((DR r) * (DR r))))), (3, .int (zI (r : Int)))]) rfl ?_
      refine j_iinc C eX0_sumOfSquares_112 3 rfl rfl (by decide) (lv' := [(0, .ref (ad 0)), (1, .int (zI b)), (2, .int (zI ((sumN (fun r => rwc w h DK b r * rwc w h DK b r) r) + ((DR r) * (DR r))))), (3, .int (zI ((r : Int) + 1)))]) rfl ?_
      refine j_goto C 88 eX0_sumOfSquares_115 (by decide) ?_
      have hb9 := ih (r + 1) (by omega) (by omega)
      rw [hDR r (by omega)]
      exact hb9
set_option maxHeartbeats 4000000 in
set_option maxRecDepth 100000 in
theorem ctX0_sumOfSquares (l : Launch) (D : va_G) (cB cI cZ cL : ClassId) (ad : Nat → Nat) (w h : Nat) (hs : Sz w h) (aG aS : Nat) (G S CB SB DK DR RE PF PK CO : Nat → Int) (rc pn kn cn : Int) (b : Int) (hb : -100 ≤ b ∧ b ≤ 100) (hDK : ∀ k, k < w * h → DK k = 0 ∨ DK k = 1) : mI l yX0_sumOfSquares wsX0_sumOfSquares rmX0_sumOfSquares D vwCl (tyl cB cI cZ cL) [.ref (ad 0), .int (zI b)] (wX cB cI cZ ad w h aG aS G S CB SB DK DR RE PF PK CO rc pn kn cn) 0 0 (fun z w1 => ∃ DR' : Nat → Int, w1 = wX cB cI cZ ad w h aG aS G S CB SB DK DR' RE PF PK CO rc pn kn cn ∧ z = ssq w h DK b) := by
  refine mI_of (own := RX0) rfl (by decide) rfl (Nat.le_of_ble_eq_true rfl) ?_
  intro p e s m args below meth c C hr hlocks hname
  show J p l e rmX0_sumOfSquares s m args below meth c _ 5 D vwCl _ 0 [(0, .ref (ad 0)), (1, .int (zI b))] [] (wX cB cI cZ ad w h aG aS G S CB SB DK DR RE PF PK CO rc pn kn cn) 0 0
  have hm := hs.mul
  obtain ⟨h1, h2, h3, h4⟩ := id hs
  refine j_aload_n C eX0_sumOfSquares_0 0 rfl ?_
  refine j_getf C hwsX0_sumOfSquares 0 rfl rfl 7 (by decide) kX0_sumOfSquares_43 rfl rfl eX0_sumOfSquares_1 ?_
  refine j_iconst C eX0_sumOfSquares_4 ?_
  refine j_callSv C (As := [.ref (ad 7), .int (zI 0)]) (rest := []) (ctJ7_fill_53178 l D cB cI cZ cL (ad 7) h DR 0 (by omega)) (va_cwS 2 C.1.2.2.2.2 gX0_sumOfSquares_J7_fill_53178 rfl rfl rfl (by decide +kernel) ⟨Nat.le_of_ble_eq_true rfl, Nat.le_of_ble_eq_true rfl⟩) [6] [0, 1, 2, 3, 4, 5, 7, 8, 9, 10] (wr := ([0, 1, 2, 3, 4, 5, 7, 8, 9, 10].filterMap (fun i => (wX cB cI cZ ad w h aG aS G S CB SB DK DR RE PF PK CO rc pn kn cn)[i]?))) rfl (by decide) rfl (by decide) (by decide) rfl rfl (Nat.le_of_ble_eq_true rfl) eX0_sumOfSquares_5 ⟨Nat.le_of_ble_eq_true rfl, Nat.le_of_ble_eq_true rfl⟩ (fun w1 hp => ?_)
  obtain ⟨DR1, hDR1, rfl⟩ := hp
  refine j_perm [0, 1, 2, 3, 4, 5, 10, 6, 7, 8, 9] (by decide) (wd' := wX cB cI cZ ad w h aG aS G S CB SB DK DR1 RE PF PK CO rc pn kn cn) rfl ?_
  refine j_iconst C eX0_sumOfSquares_8 ?_
  refine j_istore_n C eX0_sumOfSquares_9 rfl (by decide) (lv' := [(0, .ref (ad 0)), (1, .int (zI b)), (2, .int (zI 0))]) rfl ?_
  refine lpX0_sumOfSquares C hs hb hDK (fun DR2 hDR2 => ?_) (w + 1) 0 DR1 (by omega) (by omega) (fun r hr => by rw [hDR1 r hr]; rfl)
  refine j_iconst C eX0_sumOfSquares_84 ?_
  refine j_istore_n C eX0_sumOfSquares_85 rfl (by decide) (lv' := [(0, .ref (ad 0)), (1, .int (zI b)), (2, .int (zI 0))]) rfl ?_
  refine j_iconst C eX0_sumOfSquares_86 ?_
  refine j_istore_n C eX0_sumOfSquares_87 rfl (by decide) (lv' := [(0, .ref (ad 0)), (1, .int (zI b)), (2, .int (zI 0)), (3, .int (zI 0))]) rfl ?_
  refine lrX0_sumOfSquares C hs hDR2 ?_ (h + 1) 0 (by omega) (by omega)
  refine j_iload_n C eX0_sumOfSquares_118 2 rfl ?_
  exact j_iret C hr hlocks rfl eX0_sumOfSquares_119 ⟨DR2, rfl, rfl⟩
theorem hwsX0_skew : ∀ w ∈ u_ws RX0 TX0 16, w ∈ wsX0_skew := fun _ h => List.mem_cons_of_mem _ (List.mem_append_right _ h)
abbrev rmX0_skew : Room := { frames := 4, cells := 0, slots := 0, locals := 96 }
set_option maxHeartbeats 4000000 in
set_option maxRecDepth 100000 in
theorem lpX0_skew {p : Program} {l : Launch} {e : Env} {s : State} {m : MethodId} {args : Array Value} {below : List Frame} {meth : Method} {c : Code} {Q : State → Prop} {D : va_G} {A : Nat → Prop} {cB cI cZ cL : ClassId} {w h : Nat} {ad : Nat → Nat} {aG aS : Nat} {G S CB SB DK RE PF PK CO : Nat → Int} {rc pn kn cn : Int} (C : JC p m c cX0_skew 6 s args wsX0_skew RX0 D vwCl (tyl cB cI cZ cL) A) (hs : Sz w h) (hDK : ∀ k, k < w * h → DK k = 0 ∨ DK k = 1) (kx : ∀ DR : Nat → Int, J p l e rmX0_skew s m args below meth c Q 6 D vwCl A 64 [(0, .ref (ad 0)), (1, .int (zI (skb (ssq w h DK) 8))), (2, .int (zI ((ssq w h DK) (skb (ssq w h DK) 8)))), (3, .int (zI (((8 : Nat) : Int) + 1)))] [] (wX cB cI cZ ad w h aG aS G S CB SB DK DR RE PF PK CO rc pn kn cn) 0 0) : ∀ (n a : Nat) (DR : Nat → Int), a ≤ 8 → 8 - a < n → J p l e rmX0_skew s m args below meth c Q 6 D vwCl A 14 [(0, .ref (ad 0)), (1, .int (zI (skb (ssq w h DK) a))), (2, .int (zI ((ssq w h DK) (skb (ssq w h DK) a)))), (3, .int (zI (((a : Nat) : Int) + 1)))] [] (wX cB cI cZ ad w h aG aS G S CB SB DK DR RE PF PK CO rc pn kn cn) 0 0 := by
  have hq : ∀ b : Int, 0 ≤ (ssq w h DK) b ∧ (ssq w h DK) b ≤ 254803968 := fun b => ssq_in hs DK b
  intro n
  induction n with
  | zero => intro a DR _ hn; exact absurd hn (Nat.not_lt_zero _)
  | succ n ih =>
    intro a DR ha hn
    have hk := skb_in (ssq w h DK) a
    refine j_iload_n C eX0_skew_14 3 rfl ?_
    refine j_bipush C eX0_skew_15 (by decide +kernel) ?_
    refine j_icmp_gt C 64 eX0_skew_17 (by decide) (by omega) (by omega) (fun c17 => ?_) (fun c17 => ?_)
    ·
      have he : a = 8 := by omega
      subst he
      exact kx DR
    ·
      refine j_aload_n C eX0_skew_20 0 rfl ?_
      refine j_iload_n C eX0_skew_21 3 rfl ?_
      refine j_ineg C eX0_skew_22 ?_
      refine j_callVi C (As := [.int (zI (-(((a : Nat) : Int) + 1)))]) (rest := []) (ctX0_sumOfSquares l D cB cI cZ cL ad w h hs aG aS G S CB SB DK DR RE PF PK CO rc pn kn cn (-((a : Int) + 1)) (by omega) hDK) (cwV 1 C.1.2.2.2.2 gX0_skew_X0_sumOfSquares rfl rfl rfl (by decide +kernel) ⟨Nat.le_of_ble_eq_true rfl, Nat.le_of_ble_eq_true rfl⟩) [0, 1, 2, 3, 4, 5, 6, 7, 8, 9, 10] [] (wr := []) rfl (by decide) rfl (by decide) (by decide) 0 rfl rfl rfl rfl (Nat.le_of_ble_eq_true rfl) eX0_skew_23 ⟨Nat.le_of_ble_eq_true rfl, Nat.le_of_ble_eq_true rfl⟩ (fun z w1 hp => ?_)
      obtain ⟨DR1, rfl, rfl⟩ := hp
      rw [List.nil_append]
      have hq1 := hq (-((a : Int) + 1))
      have hq2 := hq (skb (ssq w h DK) a)
      refine j_istore C eX0_skew_26 rfl (by decide) (lv' := [(0, .ref (ad 0)), (1, .int (zI (skb (ssq w h DK) a))), (2, .int (zI ((ssq w h DK) (skb (ssq w h DK) a)))), (3, .int (zI (((a : Nat) : Int) + 1))), (4, .int (zI ((ssq w h DK) (-((a : Int) + 1)))))]) rfl ?_
      refine j_iload C eX0_skew_28 4 rfl ?_
      refine j_iload_n C eX0_skew_30 2 rfl ?_
      refine j_icmp_le C 40 eX0_skew_31 (by decide) (by omega) (by omega) (fun c31 => ?_) (fun c31 => ?_)
      ·
        refine j_aload_n C eX0_skew_40 0 rfl ?_
        refine j_iload_n C eX0_skew_41 3 rfl ?_
        refine j_callVi C (As := [.int (zI (((a : Nat) : Int) + 1))]) (rest := []) (ctX0_sumOfSquares l D cB cI cZ cL ad w h hs aG aS G S CB SB DK DR1 RE PF PK CO rc pn kn cn ((a : Int) + 1) (by omega) hDK) (cwV 1 C.1.2.2.2.2 gX0_skew_X0_sumOfSquares rfl rfl rfl (by decide +kernel) ⟨Nat.le_of_ble_eq_true rfl, Nat.le_of_ble_eq_true rfl⟩) [0, 1, 2, 3, 4, 5, 6, 7, 8, 9, 10] [] (wr := []) rfl (by decide) rfl (by decide) (by decide) 0 rfl rfl rfl rfl (Nat.le_of_ble_eq_true rfl) eX0_skew_42 ⟨Nat.le_of_ble_eq_true rfl, Nat.le_of_ble_eq_true rfl⟩ (fun z w1 hp => ?_)
        obtain ⟨DR2, rfl, rfl⟩ := hp
        rw [List.nil_append]
        have hq3 := hq ((a : Int) + 1)
        refine j_istore C eX0_skew_45 rfl (by decide) (lv' := [(0, .ref (ad 0)), (1, .int (zI (skb (ssq w h DK) a))), (2, .int (zI ((ssq w h DK) (skb (ssq w h DK) a)))), (3, .int (zI (((a : Nat) : Int) + 1))), (4, .int (zI ((ssq w h DK) (-((a : Int) + 1))))), (5, .int (zI ((ssq w h DK) ((a : Int) + 1))))]) rfl ?_
        refine j_iload C eX0_skew_47 5 rfl ?_
        refine j_iload_n C eX0_skew_49 2 rfl ?_
        refine j_icmp_le C 58 eX0_skew_50 (by decide) (by omega) (by omega) (fun c50 => ?_) (fun c50 => ?_)
        ·
          refine j_iinc C eX0_skew_58 3 rfl rfl (by decide) (lv' := [(0, .ref (ad 0)), (1, .int (zI (skb (ssq w h DK) a))), (2, .int (zI ((ssq w h DK) (skb (ssq w h DK) a)))), (3, .int (zI ((((a : Nat) : Int) + 1) + 1))), (4, .int (zI ((ssq w h DK) (-((a : Int) + 1))))), (5, .int (zI ((ssq w h DK) ((a : Int) + 1))))]) rfl ?_
          refine j_goto C 14 eX0_skew_61 (by decide) ?_
          refine j_loc [0, 1, 2, 3] (lv' := [(0, .ref (ad 0)), (1, .int (zI (skb (ssq w h DK) a))), (2, .int (zI ((ssq w h DK) (skb (ssq w h DK) a)))), (3, .int (zI ((((a : Nat) : Int) + 1) + 1)))]) rfl ?_
          have hb9 := ih (a + 1) DR2 (by omega) (by omega)
          have e1 : skb (ssq w h DK) (a + 1) = skb (ssq w h DK) a := by
            show pk2 (ssq w h DK) (pk2 (ssq w h DK) (skb (ssq w h DK) a) (-((a : Int) + 1))) ((a : Int) + 1) = _
            unfold pk2
            first
              | rw [if_pos c31, if_pos c50]
              | rw [if_pos c31, if_neg (Int.not_lt.mpr c50)]
              | rw [if_neg (Int.not_lt.mpr c31), if_pos c50]
              | rw [if_neg (Int.not_lt.mpr c31), if_neg (Int.not_lt.mpr c50)]
          rw [e1] at hb9
          exact hb9
        ·
          refine j_iload_n C eX0_skew_53 3 rfl ?_
          refine j_istore_n C eX0_skew_54 rfl (by decide) (lv' := [(0, .ref (ad 0)), (1, .int (zI (((a : Nat) : Int) + 1))), (2, .int (zI ((ssq w h DK) (skb (ssq w h DK) a)))), (3, .int (zI (((a : Nat) : Int) + 1))), (4, .int (zI ((ssq w h DK) (-((a : Int) + 1))))), (5, .int (zI ((ssq w h DK) ((a : Int) + 1))))]) rfl ?_
          refine j_iload C eX0_skew_55 5 rfl ?_
          refine j_istore_n C eX0_skew_57 rfl (by decide) (lv' := [(0, .ref (ad 0)), (1, .int (zI (((a : Nat) : Int) + 1))), (2, .int (zI ((ssq w h DK) ((a : Int) + 1)))), (3, .int (zI (((a : Nat) : Int) + 1))), (4, .int (zI ((ssq w h DK) (-((a : Int) + 1))))), (5, .int (zI ((ssq w h DK) ((a : Int) + 1))))]) rfl ?_
          refine j_iinc C eX0_skew_58 3 rfl rfl (by decide) (lv' := [(0, .ref (ad 0)), (1, .int (zI (((a : Nat) : Int) + 1))), (2, .int (zI ((ssq w h DK) ((a : Int) + 1)))), (3, .int (zI ((((a : Nat) : Int) + 1) + 1))), (4, .int (zI ((ssq w h DK) (-((a : Int) + 1))))), (5, .int (zI ((ssq w h DK) ((a : Int) + 1))))]) rfl ?_
          refine j_goto C 14 eX0_skew_61 (by decide) ?_
          refine j_loc [0, 1, 2, 3] (lv' := [(0, .ref (ad 0)), (1, .int (zI (((a : Nat) : Int) + 1))), (2, .int (zI ((ssq w h DK) ((a : Int) + 1)))), (3, .int (zI ((((a : Nat) : Int) + 1) + 1)))]) rfl ?_
          have hb9 := ih (a + 1) DR2 (by omega) (by omega)
          have e1 : skb (ssq w h DK) (a + 1) = ((a : Nat) : Int) + 1 := by
            show pk2 (ssq w h DK) (pk2 (ssq w h DK) (skb (ssq w h DK) a) (-((a : Int) + 1))) ((a : Int) + 1) = _
            unfold pk2
            first
              | rw [if_pos c31, if_pos c50]
              | rw [if_pos c31, if_neg (Int.not_lt.mpr c50)]
              | rw [if_neg (Int.not_lt.mpr c31), if_pos c50]
              | rw [if_neg (Int.not_lt.mpr c31), if_neg (Int.not_lt.mpr c50)]
          rw [e1] at hb9
          exact hb9
      ·
        refine j_iload_n C eX0_skew_34 3 rfl ?_
        refine j_ineg C eX0_skew_35 ?_
        refine j_istore_n C eX0_skew_36 rfl (by decide) (lv' := [(0, .ref (ad 0)), (1, .int (zI (-(((a : Nat) : Int) + 1)))), (2, .int (zI ((ssq w h DK) (skb (ssq w h DK) a)))), (3, .int (zI (((a : Nat) : Int) + 1))), (4, .int (zI ((ssq w h DK) (-((a : Int) + 1)))))]) rfl ?_
        refine j_iload C eX0_skew_37 4 rfl ?_
        refine j_istore_n C eX0_skew_39 rfl (by decide) (lv' := [(0, .ref (ad 0)), (1, .int (zI (-(((a : Nat) : Int) + 1)))), (2, .int (zI ((ssq w h DK) (-((a : Int) + 1))))), (3, .int (zI (((a : Nat) : Int) + 1))), (4, .int (zI ((ssq w h DK) (-((a : Int) + 1)))))]) rfl ?_
        refine j_aload_n C eX0_skew_40 0 rfl ?_
        refine j_iload_n C eX0_skew_41 3 rfl ?_
        refine j_callVi C (As := [.int (zI (((a : Nat) : Int) + 1))]) (rest := []) (ctX0_sumOfSquares l D cB cI cZ cL ad w h hs aG aS G S CB SB DK DR1 RE PF PK CO rc pn kn cn ((a : Int) + 1) (by omega) hDK) (cwV 1 C.1.2.2.2.2 gX0_skew_X0_sumOfSquares rfl rfl rfl (by decide +kernel) ⟨Nat.le_of_ble_eq_true rfl, Nat.le_of_ble_eq_true rfl⟩) [0, 1, 2, 3, 4, 5, 6, 7, 8, 9, 10] [] (wr := []) rfl (by decide) rfl (by decide) (by decide) 0 rfl rfl rfl rfl (Nat.le_of_ble_eq_true rfl) eX0_skew_42 ⟨Nat.le_of_ble_eq_true rfl, Nat.le_of_ble_eq_true rfl⟩ (fun z w1 hp => ?_)
        obtain ⟨DR2, rfl, rfl⟩ := hp
        rw [List.nil_append]
        have hq3 := hq ((a : Int) + 1)
        refine j_istore C eX0_skew_45 rfl (by decide) (lv' := [(0, .ref (ad 0)), (1, .int (zI (-(((a : Nat) : Int) + 1)))), (2, .int (zI ((ssq w h DK) (-((a : Int) + 1))))), (3, .int (zI (((a : Nat) : Int) + 1))), (4, .int (zI ((ssq w h DK) (-((a : Int) + 1))))), (5, .int (zI ((ssq w h DK) ((a : Int) + 1))))]) rfl ?_
        refine j_iload C eX0_skew_47 5 rfl ?_
        refine j_iload_n C eX0_skew_49 2 rfl ?_
        refine j_icmp_le C 58 eX0_skew_50 (by decide) (by omega) (by omega) (fun c50 => ?_) (fun c50 => ?_)
        ·
          refine j_iinc C eX0_skew_58 3 rfl rfl (by decide) (lv' := [(0, .ref (ad 0)), (1, .int (zI (-(((a : Nat) : Int) + 1)))), (2, .int (zI ((ssq w h DK) (-((a : Int) + 1))))), (3, .int (zI ((((a : Nat) : Int) + 1) + 1))), (4, .int (zI ((ssq w h DK) (-((a : Int) + 1))))), (5, .int (zI ((ssq w h DK) ((a : Int) + 1))))]) rfl ?_
          refine j_goto C 14 eX0_skew_61 (by decide) ?_
          refine j_loc [0, 1, 2, 3] (lv' := [(0, .ref (ad 0)), (1, .int (zI (-(((a : Nat) : Int) + 1)))), (2, .int (zI ((ssq w h DK) (-((a : Int) + 1))))), (3, .int (zI ((((a : Nat) : Int) + 1) + 1)))]) rfl ?_
          have hb9 := ih (a + 1) DR2 (by omega) (by omega)
          have e1 : skb (ssq w h DK) (a + 1) = -(((a : Nat) : Int) + 1) := by
            show pk2 (ssq w h DK) (pk2 (ssq w h DK) (skb (ssq w h DK) a) (-((a : Int) + 1))) ((a : Int) + 1) = _
            unfold pk2
            first
              | rw [if_pos c31, if_pos c50]
              | rw [if_pos c31, if_neg (Int.not_lt.mpr c50)]
              | rw [if_neg (Int.not_lt.mpr c31), if_pos c50]
              | rw [if_neg (Int.not_lt.mpr c31), if_neg (Int.not_lt.mpr c50)]
          rw [e1] at hb9
          exact hb9
        ·
          refine j_iload_n C eX0_skew_53 3 rfl ?_
          refine j_istore_n C eX0_skew_54 rfl (by decide) (lv' := [(0, .ref (ad 0)), (1, .int (zI (((a : Nat) : Int) + 1))), (2, .int (zI ((ssq w h DK) (-((a : Int) + 1))))), (3, .int (zI (((a : Nat) : Int) + 1))), (4, .int (zI ((ssq w h DK) (-((a : Int) + 1))))), (5, .int (zI ((ssq w h DK) ((a : Int) + 1))))]) rfl ?_
          refine j_iload C eX0_skew_55 5 rfl ?_
          refine j_istore_n C eX0_skew_57 rfl (by decide) (lv' := [(0, .ref (ad 0)), (1, .int (zI (((a : Nat) : Int) + 1))), (2, .int (zI ((ssq w h DK) ((a : Int) + 1)))), (3, .int (zI (((a : Nat) : Int) + 1))), (4, .int (zI ((ssq w h DK) (-((a : Int) + 1))))), (5, .int (zI ((ssq w h DK) ((a : Int) + 1))))]) rfl ?_
          refine j_iinc C eX0_skew_58 3 rfl rfl (by decide) (lv' := [(0, .ref (ad 0)), (1, .int (zI (((a : Nat) : Int) + 1))), (2, .int (zI ((ssq w h DK) ((a : Int) + 1)))), (3, .int (zI ((((a : Nat) : Int) + 1) + 1))), (4, .int (zI ((ssq w h DK) (-((a : Int) + 1))))), (5, .int (zI ((ssq w h DK) ((a : Int) + 1))))]) rfl ?_
          refine j_goto C 14 eX0_skew_61 (by decide) ?_
          refine j_loc [0, 1, 2, 3] (lv' := [(0, .ref (ad 0)), (1, .int (zI (((a : Nat) : Int) + 1))), (2, .int (zI ((ssq w h DK) ((a : Int) + 1)))), (3, .int (zI ((((a : Nat) : Int) + 1) + 1)))]) rfl ?_
          have hb9 := ih (a + 1) DR2 (by omega) (by omega)
          have e1 : skb (ssq w h DK) (a + 1) = ((a : Nat) : Int) + 1 := by
            show pk2 (ssq w h DK) (pk2 (ssq w h DK) (skb (ssq w h DK) a) (-((a : Int) + 1))) ((a : Int) + 1) = _
            unfold pk2
            first
              | rw [if_pos c31, if_pos c50]
              | rw [if_pos c31, if_neg (Int.not_lt.mpr c50)]
              | rw [if_neg (Int.not_lt.mpr c31), if_pos c50]
              | rw [if_neg (Int.not_lt.mpr c31), if_neg (Int.not_lt.mpr c50)]
          rw [e1] at hb9
          exact hb9
set_option maxHeartbeats 4000000 in
set_option maxRecDepth 100000 in
theorem ctX0_skew (l : Launch) (D : va_G) (cB cI cZ cL : ClassId) (ad : Nat → Nat) (w h : Nat) (hs : Sz w h) (aG aS : Nat) (G S CB SB DK DR RE PF PK CO : Nat → Int) (rc pn kn cn : Int)  : mI l yX0_skew wsX0_skew rmX0_skew D vwCl (tyl cB cI cZ cL) [.ref (ad 0)] (wX cB cI cZ ad w h aG aS G S CB SB DK DR RE PF PK CO rc pn kn cn) 0 0 (fun z w1 => ∃ CB' SB' DK' DR' : Nat → Int, w1 = wX cB cI cZ ad w h aG aS G S CB' SB' DK' DR' RE PF PK CO rc pn kn cn ∧ z = skb (ssq w h (dkf (fun k => G k % 256) (w * h))) 8) := by
  refine mI_of (own := RX0) rfl (by decide) rfl (Nat.le_of_ble_eq_true rfl) ?_
  intro p e s m args below meth c C hr hlocks hname
  show J p l e rmX0_skew s m args below meth c _ 6 D vwCl _ 0 [(0, .ref (ad 0))] [] (wX cB cI cZ ad w h aG aS G S CB SB DK DR RE PF PK CO rc pn kn cn) 0 0
  refine j_aload_n C eX0_skew_0 0 rfl ?_
  refine j_callVv C (As := []) (rest := []) (ctX0_markDark l D cB cI cZ cL ad w h hs aG aS G S CB SB DK DR RE PF PK CO rc pn kn cn ) (cwV 0 C.1.2.2.2.2 gX0_skew_X0_markDark rfl rfl rfl (by decide +kernel) ⟨Nat.le_of_ble_eq_true rfl, Nat.le_of_ble_eq_true rfl⟩) [0, 1, 2, 3, 4, 5, 6, 7, 8, 9, 10] [] (wr := []) rfl (by decide) rfl (by decide) (by decide) 0 rfl rfl rfl rfl (Nat.le_of_ble_eq_true rfl) eX0_skew_1 ⟨Nat.le_of_ble_eq_true rfl, Nat.le_of_ble_eq_true rfl⟩ (fun w1 hp => ?_)
  obtain ⟨CB1, SB1, DK1, hDK1, rfl⟩ := hp
  rw [List.nil_append]
  have hDK : ∀ k, k < w * h → DK1 k = 0 ∨ DK1 k = 1 := fun k hk => by rw [hDK1 k hk]; exact dkf_01 _ _ _
  refine j_iconst C eX0_skew_4 ?_
  refine j_istore_n C eX0_skew_5 rfl (by decide) (lv' := [(0, .ref (ad 0)), (1, .int (zI 0))]) rfl ?_
  refine j_aload_n C eX0_skew_6 0 rfl ?_
  refine j_iconst C eX0_skew_7 ?_
  refine j_callVi C (As := [.int (zI 0)]) (rest := []) (ctX0_sumOfSquares l D cB cI cZ cL ad w h hs aG aS G S CB1 SB1 DK1 DR RE PF PK CO rc pn kn cn 0 (by omega) hDK) (cwV 1 C.1.2.2.2.2 gX0_skew_X0_sumOfSquares rfl rfl rfl (by decide +kernel) ⟨Nat.le_of_ble_eq_true rfl, Nat.le_of_ble_eq_true rfl⟩) [0, 1, 2, 3, 4, 5, 6, 7, 8, 9, 10] [] (wr := []) rfl (by decide) rfl (by decide) (by decide) 0 rfl rfl rfl rfl (Nat.le_of_ble_eq_true rfl) eX0_skew_8 ⟨Nat.le_of_ble_eq_true rfl, Nat.le_of_ble_eq_true rfl⟩ (fun z w1 hp => ?_)
  obtain ⟨DR1, rfl, rfl⟩ := hp
  rw [List.nil_append]
  refine j_istore_n C eX0_skew_11 rfl (by decide) (lv' := [(0, .ref (ad 0)), (1, .int (zI 0)), (2, .int (zI (ssq w h DK1 0)))]) rfl ?_
  refine j_iconst C eX0_skew_12 ?_
  refine j_istore_n C eX0_skew_13 rfl (by decide) (lv' := [(0, .ref (ad 0)), (1, .int (zI 0)), (2, .int (zI (ssq w h DK1 0))), (3, .int (zI 1))]) rfl ?_
  refine lpX0_skew C hs hDK (fun DR2 => ?_) 9 0 DR1 (by omega) (by omega)
  refine j_iload_n C eX0_skew_64 1 rfl ?_
  exact j_iret C hr hlocks rfl eX0_skew_65 ⟨CB1, SB1, DK1, DR2, rfl, skb_congr (fun b => ssq_congr hDK1 b) 8⟩
theorem hwsX0_turn : ∀ w ∈ u_ws RX0 TX0 16, w ∈ wsX0_turn := fun _ h => List.mem_cons_of_mem _ (List.mem_append_right _ h)
theorem kX0_turn_18 : Cond.fieldLink RX0 18 "SheetRows" (TX0 0).2.1 (TX0 0).2.2.1 ∈ wsX0_turn := by decide +kernel
theorem kX0_turn_22 : Cond.fieldLink RX0 22 "SheetRows" (TX0 1).2.1 (TX0 1).2.2.1 ∈ wsX0_turn := by decide +kernel
theorem kX0_turn_25 : Cond.fieldLink RX0 25 "SheetRows" (TX0 2).2.1 (TX0 2).2.2.1 ∈ wsX0_turn := by decide +kernel
theorem kX0_turn_29 : Cond.fieldLink RX0 29 "SheetRows" (TX0 3).2.1 (TX0 3).2.2.1 ∈ wsX0_turn := by decide +kernel
abbrev rmX0_turn : Room := { frames := 2, cells := 0, slots := 0, locals := 44 }
set_option maxHeartbeats 4000000 in
set_option maxRecDepth 100000 in
theorem lqX0_turn {p : Program} {l : Launch} {e : Env} {s : State} {m : MethodId} {args : Array Value} {below : List Frame} {meth : Method} {c : Code} {Q : State → Prop} {D : va_G} {A : Nat → Prop} {cB cI cZ cL : ClassId} {w h : Nat} {ad : Nat → Nat} {aG aS : Nat} {G CB SB DK DR RE PF PK CO : Nat → Int} {rc pn kn cn : Int} (C : JC p m c cX0_turn 5 s args wsX0_turn RX0 D vwCl (tyl cB cI cZ cL) A) (hs : Sz w h) {b : Int} (hG : byt (w * h) G) {x : Nat} (hx : x < w) (kx : ∀ S : Nat → Int, tnd w h G b x h S → J p l e rmX0_turn s m args below meth c Q 5 D vwCl A 84 [(0, .ref (ad 0)), (1, .int (zI b)), (2, .int (zI (x : Int))), (3, .int (zI ((shr h b x : Nat) : Int))), (4, .int (zI (h : Int)))] [] (wX cB cI cZ ad w h aG aS G S CB SB DK DR RE PF PK CO rc pn kn cn) 0 0) : ∀ (n y : Nat) (S : Nat → Int), y ≤ h → h - y < n → tnd w h G b x y S → J p l e rmX0_turn s m args below meth c Q 5 D vwCl A 34 [(0, .ref (ad 0)), (1, .int (zI b)), (2, .int (zI (x : Int))), (3, .int (zI ((shr h b x : Nat) : Int))), (4, .int (zI (y : Int)))] [] (wX cB cI cZ ad w h aG aS G S CB SB DK DR RE PF PK CO rc pn kn cn) 0 0 := by
  have hm := hs.mul
  obtain ⟨h1, h2, h3, h4⟩ := id hs
  have hsl := shr_lt h3 b x
  intro n
  induction n with
  | zero => intro y S _ hn; exact absurd hn (Nat.not_lt_zero _)
  | succ n ih =>
    intro y S hy hn hS
    refine j_iload C eX0_turn_34 4 rfl ?_
    refine j_aload_n C eX0_turn_36 0 rfl ?_
    refine j_getf C hwsX0_turn 0 rfl rfl 1 (by decide) kX0_turn_22 rfl rfl eX0_turn_37 ?_
    refine j_icmp_ge C 84 eX0_turn_40 (by decide) (by omega) (by omega) (fun c40 => ?_) (fun c40 => ?_)
    ·
      have he : y = h := by omega
      subst he
      exact kx S hS
    ·
      have h7 := ix_lt (w := w) (h := h) (x := x) (y := y) hx (by omega)
      refine j_aload_n C eX0_turn_43 0 rfl ?_
      refine j_getf C hwsX0_turn 0 rfl rfl 3 (by decide) kX0_turn_29 rfl rfl eX0_turn_44 ?_
      refine j_iload C eX0_turn_47 4 rfl ?_
      refine j_iload_n C eX0_turn_49 3 rfl ?_
      refine j_iadd C eX0_turn_50 ?_
      refine j_aload_n C eX0_turn_51 0 rfl ?_
      refine j_getf C hwsX0_turn 0 rfl rfl 1 (by decide) kX0_turn_22 rfl rfl eX0_turn_52 ?_
      refine j_irem C eX0_turn_55 (by omega) (by omega) ?_
      have hrl : (y + shr h b x) % h < h := Nat.mod_lt _ (by omega)
      have h8 := ix_lt (w := w) (h := h) (x := x) (y := (y + shr h b x) % h) hx hrl
      have er : ((y : Int) + ((shr h b x : Nat) : Int)).tmod (h : Int) = (((y + shr h b x) % h : Nat) : Int) := by rw [← tm_nat]; push_cast; rfl
      rw [er]
      refine j_aload_n C eX0_turn_56 0 rfl ?_
      refine j_getf C hwsX0_turn 0 rfl rfl 0 (by decide) kX0_turn_18 rfl rfl eX0_turn_57 ?_
      refine j_imul C eX0_turn_60 ?_
      refine j_iload_n C eX0_turn_61 2 rfl ?_
      refine j_iadd C eX0_turn_62 ?_
      refine j_aload_n C eX0_turn_63 0 rfl ?_
      refine j_getf C hwsX0_turn 0 rfl rfl 2 (by decide) kX0_turn_25 rfl rfl eX0_turn_64 ?_
      refine j_iload C eX0_turn_67 4 rfl ?_
      refine j_aload_n C eX0_turn_69 0 rfl ?_
      refine j_getf C hwsX0_turn 0 rfl rfl 0 (by decide) kX0_turn_18 rfl rfl eX0_turn_70 ?_
      refine j_imul C eX0_turn_73 ?_
      refine j_iload_n C eX0_turn_74 2 rfl ?_
      refine j_iadd C eX0_turn_75 ?_
      refine j_bald C 1 0 rfl rfl (y * w + x) (by push_cast; rfl) h7 (by omega) eX0_turn_76 ?_
      refine j_bast C 2 0 rfl rfl ((y + shr h b x) % h * w + x) (by push_cast; rfl) h8 (by omega) (nar_b (hG _ h7)) eX0_turn_77 (wd' := wX cB cI cZ ad w h aG aS G (zup S ((y + shr h b x) % h * w + x) (G (y * w + x))) CB SB DK DR RE PF PK CO rc pn kn cn) rfl ?_
      refine j_iinc C eX0_turn_78 4 rfl rfl (by decide) (lv' := [(0, .ref (ad 0)), (1, .int (zI b)), (2, .int (zI (x : Int))), (3, .int (zI ((shr h b x : Nat) : Int))), (4, .int (zI ((y : Int) + 1)))]) rfl ?_
      refine j_goto C 34 eX0_turn_81 (by decide) ?_
      exact ih (y + 1) _ (by omega) (by omega) (tnd_put hS hx (by omega))
set_option maxHeartbeats 4000000 in
set_option maxRecDepth 100000 in
theorem lpX0_turn {p : Program} {l : Launch} {e : Env} {s : State} {m : MethodId} {args : Array Value} {below : List Frame} {meth : Method} {c : Code} {Q : State → Prop} {D : va_G} {A : Nat → Prop} {cB cI cZ cL : ClassId} {w h : Nat} {ad : Nat → Nat} {aG aS : Nat} {G CB SB DK DR RE PF PK CO : Nat → Int} {rc pn kn cn : Int} (C : JC p m c cX0_turn 5 s args wsX0_turn RX0 D vwCl (tyl cB cI cZ cL) A) (hs : Sz w h) {b : Int} (hb : -100 ≤ b ∧ b ≤ 100) (hG : byt (w * h) G) (kx : ∀ S : Nat → Int, tnd w h G b w 0 S → J p l e rmX0_turn s m args below meth c Q 5 D vwCl A 90 [(0, .ref (ad 0)), (1, .int (zI b)), (2, .int (zI (w : Int)))] [] (wX cB cI cZ ad w h aG aS G S CB SB DK DR RE PF PK CO rc pn kn cn) 0 0) : ∀ (n x : Nat) (S : Nat → Int), x ≤ w → w - x < n → tnd w h G b x 0 S → J p l e rmX0_turn s m args below meth c Q 5 D vwCl A 16 [(0, .ref (ad 0)), (1, .int (zI b)), (2, .int (zI (x : Int)))] [] (wX cB cI cZ ad w h aG aS G S CB SB DK DR RE PF PK CO rc pn kn cn) 0 0 := by
  have hm := hs.mul
  obtain ⟨h1, h2, h3, h4⟩ := id hs
  intro n
  induction n with
  | zero => intro y S _ hn; exact absurd hn (Nat.not_lt_zero _)
  | succ n ih =>
    intro x S hx hn hS
    refine j_iload_n C eX0_turn_16 2 rfl ?_
    refine j_aload_n C eX0_turn_17 0 rfl ?_
    refine j_getf C hwsX0_turn 0 rfl rfl 0 (by decide) kX0_turn_18 rfl rfl eX0_turn_18 ?_
    refine j_icmp_ge C 90 eX0_turn_21 (by decide) (by omega) (by omega) (fun c21 => ?_) (fun c21 => ?_)
    ·
      have he : x = w := by omega
      subst he
      exact kx S hS
    ·
      refine j_aload_n C eX0_turn_24 0 rfl ?_
      refine j_iload_n C eX0_turn_25 2 rfl ?_
      refine j_iload_n C eX0_turn_26 1 rfl ?_
      refine j_callVi C (As := [.int (zI (x : Int)), .int (zI b)]) (rest := []) (ctX0_shearAt l D cB cI cZ cL ad w h hs aG aS G S CB SB DK DR RE PF PK CO rc pn kn cn x (by omega) b hb) (cwV 2 C.1.2.2.2.2 gX0_turn_X0_shearAt rfl rfl rfl (by decide +kernel) ⟨Nat.le_of_ble_eq_true rfl, Nat.le_of_ble_eq_true rfl⟩) [0, 1, 2, 3, 4, 5, 6, 7, 8, 9, 10] [] (wr := []) rfl (by decide) rfl (by decide) (by decide) 0 rfl rfl rfl rfl (Nat.le_of_ble_eq_true rfl) eX0_turn_27 ⟨Nat.le_of_ble_eq_true rfl, Nat.le_of_ble_eq_true rfl⟩ (fun z w1 hp => ?_)
      obtain ⟨rfl, rfl⟩ := hp
      rw [List.nil_append]
      refine j_istore_n C eX0_turn_30 rfl (by decide) (lv' := [(0, .ref (ad 0)), (1, .int (zI b)), (2, .int (zI (x : Int))), (3, .int (zI ((shr h b x : Nat) : Int)))]) rfl ?_
      refine j_iconst C eX0_turn_31 ?_
      refine j_istore C eX0_turn_32 rfl (by decide) (lv' := [(0, .ref (ad 0)), (1, .int (zI b)), (2, .int (zI (x : Int))), (3, .int (zI ((shr h b x : Nat) : Int))), (4, .int (zI 0))]) rfl ?_
      refine lqX0_turn C hs hG (by omega) (fun S hS => ?_) (h + 1) 0 S (by omega) (by omega) hS
      refine j_iinc C eX0_turn_84 2 rfl rfl (by decide) (lv' := [(0, .ref (ad 0)), (1, .int (zI b)), (2, .int (zI ((x : Int) + 1))), (3, .int (zI ((shr h b x : Nat) : Int))), (4, .int (zI (h : Int)))]) rfl ?_
      refine j_goto C 16 eX0_turn_87 (by decide) ?_
      refine j_loc [0, 1, 2] (lv' := [(0, .ref (ad 0)), (1, .int (zI b)), (2, .int (zI ((x : Int) + 1)))]) rfl ?_
      exact ih (x + 1) S (by omega) (by omega) (tnd_col hS)
set_option maxHeartbeats 4000000 in
set_option maxRecDepth 100000 in
theorem ctX0_turn (l : Launch) (D : va_G) (cB cI cZ cL : ClassId) (ad : Nat → Nat) (w h : Nat) (hs : Sz w h) (aG aS : Nat) (G S CB SB DK DR RE PF PK CO : Nat → Int) (rc pn kn cn : Int) (b : Int) (hb : -2147483648 ≤ b ∧ b ≤ 2147483647) (hG : byt (w * h) G) : mI l yX0_turn wsX0_turn rmX0_turn D vwCl (tyl cB cI cZ cL) [.ref (ad 0), .int (zI b)] (wX cB cI cZ ad w h aG aS G S CB SB DK DR RE PF PK CO rc pn kn cn) 0 0 (fun z w1 => if -100 ≤ b ∧ b ≤ 100 then ∃ S' : Nat → Int, tnd w h G b w 0 S' ∧ z = dif G S' (w * h) ∧ w1 = wX cB cI cZ ad w h aS aG S' G CB SB DK DR RE PF PK CO rc pn kn cn else z = -1 ∧ w1 = wX cB cI cZ ad w h aG aS G S CB SB DK DR RE PF PK CO rc pn kn cn) := by
  refine mI_of (own := RX0) rfl (by decide) rfl (Nat.le_of_ble_eq_true rfl) ?_
  intro p e s m args below meth c C hr hlocks hname
  show J p l e rmX0_turn s m args below meth c _ 5 D vwCl _ 0 [(0, .ref (ad 0)), (1, .int (zI b))] [] (wX cB cI cZ ad w h aG aS G S CB SB DK DR RE PF PK CO rc pn kn cn) 0 0
  have hm := hs.mul
  obtain ⟨h1, h2, h3, h4⟩ := id hs
  refine j_iload_n C eX0_turn_0 1 rfl ?_
  refine j_bipush C eX0_turn_1 (by decide +kernel) ?_
  refine j_icmp_lt C 12 eX0_turn_3 (by decide) (by omega) (by omega) (fun c3 => ?_) (fun c3 => ?_)
  ·
    refine j_iconst C eX0_turn_12 ?_
    exact j_iret C hr hlocks rfl eX0_turn_13 (by rw [if_neg (by omega)]; exact ⟨rfl, rfl⟩)
  ·
    refine j_iload_n C eX0_turn_6 1 rfl ?_
    refine j_bipush C eX0_turn_7 (by decide +kernel) ?_
    refine j_icmp_le C 14 eX0_turn_9 (by decide) (by omega) (by omega) (fun c9 => ?_) (fun c9 => ?_)
    ·
      refine j_iconst C eX0_turn_14 ?_
      refine j_istore_n C eX0_turn_15 rfl (by decide) (lv' := [(0, .ref (ad 0)), (1, .int (zI b)), (2, .int (zI 0))]) rfl ?_
      refine lpX0_turn C hs (by omega) hG (fun S' hS' => ?_) (w + 1) 0 S (by omega) (by omega) (fun x' y' _ _ hh => by omega)
      refine j_aload_n C eX0_turn_90 0 rfl ?_
      refine j_callVi C (As := []) (rest := []) (ctX0_takeSpare l D cB cI cZ cL ad w h hs aG aS G S' CB SB DK DR RE PF PK CO rc pn kn cn hG (tnd_byt hs hS' hG)) (cwV 0 C.1.2.2.2.2 gX0_turn_X0_takeSpare rfl rfl rfl (by decide +kernel) ⟨Nat.le_of_ble_eq_true rfl, Nat.le_of_ble_eq_true rfl⟩) [0, 1, 2, 3, 4, 5, 6, 7, 8, 9, 10] [] (wr := []) rfl (by decide) rfl (by decide) (by decide) 0 rfl rfl rfl rfl (Nat.le_of_ble_eq_true rfl) eX0_turn_91 ⟨Nat.le_of_ble_eq_true rfl, Nat.le_of_ble_eq_true rfl⟩ (fun z w1 hp => ?_)
      obtain ⟨rfl, rfl⟩ := hp
      rw [List.nil_append]
      exact j_iret C hr hlocks rfl eX0_turn_94 (by rw [if_pos (by omega)]; exact ⟨S', hS', rfl, rfl⟩)
    ·
      refine j_iconst C eX0_turn_12 ?_
      exact j_iret C hr hlocks rfl eX0_turn_13 (by rw [if_neg (by omega)]; exact ⟨rfl, rfl⟩)
end
section
/-! THE CLASS: packed, read back, turned over -/
/-- r like greys from k on, as long as can be up to 255 -/
def isRun (g : Nat → Int) (n k r : Nat) : Prop := 1 ≤ r ∧ r ≤ 255 ∧ k + r ≤ n ∧ (∀ i, k ≤ i → i < k + r → g i = g k) ∧ (r = 255 ∨ k + r = n ∨ g (k + r) ≠ g k)
theorem isRun_le {g : Nat → Int} {n k r r' : Nat} (h : isRun g n k r) (h' : isRun g n k r') : r' ≤ r := by
  rcases Nat.lt_or_ge r r' with q | q
  · obtain ⟨a1, a2, a3, a4, a5⟩ := h
    obtain ⟨b1, b2, b3, b4, b5⟩ := h'
    have := b4 (k + r) (by omega) (by omega)
    rcases a5 with a5 | a5 | a5
    · omega
    · omega
    · exact absurd this a5
  · exact q
theorem isRun_eq {g : Nat → Int} {n k r r' : Nat} (h : isRun g n k r) (h' : isRun g n k r') : r = r' := Nat.le_antisymm (isRun_le h' h) (isRun_le h h')
theorem isRun_congr {g g' : Nat → Int} {n k r : Nat} (e : ∀ i, i < n → g i = g' i) (h : isRun g n k r) : isRun g' n k r := by
  obtain ⟨a1, a2, a3, a4, a5⟩ := h
  refine ⟨a1, a2, a3, fun i h1 h2 => by rw [← e i (by omega), ← e k (by omega)]; exact a4 i h1 h2, ?_⟩
  by_cases c : k + r = n
  · exact Or.inr (Or.inl c)
  · rw [← e (k + r) (by omega), ← e k (by omega)]
    exact a5
/-- the first j pairs of P pack the greys ahead of k -/
def pkd (g : Nat → Int) (n : Nat) (P : Nat → Int) : Nat → Nat → Prop
  | 0, k => k = 0
  | j + 1, k => ∃ k0 r, pkd g n P j k0 ∧ k0 < n ∧ isRun g n k0 r ∧ k = k0 + r ∧ P (2 * j) = Int.bmod (r : Int) 256 ∧ P (2 * j + 1) = Int.bmod (g k0) 256
theorem pkd_keep {g : Nat → Int} {n : Nat} {P P' : Nat → Int} : ∀ {j k : Nat}, (∀ i, i < 2 * j → P i = P' i) → pkd g n P j k → pkd g n P' j k
  | 0, _, _, h => h
  | j + 1, k, e, h => by
    obtain ⟨k0, r, h1, h2, h3, h4, h5, h6⟩ := h
    exact ⟨k0, r, pkd_keep (fun i hi => e i (by omega)) h1, h2, h3, h4, by rw [← e _ (by omega)]; exact h5, by rw [← e _ (by omega)]; exact h6⟩
theorem pkd_le {g : Nat → Int} {n : Nat} {P : Nat → Int} : ∀ {j k : Nat}, pkd g n P j k → j ≤ k ∧ k ≤ n
  | 0, _, h => by have h : _ = 0 := h; omega
  | j + 1, k, h => by
    obtain ⟨k0, r, h1, h2, h3, h4, h5, h6⟩ := h
    have := pkd_le h1
    obtain ⟨a1, a2, a3, a4, a5⟩ := h3
    omega
/-- two packings agree -/
theorem pkd_same {g g' : Nat → Int} {n : Nat} {P P' : Nat → Int} (e : ∀ i, i < n → g i = g' i) : ∀ {j k k' : Nat}, pkd g n P j k → pkd g' n P' j k' → k = k' ∧ ∀ i, i < 2 * j → P i = P' i
  | 0, k, k', h, h' => by
    have h : k = 0 := h
    have h' : k' = 0 := h'
    exact ⟨by omega, fun i hi => by omega⟩
  | j + 1, k, k', h, h' => by
    obtain ⟨k0, r, h1, h2, h3, h4, h5, h6⟩ := h
    obtain ⟨k0', r', h1', h2', h3', h4', h5', h6'⟩ := h'
    obtain ⟨ek, ep⟩ := pkd_same e h1 h1'
    subst ek
    have er := isRun_eq (isRun_congr e h3) h3'
    subst er
    refine ⟨by omega, fun i hi => ?_⟩
    by_cases c1 : i = 2 * j
    · rw [c1, h5, h5']
    · by_cases c2 : i = 2 * j + 1
      · rw [c2, h6, h6', e k0 h2]
      · exact ep i (by omega)
theorem pkd_pre {g : Nat → Int} {n : Nat} {P : Nat → Int} {j : Nat} : ∀ {d k : Nat}, pkd g n P (j + d) k → 0 < d → ∃ k0, pkd g n P j k0 ∧ k0 < n
  | 0, _, _, h => absurd h (Nat.lt_irrefl 0)
  | d + 1, k, h, _ => by
    obtain ⟨k0, r, h1, h2, h3, h4, h5, h6⟩ := h
    by_cases c : d = 0
    · subst c; exact ⟨k0, h1, h2⟩
    · exact pkd_pre h1 (by omega)
theorem pkd_j {g g' : Nat → Int} {n : Nat} {P P' : Nat → Int} (e : ∀ i, i < n → g i = g' i) {j j' : Nat} (h : pkd g n P j n) (h' : pkd g' n P' j' n) : j = j' := by
  have key : ∀ {g g' : Nat → Int} {P P' : Nat → Int} {j j' : Nat}, (∀ i, i < n → g i = g' i) → pkd g n P j n → pkd g' n P' j' n → ¬ j < j' := fun {g g' P P' j j'} e h h' q => by
    obtain ⟨d, rfl⟩ : ∃ d, j' = j + d := ⟨j' - j, by omega⟩
    obtain ⟨k0, a1, a2⟩ := pkd_pre h' (by omega)
    have := (pkd_same e h a1).1
    omega
  rcases Nat.lt_trichotomy j j' with q | q | q
  · exact absurd q (key e h h')
  · exact q
  · exact absurd q (key (fun i hi => (e i hi).symm) h' h)
theorem byt_eq {n : Nat} {G : Nat → Int} (hG : byt n G) {i k : Nat} (hi : i < n) (hk : k < n) : G i % 256 = G k % 256 ↔ G i = G k := by
  have h1 := hG i hi
  have h2 := hG k hk
  omega
theorem byt_bm {n : Nat} {G : Nat → Int} (hG : byt n G) {k : Nat} (hk : k < n) : Int.bmod (G k % 256) 256 = G k := by
  have h1 := hG k hk
  simp only [Int.bmod_def]
  omega
theorem hwsX0_pack : ∀ w ∈ u_ws RX0 TX0 16, w ∈ wsX0_pack := fun _ h => List.mem_cons_of_mem _ (List.mem_append_right _ h)
theorem kX0_pack_25 : Cond.fieldLink RX0 25 "SheetRows" (TX0 2).2.1 (TX0 2).2.2.1 ∈ wsX0_pack := by decide +kernel
theorem kX0_pack_108 : Cond.fieldLink RX0 108 "SheetRows" (TX0 13).2.1 (TX0 13).2.2.1 ∈ wsX0_pack := by decide +kernel
abbrev rmX0_pack : Room := { frames := 1, cells := 0, slots := 0, locals := 22 }
set_option maxHeartbeats 4000000 in
set_option maxRecDepth 100000 in
theorem lpX0_pack {p : Program} {l : Launch} {e : Env} {s : State} {m : MethodId} {args : Array Value} {below : List Frame} {meth : Method} {c : Code} {Q : State → Prop} {D : va_G} {A : Nat → Prop} {cB cI cZ cL : ClassId} {w h : Nat} {ad : Nat → Nat} {aG aS : Nat} {G S CB SB DK DR RE PF CO : Nat → Int} {rc pn cn : Int} (C : JC p m c cX0_pack 3 s args wsX0_pack RX0 D vwCl (tyl cB cI cZ cL) A) (hs : Sz w h) (hG : byt (w * h) G) (kx : ∀ (PK : Nat → Int) (j : Nat), pkd (fun k => G k % 256) (w * h) PK j (w * h) → J p l e rmX0_pack s m args below meth c Q 3 D vwCl A 72 [(0, .ref (ad 0)), (1, .int (zI ((w * h) : Int))), (2, .int (zI ((w * h + 1) : Int)))] [] (wX cB cI cZ ad w h aG aS G S CB SB DK DR RE PF PK CO rc pn ((2 * j : Nat) : Int) cn) 0 0) : ∀ (n j s0 q : Nat) (PK : Nat → Int), w * h + 1 - q < n → pkd (fun k => G k % 256) (w * h) PK j s0 → s0 < q → ((q ≤ w * h ∧ q - s0 ≤ 255 ∧ ∀ i, s0 ≤ i → i < q → G i % 256 = G s0 % 256) ∨ (s0 = w * h ∧ q = w * h + 1)) → J p l e rmX0_pack s m args below meth c Q 3 D vwCl A 9 [(0, .ref (ad 0)), (1, .int (zI (s0 : Int))), (2, .int (zI (q : Int)))] [] (wX cB cI cZ ad w h aG aS G S CB SB DK DR RE PF PK CO rc pn ((2 * j : Nat) : Int) cn) 0 0 := by
  have hm := hs.mul
  intro n
  induction n with
  | zero => intro j s0 q PK hn; exact absurd hn (Nat.not_lt_zero _)
  | succ n ih =>
    intro j s0 q PK hn hP hlt hI
    have hle := pkd_le hP
    refine j_iload_n C eX0_pack_9 2 rfl ?_
    refine j_aload_n C eX0_pack_10 0 rfl ?_
    refine j_getf C hwsX0_pack 0 rfl rfl 2 (by decide) kX0_pack_25 rfl rfl eX0_pack_11 ?_
    refine j_alen C 1 0 rfl rfl eX0_pack_14 ?_
    refine j_icmp_gt C 72 eX0_pack_15 (by decide) (by omega) (by omega) (fun c15 => ?_) (fun c15 => ?_)
    ·
      have he : s0 = w * h ∧ q = w * h + 1 := by omega
      obtain ⟨rfl, rfl⟩ := he
      exact kx PK j hP
    ·
      refine j_iload_n C eX0_pack_18 2 rfl ?_
      refine j_aload_n C eX0_pack_19 0 rfl ?_
      refine j_getf C hwsX0_pack 0 rfl rfl 2 (by decide) kX0_pack_25 rfl rfl eX0_pack_20 ?_
      refine j_alen C 1 0 rfl rfl eX0_pack_23 ?_
      refine j_icmp_eq C 51 eX0_pack_24 (by decide) (by omega) (by omega) (fun c24 => ?_) (fun c24 => ?_)
      ·
        have hq2 : q - s0 ≤ 255 ∧ ∀ i, s0 ≤ i → i < q → G i % 256 = G s0 % 256 := by
          rcases hI with z | z
          · exact z.2
          · omega
        have hsl : s0 < w * h := by omega
        refine j_aload_n C eX0_pack_51 0 rfl ?_
        refine j_iload_n C eX0_pack_52 2 rfl ?_
        refine j_iload_n C eX0_pack_53 1 rfl ?_
        refine j_isub C eX0_pack_54 ?_
        refine j_aload_n C eX0_pack_55 0 rfl ?_
        refine j_getf C hwsX0_pack 0 rfl rfl 2 (by decide) kX0_pack_25 rfl rfl eX0_pack_56 ?_
        refine j_iload_n C eX0_pack_59 1 rfl ?_
        refine j_bald C 1 0 rfl rfl s0 rfl (by omega) (by omega) eX0_pack_60 ?_
        rw [show (q : Int) - (s0 : Int) = ((q - s0 : Nat) : Int) by omega]
        refine j_callVv C (As := [.int (zI ((q - s0 : Nat) : Int)), .int (zI (G s0))]) (rest := []) (ctX0_packStretch l D cB cI cZ cL ad w h hs aG aS G S CB SB DK DR RE PF PK CO rc pn cn (2 * j) (q - s0) (by omega) (by omega) (G s0) (hG s0 hsl)) (cwV 2 C.1.2.2.2.2 gX0_pack_X0_packStretch rfl rfl rfl (by decide +kernel) ⟨Nat.le_of_ble_eq_true rfl, Nat.le_of_ble_eq_true rfl⟩) [0, 1, 2, 3, 4, 5, 6, 7, 8, 9, 10] [] (wr := []) rfl (by decide) rfl (by decide) (by decide) 0 rfl rfl rfl rfl (Nat.le_of_ble_eq_true rfl) eX0_pack_61 ⟨Nat.le_of_ble_eq_true rfl, Nat.le_of_ble_eq_true rfl⟩ (fun w1 hp => ?_)
        subst hp
        rw [List.nil_append]
        refine j_iload_n C eX0_pack_64 2 rfl ?_
        refine j_istore_n C eX0_pack_65 rfl (by decide) (lv' := [(0, .ref (ad 0)), (1, .int (zI (q : Int))), (2, .int (zI (q : Int)))]) rfl ?_
        refine j_iinc C eX0_pack_66 2 rfl rfl (by decide) (lv' := [(0, .ref (ad 0)), (1, .int (zI (q : Int))), (2, .int (zI ((q : Int) + 1)))]) rfl ?_
        refine j_goto C 9 eX0_pack_69 (by decide) ?_
        refine ih (j + 1) q (q + 1) _ (by omega) ?_ (by omega) ?_
        · refine ⟨s0, q - s0, pkd_keep (fun i hi => by rw [zup_n (by omega), zup_n (by omega)]) hP, hsl, ⟨by omega, hq2.1, by omega, fun i h1 h2 => hq2.2 i h1 (by omega), ?_⟩, by omega, by rw [zup_n (by omega), zup_s], by rw [zup_s]; exact (byt_bm hG hsl).symm⟩
          by_cases e1 : q = w * h
          · exact Or.inr (Or.inl (by omega))
          · by_cases e2 : q - s0 = 255
            · exact Or.inl e2
            · refine Or.inr (Or.inr ?_)
              rw [show s0 + (q - s0) = q by omega]
              intro z
              have z2 := (byt_eq hG (i := q) (k := s0) (by omega) hsl).mp z
              omega
        · by_cases e1 : q = w * h
          · exact Or.inr ⟨e1, by omega⟩
          · exact Or.inl ⟨by omega, by omega, fun i h1 h2 => by rw [show i = q by omega]⟩
      ·
        refine j_iload_n C eX0_pack_27 2 rfl ?_
        refine j_iload_n C eX0_pack_28 1 rfl ?_
        refine j_isub C eX0_pack_29 ?_
        refine j_sipush C eX0_pack_30 (by decide +kernel) ?_
        refine j_icmp_eq C 51 eX0_pack_33 (by decide) (by omega) (by omega) (fun c33 => ?_) (fun c33 => ?_)
        ·
          have hq2 : q - s0 ≤ 255 ∧ ∀ i, s0 ≤ i → i < q → G i % 256 = G s0 % 256 := by
            rcases hI with z | z
            · exact z.2
            · omega
          have hsl : s0 < w * h := by omega
          refine j_aload_n C eX0_pack_51 0 rfl ?_
          refine j_iload_n C eX0_pack_52 2 rfl ?_
          refine j_iload_n C eX0_pack_53 1 rfl ?_
          refine j_isub C eX0_pack_54 ?_
          refine j_aload_n C eX0_pack_55 0 rfl ?_
          refine j_getf C hwsX0_pack 0 rfl rfl 2 (by decide) kX0_pack_25 rfl rfl eX0_pack_56 ?_
          refine j_iload_n C eX0_pack_59 1 rfl ?_
          refine j_bald C 1 0 rfl rfl s0 rfl (by omega) (by omega) eX0_pack_60 ?_
          rw [show (q : Int) - (s0 : Int) = ((q - s0 : Nat) : Int) by omega]
          refine j_callVv C (As := [.int (zI ((q - s0 : Nat) : Int)), .int (zI (G s0))]) (rest := []) (ctX0_packStretch l D cB cI cZ cL ad w h hs aG aS G S CB SB DK DR RE PF PK CO rc pn cn (2 * j) (q - s0) (by omega) (by omega) (G s0) (hG s0 hsl)) (cwV 2 C.1.2.2.2.2 gX0_pack_X0_packStretch rfl rfl rfl (by decide +kernel) ⟨Nat.le_of_ble_eq_true rfl, Nat.le_of_ble_eq_true rfl⟩) [0, 1, 2, 3, 4, 5, 6, 7, 8, 9, 10] [] (wr := []) rfl (by decide) rfl (by decide) (by decide) 0 rfl rfl rfl rfl (Nat.le_of_ble_eq_true rfl) eX0_pack_61 ⟨Nat.le_of_ble_eq_true rfl, Nat.le_of_ble_eq_true rfl⟩ (fun w1 hp => ?_)
          subst hp
          rw [List.nil_append]
          refine j_iload_n C eX0_pack_64 2 rfl ?_
          refine j_istore_n C eX0_pack_65 rfl (by decide) (lv' := [(0, .ref (ad 0)), (1, .int (zI (q : Int))), (2, .int (zI (q : Int)))]) rfl ?_
          refine j_iinc C eX0_pack_66 2 rfl rfl (by decide) (lv' := [(0, .ref (ad 0)), (1, .int (zI (q : Int))), (2, .int (zI ((q : Int) + 1)))]) rfl ?_
          refine j_goto C 9 eX0_pack_69 (by decide) ?_
          refine ih (j + 1) q (q + 1) _ (by omega) ?_ (by omega) ?_
          · refine ⟨s0, q - s0, pkd_keep (fun i hi => by rw [zup_n (by omega), zup_n (by omega)]) hP, hsl, ⟨by omega, hq2.1, by omega, fun i h1 h2 => hq2.2 i h1 (by omega), ?_⟩, by omega, by rw [zup_n (by omega), zup_s], by rw [zup_s]; exact (byt_bm hG hsl).symm⟩
            by_cases e1 : q = w * h
            · exact Or.inr (Or.inl (by omega))
            · by_cases e2 : q - s0 = 255
              · exact Or.inl e2
              · refine Or.inr (Or.inr ?_)
                rw [show s0 + (q - s0) = q by omega]
                intro z
                have z2 := (byt_eq hG (i := q) (k := s0) (by omega) hsl).mp z
                omega
          · by_cases e1 : q = w * h
            · exact Or.inr ⟨e1, by omega⟩
            · exact Or.inl ⟨by omega, by omega, fun i h1 h2 => by rw [show i = q by omega]⟩
        ·
          have hgq := hG q (by omega)
          have hgs := hG s0 (by omega)
          refine j_aload_n C eX0_pack_36 0 rfl ?_
          refine j_getf C hwsX0_pack 0 rfl rfl 2 (by decide) kX0_pack_25 rfl rfl eX0_pack_37 ?_
          refine j_iload_n C eX0_pack_40 2 rfl ?_
          refine j_bald C 1 0 rfl rfl q rfl (by omega) (by omega) eX0_pack_41 ?_
          refine j_aload_n C eX0_pack_42 0 rfl ?_
          refine j_getf C hwsX0_pack 0 rfl rfl 2 (by decide) kX0_pack_25 rfl rfl eX0_pack_43 ?_
          refine j_iload_n C eX0_pack_46 1 rfl ?_
          refine j_bald C 1 0 rfl rfl s0 rfl (by omega) (by omega) eX0_pack_47 ?_
          refine j_icmp_eq C 66 eX0_pack_48 (by decide) (by omega) (by omega) (fun c48 => ?_) (fun c48 => ?_)
          ·
            refine j_iinc C eX0_pack_66 2 rfl rfl (by decide) (lv' := [(0, .ref (ad 0)), (1, .int (zI (s0 : Int))), (2, .int (zI ((q : Int) + 1)))]) rfl ?_
            refine j_goto C 9 eX0_pack_69 (by decide) ?_
            refine ih j s0 (q + 1) PK (by omega) hP (by omega) (Or.inl ⟨by omega, by omega, fun i h1 h2 => ?_⟩)
            by_cases e : i = q
            · subst e
              rw [c48]
            · rcases hI with z | z
              · exact z.2.2 i h1 (by omega)
              · omega
          ·
            have hq2 : q - s0 ≤ 255 ∧ ∀ i, s0 ≤ i → i < q → G i % 256 = G s0 % 256 := by
              rcases hI with z | z
              · exact z.2
              · omega
            have hsl : s0 < w * h := by omega
            refine j_aload_n C eX0_pack_51 0 rfl ?_
            refine j_iload_n C eX0_pack_52 2 rfl ?_
            refine j_iload_n C eX0_pack_53 1 rfl ?_
            refine j_isub C eX0_pack_54 ?_
            refine j_aload_n C eX0_pack_55 0 rfl ?_
            refine j_getf C hwsX0_pack 0 rfl rfl 2 (by decide) kX0_pack_25 rfl rfl eX0_pack_56 ?_
            refine j_iload_n C eX0_pack_59 1 rfl ?_
            refine j_bald C 1 0 rfl rfl s0 rfl (by omega) (by omega) eX0_pack_60 ?_
            rw [show (q : Int) - (s0 : Int) = ((q - s0 : Nat) : Int) by omega]
            refine j_callVv C (As := [.int (zI ((q - s0 : Nat) : Int)), .int (zI (G s0))]) (rest := []) (ctX0_packStretch l D cB cI cZ cL ad w h hs aG aS G S CB SB DK DR RE PF PK CO rc pn cn (2 * j) (q - s0) (by omega) (by omega) (G s0) (hG s0 hsl)) (cwV 2 C.1.2.2.2.2 gX0_pack_X0_packStretch rfl rfl rfl (by decide +kernel) ⟨Nat.le_of_ble_eq_true rfl, Nat.le_of_ble_eq_true rfl⟩) [0, 1, 2, 3, 4, 5, 6, 7, 8, 9, 10] [] (wr := []) rfl (by decide) rfl (by decide) (by decide) 0 rfl rfl rfl rfl (Nat.le_of_ble_eq_true rfl) eX0_pack_61 ⟨Nat.le_of_ble_eq_true rfl, Nat.le_of_ble_eq_true rfl⟩ (fun w1 hp => ?_)
            subst hp
            rw [List.nil_append]
            refine j_iload_n C eX0_pack_64 2 rfl ?_
            refine j_istore_n C eX0_pack_65 rfl (by decide) (lv' := [(0, .ref (ad 0)), (1, .int (zI (q : Int))), (2, .int (zI (q : Int)))]) rfl ?_
            refine j_iinc C eX0_pack_66 2 rfl rfl (by decide) (lv' := [(0, .ref (ad 0)), (1, .int (zI (q : Int))), (2, .int (zI ((q : Int) + 1)))]) rfl ?_
            refine j_goto C 9 eX0_pack_69 (by decide) ?_
            refine ih (j + 1) q (q + 1) _ (by omega) ?_ (by omega) ?_
            · refine ⟨s0, q - s0, pkd_keep (fun i hi => by rw [zup_n (by omega), zup_n (by omega)]) hP, hsl, ⟨by omega, hq2.1, by omega, fun i h1 h2 => hq2.2 i h1 (by omega), ?_⟩, by omega, by rw [zup_n (by omega), zup_s], by rw [zup_s]; exact (byt_bm hG hsl).symm⟩
              by_cases e1 : q = w * h
              · exact Or.inr (Or.inl (by omega))
              · by_cases e2 : q - s0 = 255
                · exact Or.inl e2
                · refine Or.inr (Or.inr ?_)
                  rw [show s0 + (q - s0) = q by omega]
                  intro z
                  have z2 := (byt_eq hG (i := q) (k := s0) (by omega) hsl).mp z
                  omega
            · by_cases e1 : q = w * h
              · exact Or.inr ⟨e1, by omega⟩
              · exact Or.inl ⟨by omega, by omega, fun i h1 h2 => by rw [show i = q by omega]⟩
set_option maxHeartbeats 4000000 in
set_option maxRecDepth 100000 in
theorem ctX0_pack (l : Launch) (D : va_G) (cB cI cZ cL : ClassId) (ad : Nat → Nat) (w h : Nat) (hs : Sz w h) (aG aS : Nat) (G S CB SB DK DR RE PF PK CO : Nat → Int) (rc pn kn cn : Int) (hG : byt (w * h) G) : mI l yX0_pack wsX0_pack rmX0_pack D vwCl (tyl cB cI cZ cL) [.ref (ad 0)] (wX cB cI cZ ad w h aG aS G S CB SB DK DR RE PF PK CO rc pn kn cn) 0 0 (fun z w1 => ∃ (PK' : Nat → Int) (j : Nat), pkd (fun k => G k % 256) (w * h) PK' j (w * h) ∧ z = ((2 * j : Nat) : Int) ∧ w1 = wX cB cI cZ ad w h aG aS G S CB SB DK DR RE PF PK' CO rc pn ((2 * j : Nat) : Int) cn) := by
  refine mI_of (own := RX0) rfl (by decide) rfl (Nat.le_of_ble_eq_true rfl) ?_
  intro p e s m args below meth c C hr hlocks hname
  show J p l e rmX0_pack s m args below meth c _ 3 D vwCl _ 0 [(0, .ref (ad 0))] [] (wX cB cI cZ ad w h aG aS G S CB SB DK DR RE PF PK CO rc pn kn cn) 0 0
  have hm := hs.mul
  refine j_aload_n C eX0_pack_0 0 rfl ?_
  refine j_iconst C eX0_pack_1 ?_
  refine j_putf C hwsX0_pack tyX0 tyX0_ok nmX0 0 rfl rfl 13 (by decide) kX0_pack_108 rfl rfl (tyX0_ok 13 (by decide)) rfl rfl (Nat.le_of_ble_eq_true rfl) eX0_pack_2 (wd' := wX cB cI cZ ad w h aG aS G S CB SB DK DR RE PF PK CO rc pn 0 cn) rfl ?_
  refine j_iconst C eX0_pack_5 ?_
  refine j_istore_n C eX0_pack_6 rfl (by decide) (lv' := [(0, .ref (ad 0)), (1, .int (zI 0))]) rfl ?_
  refine j_iconst C eX0_pack_7 ?_
  refine j_istore_n C eX0_pack_8 rfl (by decide) (lv' := [(0, .ref (ad 0)), (1, .int (zI 0)), (2, .int (zI 1))]) rfl ?_
  refine lpX0_pack C hs hG (fun PK' j hP => ?_) (w * h + 1) 0 0 1 PK (by omega) rfl (by omega) (Or.inl ⟨by omega, by omega, fun i h1 h2 => by rw [show i = 0 by omega]⟩)
  refine j_aload_n C eX0_pack_72 0 rfl ?_
  refine j_getf C hwsX0_pack 0 rfl rfl 13 (by decide) kX0_pack_108 rfl rfl eX0_pack_73 ?_
  exact j_iret C hr hlocks rfl eX0_pack_76 ⟨PK', j, hP, rfl, rfl⟩
/-- how many greys the first j pairs have; that they are right; what is read of them -/
def dn (c : Nat → Int) : Nat → Nat
  | 0 => 0
  | j + 1 => dn c j + (c (2 * j) % 256).toNat
def oku (c : Nat → Int) (had n j : Nat) : Prop := ∀ i, i < j → 2 * i + 1 < had ∧ c (2 * i) % 256 ≠ 0 ∧ dn c (i + 1) ≤ n
def fld (c : Nat → Int) (j : Nat) (S : Nat → Int) : Prop := ∀ i, i < j → ∀ q, dn c i ≤ q → q < dn c (i + 1) → S q = c (2 * i + 1)
def stp (c : Nat → Int) (had n j : Nat) : Prop := had ≤ 2 * j + 1 ∨ c (2 * j) % 256 = 0 ∨ n < dn c (j + 1)
/-- the place of the first wrong byte, or -1 -/
def vls (c : Nat → Int) (had n j : Nat) : Int := if had ≤ 2 * j then (if dn c j < n then (had : Int) else -1) else if c (2 * j) % 256 = 0 ∨ n < dn c (j + 1) then 2 * (j : Int) else (had : Int)
theorem dn_le {c : Nat → Int} {had n j : Nat} (h : oku c had n j) : dn c j ≤ n := by
  match j, h with
  | 0, _ => exact Nat.zero_le _
  | j + 1, h => exact (h j (by omega)).2.2
theorem dn_seg (c : Nat → Int) : ∀ {j q : Nat}, q < dn c j → ∃ i, i < j ∧ dn c i ≤ q ∧ q < dn c (i + 1)
  | 0, q, h => absurd h (Nat.not_lt_zero _)
  | j + 1, q, h => by
    rcases Nat.lt_or_ge q (dn c j) with z | z
    · obtain ⟨i, h1, h2, h3⟩ := dn_seg c z
      exact ⟨i, by omega, h2, h3⟩
    · exact ⟨j, by omega, z, h⟩
theorem dn_congr {c c' : Nat → Int} {had : Nat} (e : ∀ i, i < had → c i = c' i) : ∀ {j : Nat}, 2 * j ≤ had + 1 → dn c j = dn c' j
  | 0, _ => rfl
  | j + 1, h => by
    show dn c j + _ = dn c' j + _
    rw [dn_congr e (j := j) (by omega), e (2 * j) (by omega)]
theorem oku_congr {c c' : Nat → Int} {had n j : Nat} (e : ∀ i, i < had → c i = c' i) (h : oku c had n j) : oku c' had n j := fun i hi => by
  obtain ⟨h1, h2, h3⟩ := h i hi
  exact ⟨h1, by rw [← e _ (by omega)]; exact h2, by rw [← dn_congr e (j := i + 1) (by omega)]; exact h3⟩
theorem oku_2j {c : Nat → Int} {had n j : Nat} (h : oku c had n j) : 2 * j ≤ had := by
  match j, h with
  | 0, _ => omega
  | j + 1, h => have := (h j (by omega)).1; omega
theorem stp_congr {c c' : Nat → Int} {had n j : Nat} (e : ∀ i, i < had → c i = c' i) (h : stp c had n j) : stp c' had n j := by
  unfold stp at *
  by_cases q : had ≤ 2 * j + 1
  · exact Or.inl q
  · rw [← e _ (by omega), ← dn_congr e (j := j + 1) (by omega)]
    exact h
theorem oku_j {c : Nat → Int} {had n j j' : Nat} (h : oku c had n j) (hst : stp c had n j) (h' : oku c had n j') (hst' : stp c had n j') : j = j' := by
  have key : ∀ {j j' : Nat}, stp c had n j → oku c had n j' → ¬ j < j' := fun {j j'} s o q => by
    obtain ⟨h1, h2, h3⟩ := o j q
    unfold stp at s
    omega
  rcases Nat.lt_trichotomy j j' with q | q | q
  · exact absurd q (key hst h')
  · exact q
  · exact absurd q (key hst' h)
theorem vls_congr {c c' : Nat → Int} {had n j : Nat} (e : ∀ i, i < had → c i = c' i) (h : oku c had n j) : vls c had n j = vls c' had n j := by
  have h2 := oku_2j h
  unfold vls
  rw [dn_congr e (j := j) (by omega)]
  by_cases q : had ≤ 2 * j
  · rw [if_pos q, if_pos q]
  · rw [if_neg q, if_neg q, dn_congr e (j := j + 1) (by omega), e (2 * j) (by omega)]
theorem hwsX0_readCollected : ∀ w ∈ u_ws RX0 TX0 16, w ∈ wsX0_readCollected := fun _ h => List.mem_cons_of_mem _ (List.mem_append_right _ h)
theorem kX0_readCollected_29 : Cond.fieldLink RX0 29 "SheetRows" (TX0 3).2.1 (TX0 3).2.2.1 ∈ wsX0_readCollected := by decide +kernel
theorem kX0_readCollected_55 : Cond.fieldLink RX0 55 "SheetRows" (TX0 14).2.1 (TX0 14).2.2.1 ∈ wsX0_readCollected := by decide +kernel
theorem kX0_readCollected_117 : Cond.fieldLink RX0 117 "SheetRows" (TX0 15).2.1 (TX0 15).2.2.1 ∈ wsX0_readCollected := by decide +kernel
abbrev rmX0_readCollected : Room := { frames := 0, cells := 0, slots := 0, locals := 0 }
theorem dn_mono (c : Nat → Int) {i j : Nat} (h : i ≤ j) : dn c i ≤ dn c j := by
  obtain ⟨d, rfl⟩ : ∃ d, j = i + d := ⟨j - i, by omega⟩
  induction d with
  | zero => exact Nat.le_refl _
  | succ d ih =>
    have h1 := ih (by omega)
    show dn c i ≤ dn c (i + d) + _
    omega
set_option maxHeartbeats 4000000 in
set_option maxRecDepth 100000 in
theorem lqX0_readCollected {p : Program} {l : Launch} {e : Env} {s : State} {m : MethodId} {args : Array Value} {below : List Frame} {meth : Method} {c : Code} {Q : State → Prop} {D : va_G} {A : Nat → Prop} {cB cI cZ cL : ClassId} {w h : Nat} {ad : Nat → Nat} {aG aS : Nat} {G CB SB DK DR RE PF PK CO : Nat → Int} {rc pn kn : Int} (C : JC p m c cX0_readCollected 6 s args wsX0_readCollected RX0 D vwCl (tyl cB cI cZ cL) A) (hs : Sz w h) {a j : Nat} (ha : a ≤ 5000) (hb : byt a CO) (hj : 2 * j + 1 < a) (hd : dn CO (j + 1) ≤ w * h) (kx : ∀ S : Nat → Int, fld CO (j + 1) S → J p l e rmX0_readCollected s m args below meth c Q 6 D vwCl A 91 [(0, .ref (ad 0)), (1, .int (zI ((dn CO j : Nat) : Int))), (2, .int (zI ((2 * j : Nat) : Int))), (3, .int (zI (CO (2 * j) % 256))), (4, .int (zI (((dn CO j : Nat) : Int) + CO (2 * j) % 256))), (5, .int (zI ((dn CO (j + 1)) : Int)))] [] (wX cB cI cZ ad w h aG aS G S CB SB DK DR RE PF PK CO rc pn kn (a : Int)) 0 0) : ∀ (n i : Nat) (S : Nat → Int), dn CO j ≤ i → i ≤ dn CO (j + 1) → dn CO (j + 1) - i < n → fld CO j S → (∀ q, dn CO j ≤ q → q < i → S q = CO (2 * j + 1)) → J p l e rmX0_readCollected s m args below meth c Q 6 D vwCl A 63 [(0, .ref (ad 0)), (1, .int (zI ((dn CO j : Nat) : Int))), (2, .int (zI ((2 * j : Nat) : Int))), (3, .int (zI (CO (2 * j) % 256))), (4, .int (zI (((dn CO j : Nat) : Int) + CO (2 * j) % 256))), (5, .int (zI (i : Int)))] [] (wX cB cI cZ ad w h aG aS G S CB SB DK DR RE PF PK CO rc pn kn (a : Int)) 0 0 := by
  have hm := hs.mul
  have hdd : dn CO (j + 1) = dn CO j + (CO (2 * j) % 256).toNat := rfl
  have hcb := hb (2 * j + 1) hj
  intro n
  induction n with
  | zero => intro i S _ _ hn; exact absurd hn (Nat.not_lt_zero _)
  | succ n ih =>
    intro i S h1 h2 hn hF hS
    refine j_iload C eX0_readCollected_63 5 rfl ?_
    refine j_iload C eX0_readCollected_65 4 rfl ?_
    refine j_icmp_ge C 91 eX0_readCollected_67 (by decide) (by omega) (by omega) (fun c67 => ?_) (fun c67 => ?_)
    ·
      have he : i = dn CO (j + 1) := by omega
      subst he
      refine kx S (fun i' hi' q q1 q2 => ?_)
      by_cases e : i' = j
      · subst e; exact hS q q1 q2
      · exact hF i' (by omega) q q1 q2
    ·
      refine j_aload_n C eX0_readCollected_70 0 rfl ?_
      refine j_getf C hwsX0_readCollected 0 rfl rfl 3 (by decide) kX0_readCollected_29 rfl rfl eX0_readCollected_71 ?_
      refine j_iload C eX0_readCollected_74 5 rfl ?_
      refine j_aload_n C eX0_readCollected_76 0 rfl ?_
      refine j_getf C hwsX0_readCollected 0 rfl rfl 14 (by decide) kX0_readCollected_55 rfl rfl eX0_readCollected_77 ?_
      refine j_iload_n C eX0_readCollected_80 2 rfl ?_
      refine j_iconst C eX0_readCollected_81 ?_
      refine j_iadd C eX0_readCollected_82 ?_
      refine j_bald C 10 0 rfl rfl (2 * j + 1) (by push_cast; rfl) (by omega) (by omega) eX0_readCollected_83 ?_
      refine j_bast C 2 0 rfl rfl i rfl (by omega) (by omega) (nar_b hcb) eX0_readCollected_84 (wd' := wX cB cI cZ ad w h aG aS G (zup S i (CO (2 * j + 1))) CB SB DK DR RE PF PK CO rc pn kn (a : Int)) rfl ?_
      refine j_iinc C eX0_readCollected_85 5 rfl rfl (by decide) (lv' := [(0, .ref (ad 0)), (1, .int (zI ((dn CO j : Nat) : Int))), (2, .int (zI ((2 * j : Nat) : Int))), (3, .int (zI (CO (2 * j) % 256))), (4, .int (zI (((dn CO j : Nat) : Int) + CO (2 * j) % 256))), (5, .int (zI ((i : Int) + 1)))]) rfl ?_
      refine j_goto C 63 eX0_readCollected_88 (by decide) ?_
      refine ih (i + 1) _ (by omega) (by omega) (by omega) (fun i' hi' q q1 q2 => ?_) (fun q q1 q2 => ?_)
      · have hmo : dn CO (i' + 1) ≤ dn CO j := dn_mono CO (by omega)
        rw [zup_n (by omega)]
        exact hF i' hi' q q1 q2
      · by_cases e : q = i
        · subst e; exact zup_s
        · rw [zup_n e]; exact hS q q1 (by omega)
set_option maxHeartbeats 4000000 in
set_option maxRecDepth 100000 in
theorem lpX0_readCollected {p : Program} {l : Launch} {e : Env} {s : State} {m : MethodId} {args : Array Value} {below : List Frame} {meth : Method} {c : Code} {D : va_G} {cB cI cZ cL : ClassId} {w h : Nat} {ad : Nat → Nat} {aG aS : Nat} {G CB SB DK DR RE PF PK CO : Nat → Int} {rc pn kn : Int} {w9 : va_W} (C : JC p m c cX0_readCollected 6 s args wsX0_readCollected RX0 D vwCl (tyl cB cI cZ cL) (va_A w9 s.heap.size)) (hs : Sz w h) {a : Nat} (hr : meth.sig.returnType = some .int) (hlocks : meth.locks = false) (ha : a ≤ 5000) (hb : byt a CO) : ∀ (n j : Nat) (S : Nat → Int), a - 2 * j < n → oku CO a (w * h) j → fld CO j S → J p l e rmX0_readCollected s m args below meth c (MQ below (mQI D vwCl (tyl cB cI cZ cL) w9 s.heap.size (fun z w1 => ∃ (j : Nat) (S' : Nat → Int), oku CO a (w * h) j ∧ stp CO a (w * h) j ∧ fld CO j S' ∧ z = vls CO a (w * h) j ∧ w1 = wX cB cI cZ ad w h aG aS G S' CB SB DK DR RE PF PK CO rc pn kn (a : Int))) args s 0 0 (va_A w9 s.heap.size)) 6 D vwCl (va_A w9 s.heap.size) 4 [(0, .ref (ad 0)), (1, .int (zI ((dn CO j : Nat) : Int))), (2, .int (zI ((2 * j : Nat) : Int)))] [] (wX cB cI cZ ad w h aG aS G S CB SB DK DR RE PF PK CO rc pn kn (a : Int)) 0 0 := by
  have hm := hs.mul
  intro n
  induction n with
  | zero => intro j S hn; exact absurd hn (Nat.not_lt_zero _)
  | succ n ih =>
    intro j S hn hO hF
    have hdl := dn_le hO
    have h2j := oku_2j hO
    have hdd : dn CO (j + 1) = dn CO j + (CO (2 * j) % 256).toNat := rfl
    refine j_iload_n C eX0_readCollected_4 2 rfl ?_
    refine j_aload_n C eX0_readCollected_5 0 rfl ?_
    refine j_getf C hwsX0_readCollected 0 rfl rfl 15 (by decide) kX0_readCollected_117 rfl rfl eX0_readCollected_6 ?_
    refine j_icmp_ge C 100 eX0_readCollected_9 (by decide) (by omega) (by omega) (fun c9 => ?_) (fun c9 => ?_)
    ·
      refine j_iload_n C eX0_readCollected_100 1 rfl ?_
      refine j_aload_n C eX0_readCollected_101 0 rfl ?_
      refine j_getf C hwsX0_readCollected 0 rfl rfl 3 (by decide) kX0_readCollected_29 rfl rfl eX0_readCollected_102 ?_
      refine j_alen C 2 0 rfl rfl eX0_readCollected_105 ?_
      refine j_icmp_ge C 116 eX0_readCollected_106 (by decide) (by omega) (by omega) (fun c106 => ?_) (fun c106 => ?_)
      ·
        refine j_iconst C eX0_readCollected_116 ?_
        exact j_iret C hr hlocks rfl eX0_readCollected_117 ⟨j, S, hO, (by unfold stp; omega), hF, (by unfold vls; rw [if_pos (by omega), if_neg (by omega)]), rfl⟩
      ·
        refine j_aload_n C eX0_readCollected_109 0 rfl ?_
        refine j_getf C hwsX0_readCollected 0 rfl rfl 15 (by decide) kX0_readCollected_117 rfl rfl eX0_readCollected_110 ?_
        refine j_goto C 117 eX0_readCollected_113 (by decide) ?_
        exact j_iret C hr hlocks rfl eX0_readCollected_117 ⟨j, S, hO, (by unfold stp; omega), hF, (by unfold vls; rw [if_pos (by omega), if_pos (by omega)]), rfl⟩
    ·
      refine j_aload_n C eX0_readCollected_12 0 rfl ?_
      refine j_getf C hwsX0_readCollected 0 rfl rfl 14 (by decide) kX0_readCollected_55 rfl rfl eX0_readCollected_13 ?_
      refine j_iload_n C eX0_readCollected_16 2 rfl ?_
      refine j_bald C 10 0 rfl rfl (2 * j) (by push_cast; rfl) (by omega) (by omega) eX0_readCollected_17 ?_
      refine j_sipush C eX0_readCollected_18 (by decide +kernel) ?_
      refine j_and255 C eX0_readCollected_21 ?_
      refine j_istore_n C eX0_readCollected_22 rfl (by decide) (lv' := [(0, .ref (ad 0)), (1, .int (zI ((dn CO j : Nat) : Int))), (2, .int (zI ((2 * j : Nat) : Int))), (3, .int (zI ((CO (2 * j)) % 256)))]) rfl ?_
      refine j_iload_n C eX0_readCollected_23 3 rfl ?_
      refine j_if_eq C 38 eX0_readCollected_24 (by decide) (by omega) (fun c24 => ?_) (fun c24 => ?_)
      ·
        refine j_iload_n C eX0_readCollected_38 2 rfl ?_
        exact j_iret C hr hlocks rfl eX0_readCollected_39 ⟨j, S, hO, (by unfold stp; omega), hF, (by unfold vls; rw [if_neg (by omega), if_pos (by omega)]; omega), rfl⟩
      ·
        refine j_iload_n C eX0_readCollected_27 3 rfl ?_
        refine j_aload_n C eX0_readCollected_28 0 rfl ?_
        refine j_getf C hwsX0_readCollected 0 rfl rfl 3 (by decide) kX0_readCollected_29 rfl rfl eX0_readCollected_29 ?_
        refine j_alen C 2 0 rfl rfl eX0_readCollected_32 ?_
        refine j_iload_n C eX0_readCollected_33 1 rfl ?_
        refine j_isub C eX0_readCollected_34 ?_
        refine j_icmp_le C 40 eX0_readCollected_35 (by decide) (by omega) (by omega) (fun c35 => ?_) (fun c35 => ?_)
        ·
          refine j_iload_n C eX0_readCollected_40 2 rfl ?_
          refine j_iconst C eX0_readCollected_41 ?_
          refine j_iadd C eX0_readCollected_42 ?_
          refine j_aload_n C eX0_readCollected_43 0 rfl ?_
          refine j_getf C hwsX0_readCollected 0 rfl rfl 15 (by decide) kX0_readCollected_117 rfl rfl eX0_readCollected_44 ?_
          refine j_icmp_lt C 55 eX0_readCollected_47 (by decide) (by omega) (by omega) (fun c47 => ?_) (fun c47 => ?_)
          ·
            refine j_iload_n C eX0_readCollected_55 1 rfl ?_
            refine j_iload_n C eX0_readCollected_56 3 rfl ?_
            refine j_iadd C eX0_readCollected_57 ?_
            refine j_istore C eX0_readCollected_58 rfl (by decide) (lv' := [(0, .ref (ad 0)), (1, .int (zI ((dn CO j : Nat) : Int))), (2, .int (zI ((2 * j : Nat) : Int))), (3, .int (zI ((CO (2 * j)) % 256))), (4, .int (zI (((dn CO j : Nat) : Int) + ((CO (2 * j)) % 256))))]) rfl ?_
            refine j_iload_n C eX0_readCollected_60 1 rfl ?_
            refine j_istore C eX0_readCollected_61 rfl (by decide) (lv' := [(0, .ref (ad 0)), (1, .int (zI ((dn CO j : Nat) : Int))), (2, .int (zI ((2 * j : Nat) : Int))), (3, .int (zI ((CO (2 * j)) % 256))), (4, .int (zI (((dn CO j : Nat) : Int) + ((CO (2 * j)) % 256)))), (5, .int (zI ((dn CO j : Nat) : Int)))]) rfl ?_
            refine lqX0_readCollected C hs ha hb (by omega) (by omega) (fun S' hF' => ?_) (dn CO (j + 1) + 1) (dn CO j) S (by omega) (by omega) (by omega) hF (fun q q1 q2 => by omega)
            refine j_iload C eX0_readCollected_91 4 rfl ?_
            refine j_istore_n C eX0_readCollected_93 rfl (by decide) (lv' := [(0, .ref (ad 0)), (1, .int (zI (((dn CO j : Nat) : Int) + CO (2 * j) % 256))), (2, .int (zI ((2 * j : Nat) : Int))), (3, .int (zI (CO (2 * j) % 256))), (4, .int (zI (((dn CO j : Nat) : Int) + CO (2 * j) % 256))), (5, .int (zI ((dn CO (j + 1)) : Int)))]) rfl ?_
            refine j_iinc C eX0_readCollected_94 2 rfl rfl (by decide) (lv' := [(0, .ref (ad 0)), (1, .int (zI (((dn CO j : Nat) : Int) + CO (2 * j) % 256))), (2, .int (zI (((2 * j : Nat) : Int) + 2))), (3, .int (zI (CO (2 * j) % 256))), (4, .int (zI (((dn CO j : Nat) : Int) + CO (2 * j) % 256))), (5, .int (zI ((dn CO (j + 1)) : Int)))]) rfl ?_
            refine j_goto C 4 eX0_readCollected_97 (by decide) ?_
            refine j_loc [0, 1, 2] (lv' := [(0, .ref (ad 0)), (1, .int (zI (((dn CO j : Nat) : Int) + CO (2 * j) % 256))), (2, .int (zI (((2 * j : Nat) : Int) + 2)))]) rfl ?_
            have hO' : oku CO a (w * h) (j + 1) := fun i hi => by
              by_cases e : i = j
              · subst e
                exact ⟨by omega, by omega, by omega⟩
              · exact hO i (by omega)
            have hb9 := ih (j + 1) S' (by omega) hO' hF'
            have e1 : ((dn CO (j + 1) : Nat) : Int) = ((dn CO j : Nat) : Int) + CO (2 * j) % 256 := by omega
            rw [e1] at hb9
            exact hb9
          ·
            refine j_aload_n C eX0_readCollected_50 0 rfl ?_
            refine j_getf C hwsX0_readCollected 0 rfl rfl 15 (by decide) kX0_readCollected_117 rfl rfl eX0_readCollected_51 ?_
            exact j_iret C hr hlocks rfl eX0_readCollected_54 ⟨j, S, hO, (by unfold stp; omega), hF, (by unfold vls; rw [if_neg (by omega), if_neg (by omega)]), rfl⟩
        ·
          refine j_iload_n C eX0_readCollected_38 2 rfl ?_
          exact j_iret C hr hlocks rfl eX0_readCollected_39 ⟨j, S, hO, (by unfold stp; omega), hF, (by unfold vls; rw [if_neg (by omega), if_pos (by omega)]; omega), rfl⟩
set_option maxHeartbeats 4000000 in
set_option maxRecDepth 100000 in
theorem ctX0_readCollected (l : Launch) (D : va_G) (cB cI cZ cL : ClassId) (ad : Nat → Nat) (w h : Nat) (hs : Sz w h) (aG aS : Nat) (G S CB SB DK DR RE PF PK CO : Nat → Int) (rc pn kn : Int) (a : Nat) (ha : a ≤ 5000) (hb : byt a CO) : mI l yX0_readCollected wsX0_readCollected rmX0_readCollected D vwCl (tyl cB cI cZ cL) [.ref (ad 0)] (wX cB cI cZ ad w h aG aS G S CB SB DK DR RE PF PK CO rc pn kn (a : Int)) 0 0 (fun z w1 => ∃ (j : Nat) (S' : Nat → Int), oku CO a (w * h) j ∧ stp CO a (w * h) j ∧ fld CO j S' ∧ z = vls CO a (w * h) j ∧ w1 = wX cB cI cZ ad w h aG aS G S' CB SB DK DR RE PF PK CO rc pn kn (a : Int)) := by
  refine mI_of (own := RX0) rfl (by decide) rfl (Nat.le_of_ble_eq_true rfl) ?_
  intro p e s m args below meth c C hr hlocks hname
  show J p l e rmX0_readCollected s m args below meth c _ 6 D vwCl _ 0 [(0, .ref (ad 0))] [] (wX cB cI cZ ad w h aG aS G S CB SB DK DR RE PF PK CO rc pn kn (a : Int)) 0 0
  refine j_iconst C eX0_readCollected_0 ?_
  refine j_istore_n C eX0_readCollected_1 rfl (by decide) (lv' := [(0, .ref (ad 0)), (1, .int (zI 0))]) rfl ?_
  refine j_iconst C eX0_readCollected_2 ?_
  refine j_istore_n C eX0_readCollected_3 rfl (by decide) (lv' := [(0, .ref (ad 0)), (1, .int (zI 0)), (2, .int (zI 0))]) rfl ?_
  exact lpX0_readCollected C hs hr hlocks ha hb (a + 1) 0 S (by omega) (fun i hi => absurd hi (Nat.not_lt_zero _)) (fun i hi => absurd hi (Nat.not_lt_zero _))
theorem hwsX0_unpack : ∀ w ∈ u_ws RX0 TX0 16, w ∈ wsX0_unpack := fun _ h => List.mem_cons_of_mem _ (List.mem_append_right _ h)
theorem kX0_unpack_117 : Cond.fieldLink RX0 117 "SheetRows" (TX0 15).2.1 (TX0 15).2.2.1 ∈ wsX0_unpack := by decide +kernel
abbrev rmX0_unpack : Room := { frames := 1, cells := 0, slots := 0, locals := 25 }
set_option maxHeartbeats 4000000 in
set_option maxRecDepth 100000 in
theorem ctX0_unpack (l : Launch) (D : va_G) (cB cI cZ cL : ClassId) (ad : Nat → Nat) (w h : Nat) (hs : Sz w h) (aG aS : Nat) (G S CB SB DK DR RE PF PK CO : Nat → Int) (rc pn kn : Int) (a : Nat) (ha : a ≤ 5000) (hb : byt a CO) (hG : byt (w * h) G) : mI l yX0_unpack wsX0_unpack rmX0_unpack D vwCl (tyl cB cI cZ cL) [.ref (ad 0)] (wX cB cI cZ ad w h aG aS G S CB SB DK DR RE PF PK CO rc pn kn (a : Int)) 0 0 (fun z w1 => ∃ (j : Nat) (S' : Nat → Int), oku CO a (w * h) j ∧ stp CO a (w * h) j ∧ fld CO j S' ∧ if vls CO a (w * h) j = -1 then z = 1 ∧ w1 = wX cB cI cZ ad w h aS aG S' G CB SB DK DR RE PF PK CO rc pn kn 0 else z = -1 - vls CO a (w * h) j ∧ w1 = wX cB cI cZ ad w h aG aS G S' CB SB DK DR RE PF PK CO rc pn kn 0) := by
  refine mI_of (own := RX0) rfl (by decide) rfl (Nat.le_of_ble_eq_true rfl) ?_
  intro p e s m args below meth c C hr hlocks hname
  show J p l e rmX0_unpack s m args below meth c _ 2 D vwCl _ 0 [(0, .ref (ad 0))] [] (wX cB cI cZ ad w h aG aS G S CB SB DK DR RE PF PK CO rc pn kn (a : Int)) 0 0
  have hm := hs.mul
  refine j_aload_n C eX0_unpack_0 0 rfl ?_
  refine j_callVi C (As := []) (rest := []) (ctX0_readCollected l D cB cI cZ cL ad w h hs aG aS G S CB SB DK DR RE PF PK CO rc pn kn a ha hb) (cwV 0 C.1.2.2.2.2 gX0_unpack_X0_readCollected rfl rfl rfl (by decide +kernel) ⟨Nat.le_of_ble_eq_true rfl, Nat.le_of_ble_eq_true rfl⟩) [0, 1, 2, 3, 4, 5, 6, 7, 8, 9, 10] [] (wr := []) rfl (by decide) rfl (by decide) (by decide) 0 rfl rfl rfl rfl (Nat.le_of_ble_eq_true rfl) eX0_unpack_1 ⟨Nat.le_of_ble_eq_true rfl, Nat.le_of_ble_eq_true rfl⟩ (fun z w1 hp => ?_)
  obtain ⟨j, S', hO, hst, hF, rfl, rfl⟩ := hp
  rw [List.nil_append]
  have hdl := dn_le hO
  have h2j := oku_2j hO
  have hv : -1 ≤ vls CO a (w * h) j ∧ vls CO a (w * h) j ≤ 5000 := by unfold vls; split; split <;> omega; split <;> omega
  refine j_istore_n C eX0_unpack_4 rfl (by decide) (lv' := [(0, .ref (ad 0)), (1, .int (zI (vls CO a (w * h) j)))]) rfl ?_
  refine j_aload_n C eX0_unpack_5 0 rfl ?_
  refine j_iconst C eX0_unpack_6 ?_
  refine j_putf C hwsX0_unpack tyX0 tyX0_ok nmX0 0 rfl rfl 15 (by decide) kX0_unpack_117 rfl rfl (tyX0_ok 15 (by decide)) rfl rfl (Nat.le_of_ble_eq_true rfl) eX0_unpack_7 (wd' := wX cB cI cZ ad w h aG aS G S' CB SB DK DR RE PF PK CO rc pn kn 0) rfl ?_
  refine j_iload_n C eX0_unpack_10 1 rfl ?_
  refine j_iconst C eX0_unpack_11 ?_
  refine j_icmp_eq C 19 eX0_unpack_12 (by decide) (by omega) (by omega) (fun c12 => ?_) (fun c12 => ?_)
  ·
    refine j_aload_n C eX0_unpack_19 0 rfl ?_
    have hby : byt (w * h) S' := fun q hq => by
      have hc2 : dn CO j = w * h := by unfold vls at c12; split at c12; split at c12 <;> omega; split at c12 <;> omega
      obtain ⟨i, i1, i2, i3⟩ := dn_seg CO (j := j) (q := q) (by omega)
      rw [hF i i1 q i2 i3]
      exact hb _ (hO i i1).1
    refine j_callVi C (As := []) (rest := []) (ctX0_takeSpare l D cB cI cZ cL ad w h hs aG aS G S' CB SB DK DR RE PF PK CO rc pn kn 0 hG hby) (cwV 0 C.1.2.2.2.2 gX0_unpack_X0_takeSpare rfl rfl rfl (by decide +kernel) ⟨Nat.le_of_ble_eq_true rfl, Nat.le_of_ble_eq_true rfl⟩) [0, 1, 2, 3, 4, 5, 6, 7, 8, 9, 10] [] (wr := []) rfl (by decide) rfl (by decide) (by decide) 0 rfl rfl rfl rfl (Nat.le_of_ble_eq_true rfl) eX0_unpack_20 ⟨Nat.le_of_ble_eq_true rfl, Nat.le_of_ble_eq_true rfl⟩ (fun z w1 hp => ?_)
    obtain ⟨rfl, rfl⟩ := hp
    rw [List.nil_append]
    refine j_pop C eX0_unpack_23 rfl ?_
    refine j_iconst C eX0_unpack_24 ?_
    exact j_iret C hr hlocks rfl eX0_unpack_25 ⟨j, S', hO, hst, hF, by rw [if_pos c12]; exact ⟨rfl, rfl⟩⟩
  ·
    refine j_iconst C eX0_unpack_15 ?_
    refine j_iload_n C eX0_unpack_16 1 rfl ?_
    refine j_isub C eX0_unpack_17 ?_
    exact j_iret C hr hlocks rfl eX0_unpack_18 ⟨j, S', hO, hst, hF, by rw [if_neg c12]; exact ⟨rfl, rfl⟩⟩
theorem j_tsw {p : Program} {l : Launch} {e : Env} {R : Room} {s : State} {m : MethodId} {args : Array Value} {below : List Frame} {meth : Method} {c : Code} {Q : State → Prop} {nL : Nat} {D : va_G} {cl : List vw_C} {tys : List (ClassId × FieldType)} {A : Nat → Prop} {cc : ByteArray} {Ts : List Cond} {own : String} {pc pc' len : Nat} {lv : List (Nat × Value)} {st : List Value} {wd : va_W} {cells slots : Nat} (C : JC p m c cc nL s args Ts own D cl tys A) {dflt lo hi off z : Int} {offs : Array Int} (tgt : Nat) (hd : dec cc pc (.tableswitch dflt lo hi offs) len pc') (hz : -2147483648 ≤ z ∧ z ≤ 2147483647) (h1 : lo ≤ z) (h2 : z ≤ hi) (ho : offs[(z - lo).toNat]? = some off) (ht : (pc : Int) + off = (tgt : Int)) (k : J p l e R s m args below meth c Q nL D cl A tgt lv st wd cells slots) : J p l e R s m args below meth c Q nL D cl A pc lv (.int (zI z) :: st) wd cells slots := fun H locs ls hl hP hD hS => lv_tableIn C.1.1 C.1.2.1 hd.1 (by rw [zI_toInt hz]; omega) (by rw [zI_toInt hz]; omega) (by rw [zI_toInt hz]; exact ho) ht (k H locs ls hl hP hD hS)
theorem j_tswO {p : Program} {l : Launch} {e : Env} {R : Room} {s : State} {m : MethodId} {args : Array Value} {below : List Frame} {meth : Method} {c : Code} {Q : State → Prop} {nL : Nat} {D : va_G} {cl : List vw_C} {tys : List (ClassId × FieldType)} {A : Nat → Prop} {cc : ByteArray} {Ts : List Cond} {own : String} {pc pc' len : Nat} {lv : List (Nat × Value)} {st : List Value} {wd : va_W} {cells slots : Nat} (C : JC p m c cc nL s args Ts own D cl tys A) {dflt lo hi z : Int} {offs : Array Int} (tgt : Nat) (hd : dec cc pc (.tableswitch dflt lo hi offs) len pc') (hz : -2147483648 ≤ z ∧ z ≤ 2147483647) (h1 : z < lo ∨ hi < z) (ht : (pc : Int) + dflt = (tgt : Int)) (k : J p l e R s m args below meth c Q nL D cl A tgt lv st wd cells slots) : J p l e R s m args below meth c Q nL D cl A pc lv (.int (zI z) :: st) wd cells slots := fun H locs ls hl hP hD hS => lv_tableOut C.1.1 C.1.2.1 hd.1 (by rw [zI_toInt hz]; exact h1) ht (k H locs ls hl hP hD hS)
/-- the sheet as 'side' makes it, as bytes -/
def sdf (w h : Nat) (G : Nat → Int) (o : Int) (y x : Nat) : Int := if o = 0 then G (y * w + (w - 1 - x)) else if o = 1 then G ((h - 1 - y) * w + x) else if o = 2 then Int.bmod (255 - G (y * w + x) % 256) 256 else if x < w / 2 ∧ y < h / 2 then mn4 w G y x else -1
theorem scn_byt {w h : Nat} {f : Nat → Nat → Int} {S : Nat → Int} (hs : Sz w h) (hS : scn w f h 0 S) (hf : ∀ y x, y < h → x < w → -128 ≤ f y x ∧ f y x ≤ 127) : byt (w * h) S := fun k hk => by
  obtain ⟨e1, e2, e3⟩ := ix_of hs.1 hk
  have h1 := hS (k / w) (k % w) e2 (Or.inl e1)
  rw [e3] at h1
  rw [h1]
  exact hf _ _ e1 e2
theorem hwsX0_side : ∀ w ∈ u_ws RX0 TX0 16, w ∈ wsX0_side := fun _ h => List.mem_cons_of_mem _ (List.mem_append_right _ h)
abbrev rmX0_side : Room := { frames := 2, cells := 0, slots := 0, locals := 45 }
set_option maxHeartbeats 4000000 in
set_option maxRecDepth 100000 in
theorem ctX0_side (l : Launch) (D : va_G) (cB cI cZ cL : ClassId) (ad : Nat → Nat) (w h : Nat) (hs : Sz w h) (aG aS : Nat) (G S CB SB DK DR RE PF PK CO : Nat → Int) (rc pn kn cn : Int) (o : Int) (ho : -2147483648 ≤ o ∧ o ≤ 2147483647) (hG : byt (w * h) G) : mI l yX0_side wsX0_side rmX0_side D vwCl (tyl cB cI cZ cL) [.ref (ad 0), .int (zI o)] (wX cB cI cZ ad w h aG aS G S CB SB DK DR RE PF PK CO rc pn kn cn) 0 0 (fun z w1 => if 0 ≤ o ∧ o ≤ 3 then ∃ S' : Nat → Int, scn w (sdf w h G o) h 0 S' ∧ z = dif G S' (w * h) ∧ w1 = wX cB cI cZ ad w h aS aG S' G CB SB DK DR RE PF PK CO rc pn kn cn else z = -1 ∧ w1 = wX cB cI cZ ad w h aG aS G S CB SB DK DR RE PF PK CO rc pn kn cn) := by
  refine mI_of (own := RX0) rfl (by decide) rfl (Nat.le_of_ble_eq_true rfl) ?_
  intro p e s m args below meth c C hr hlocks hname
  show J p l e rmX0_side s m args below meth c _ 2 D vwCl _ 0 [(0, .ref (ad 0)), (1, .int (zI o))] [] (wX cB cI cZ ad w h aG aS G S CB SB DK DR RE PF PK CO rc pn kn cn) 0 0
  have hm := hs.mul
  obtain ⟨h1, h2, h3, h4⟩ := id hs
  refine j_iload_n C eX0_side_0 1 rfl ?_
  by_cases o0 : 0 ≤ o ∧ o ≤ 3
  ·
    have hfb : ∀ y x, y < h → x < w → -128 ≤ sdf w h G o y x ∧ sdf w h G o y x ≤ 127 := fun y x hy hx => by
      unfold sdf
      split
      · exact hG _ (ix_lt (by omega) hy)
      · split
        · exact hG _ (ix_lt hx (by omega))
        · split
          · exact bm_in _
          · split
            · exact bm_in _
            · omega
    have hcs : o = 0 ∨ o = 1 ∨ o = 2 ∨ o = 3 := by omega
    rcases hcs with rfl | rfl | rfl | rfl
    ·
      refine j_tsw C 32 eX0_side_1 (by omega) (by omega) (by omega) (off := 31) rfl (by decide) ?_
      refine j_aload_n C eX0_side_32 0 rfl ?_
      refine j_callVv C (As := []) (rest := []) (ctX0_mirrorRows l D cB cI cZ cL ad w h hs aG aS G S CB SB DK DR RE PF PK CO rc pn kn cn hG) (cwV 0 C.1.2.2.2.2 gX0_side_X0_mirrorRows rfl rfl rfl (by decide +kernel) ⟨Nat.le_of_ble_eq_true rfl, Nat.le_of_ble_eq_true rfl⟩) [0, 1, 2, 3, 4, 5, 6, 7, 8, 9, 10] [] (wr := []) rfl (by decide) rfl (by decide) (by decide) 0 rfl rfl rfl rfl (Nat.le_of_ble_eq_true rfl) eX0_side_33 ⟨Nat.le_of_ble_eq_true rfl, Nat.le_of_ble_eq_true rfl⟩ (fun w1 hp => ?_)
      obtain ⟨S', hS, rfl⟩ := hp
      rw [List.nil_append]
      have hS9 : scn w (sdf w h G 0) h 0 S' := fun y x hx hh => by rw [hS y x hx hh]; rfl
      refine j_goto C 62 eX0_side_36 (by decide) ?_
      refine j_aload_n C eX0_side_62 0 rfl ?_
      refine j_callVi C (As := []) (rest := []) (ctX0_takeSpare l D cB cI cZ cL ad w h hs aG aS G S' CB SB DK DR RE PF PK CO rc pn kn cn hG (scn_byt hs hS9 hfb)) (cwV 0 C.1.2.2.2.2 gX0_side_X0_takeSpare rfl rfl rfl (by decide +kernel) ⟨Nat.le_of_ble_eq_true rfl, Nat.le_of_ble_eq_true rfl⟩) [0, 1, 2, 3, 4, 5, 6, 7, 8, 9, 10] [] (wr := []) rfl (by decide) rfl (by decide) (by decide) 0 rfl rfl rfl rfl (Nat.le_of_ble_eq_true rfl) eX0_side_63 ⟨Nat.le_of_ble_eq_true rfl, Nat.le_of_ble_eq_true rfl⟩ (fun z w1 hp => ?_)
      obtain ⟨rfl, rfl⟩ := hp
      rw [List.nil_append]
      exact j_iret C hr hlocks rfl eX0_side_66 (by rw [if_pos (by omega)]; exact ⟨S', hS9, rfl, rfl⟩)
    ·
      refine j_tsw C 39 eX0_side_1 (by omega) (by omega) (by omega) (off := 38) rfl (by decide) ?_
      refine j_aload_n C eX0_side_39 0 rfl ?_
      refine j_callVv C (As := []) (rest := []) (ctX0_reverseRows l D cB cI cZ cL ad w h hs aG aS G S CB SB DK DR RE PF PK CO rc pn kn cn hG) (cwV 0 C.1.2.2.2.2 gX0_side_X0_reverseRows rfl rfl rfl (by decide +kernel) ⟨Nat.le_of_ble_eq_true rfl, Nat.le_of_ble_eq_true rfl⟩) [0, 1, 2, 3, 4, 5, 6, 7, 8, 9, 10] [] (wr := []) rfl (by decide) rfl (by decide) (by decide) 0 rfl rfl rfl rfl (Nat.le_of_ble_eq_true rfl) eX0_side_40 ⟨Nat.le_of_ble_eq_true rfl, Nat.le_of_ble_eq_true rfl⟩ (fun w1 hp => ?_)
      obtain ⟨S', hS, rfl⟩ := hp
      rw [List.nil_append]
      have hS9 : scn w (sdf w h G 1) h 0 S' := fun y x hx hh => by rw [hS y x hx hh]; rfl
      refine j_goto C 62 eX0_side_43 (by decide) ?_
      refine j_aload_n C eX0_side_62 0 rfl ?_
      refine j_callVi C (As := []) (rest := []) (ctX0_takeSpare l D cB cI cZ cL ad w h hs aG aS G S' CB SB DK DR RE PF PK CO rc pn kn cn hG (scn_byt hs hS9 hfb)) (cwV 0 C.1.2.2.2.2 gX0_side_X0_takeSpare rfl rfl rfl (by decide +kernel) ⟨Nat.le_of_ble_eq_true rfl, Nat.le_of_ble_eq_true rfl⟩) [0, 1, 2, 3, 4, 5, 6, 7, 8, 9, 10] [] (wr := []) rfl (by decide) rfl (by decide) (by decide) 0 rfl rfl rfl rfl (Nat.le_of_ble_eq_true rfl) eX0_side_63 ⟨Nat.le_of_ble_eq_true rfl, Nat.le_of_ble_eq_true rfl⟩ (fun z w1 hp => ?_)
      obtain ⟨rfl, rfl⟩ := hp
      rw [List.nil_append]
      exact j_iret C hr hlocks rfl eX0_side_66 (by rw [if_pos (by omega)]; exact ⟨S', hS9, rfl, rfl⟩)
    ·
      refine j_tsw C 46 eX0_side_1 (by omega) (by omega) (by omega) (off := 45) rfl (by decide) ?_
      refine j_aload_n C eX0_side_46 0 rfl ?_
      refine j_callVv C (As := []) (rest := []) (ctX0_invertGreys l D cB cI cZ cL ad w h hs aG aS G S CB SB DK DR RE PF PK CO rc pn kn cn ) (cwV 0 C.1.2.2.2.2 gX0_side_X0_invertGreys rfl rfl rfl (by decide +kernel) ⟨Nat.le_of_ble_eq_true rfl, Nat.le_of_ble_eq_true rfl⟩) [0, 1, 2, 3, 4, 5, 6, 7, 8, 9, 10] [] (wr := []) rfl (by decide) rfl (by decide) (by decide) 0 rfl rfl rfl rfl (Nat.le_of_ble_eq_true rfl) eX0_side_47 ⟨Nat.le_of_ble_eq_true rfl, Nat.le_of_ble_eq_true rfl⟩ (fun w1 hp => ?_)
      obtain ⟨S', hS, rfl⟩ := hp
      rw [List.nil_append]
      have hS9 : scn w (sdf w h G 2) h 0 S' := fun y x hx hh => by rw [hS _ (ix_lt hx (by omega))]; rfl
      refine j_goto C 62 eX0_side_50 (by decide) ?_
      refine j_aload_n C eX0_side_62 0 rfl ?_
      refine j_callVi C (As := []) (rest := []) (ctX0_takeSpare l D cB cI cZ cL ad w h hs aG aS G S' CB SB DK DR RE PF PK CO rc pn kn cn hG (scn_byt hs hS9 hfb)) (cwV 0 C.1.2.2.2.2 gX0_side_X0_takeSpare rfl rfl rfl (by decide +kernel) ⟨Nat.le_of_ble_eq_true rfl, Nat.le_of_ble_eq_true rfl⟩) [0, 1, 2, 3, 4, 5, 6, 7, 8, 9, 10] [] (wr := []) rfl (by decide) rfl (by decide) (by decide) 0 rfl rfl rfl rfl (Nat.le_of_ble_eq_true rfl) eX0_side_63 ⟨Nat.le_of_ble_eq_true rfl, Nat.le_of_ble_eq_true rfl⟩ (fun z w1 hp => ?_)
      obtain ⟨rfl, rfl⟩ := hp
      rw [List.nil_append]
      exact j_iret C hr hlocks rfl eX0_side_66 (by rw [if_pos (by omega)]; exact ⟨S', hS9, rfl, rfl⟩)
    ·
      refine j_tsw C 53 eX0_side_1 (by omega) (by omega) (by omega) (off := 52) rfl (by decide) ?_
      refine j_aload_n C eX0_side_53 0 rfl ?_
      refine j_callVv C (As := []) (rest := []) (ctX0_halve l D cB cI cZ cL ad w h hs aG aS G S CB SB DK DR RE PF PK CO rc pn kn cn ) (cwV 0 C.1.2.2.2.2 gX0_side_X0_halve rfl rfl rfl (by decide +kernel) ⟨Nat.le_of_ble_eq_true rfl, Nat.le_of_ble_eq_true rfl⟩) [0, 1, 2, 3, 4, 5, 6, 7, 8, 9, 10] [] (wr := []) rfl (by decide) rfl (by decide) (by decide) 0 rfl rfl rfl rfl (Nat.le_of_ble_eq_true rfl) eX0_side_54 ⟨Nat.le_of_ble_eq_true rfl, Nat.le_of_ble_eq_true rfl⟩ (fun w1 hp => ?_)
      obtain ⟨S', hS, rfl⟩ := hp
      rw [List.nil_append]
      have hS9 : scn w (sdf w h G 3) h 0 S' := fun y x hx hh => by
        have e9 : sdf w h G 3 y x = if x < w / 2 ∧ y < h / 2 then mn4 w G y x else -1 := by unfold sdf; rw [if_neg (by omega), if_neg (by omega), if_neg (by omega)]
        rw [hS y x hx (by omega), e9]
        by_cases q : x < w / 2 ∧ y < h / 2
        · rw [if_pos (by omega), if_pos q]
        · rw [if_neg (by omega), if_neg q]
      refine j_goto C 62 eX0_side_57 (by decide) ?_
      refine j_aload_n C eX0_side_62 0 rfl ?_
      refine j_callVi C (As := []) (rest := []) (ctX0_takeSpare l D cB cI cZ cL ad w h hs aG aS G S' CB SB DK DR RE PF PK CO rc pn kn cn hG (scn_byt hs hS9 hfb)) (cwV 0 C.1.2.2.2.2 gX0_side_X0_takeSpare rfl rfl rfl (by decide +kernel) ⟨Nat.le_of_ble_eq_true rfl, Nat.le_of_ble_eq_true rfl⟩) [0, 1, 2, 3, 4, 5, 6, 7, 8, 9, 10] [] (wr := []) rfl (by decide) rfl (by decide) (by decide) 0 rfl rfl rfl rfl (Nat.le_of_ble_eq_true rfl) eX0_side_63 ⟨Nat.le_of_ble_eq_true rfl, Nat.le_of_ble_eq_true rfl⟩ (fun z w1 hp => ?_)
      obtain ⟨rfl, rfl⟩ := hp
      rw [List.nil_append]
      exact j_iret C hr hlocks rfl eX0_side_66 (by rw [if_pos (by omega)]; exact ⟨S', hS9, rfl, rfl⟩)
  ·
    refine j_tswO C 60 eX0_side_1 ho (by omega) (by decide) ?_
    refine j_iconst C eX0_side_60 ?_
    exact j_iret C hr hlocks rfl eX0_side_61 (by rw [if_neg o0]; exact ⟨rfl, rfl⟩)
end
