section
-- ===== PART A: goes FIRST, ahead of the names: the tables' words, and 'selects' of the private methods out of them =====
/-- a private method of a class that the tables say can be made, by its rows of tables_1 -/
def lw_okq (q : MethodName × Nat) : Prop := (q.1.cls ≠ "java/lang/invoke/MethodHandle" ∧ q.1.cls ≠ "java/lang/invoke/VarHandle") ∧ Cond.instantiable q.1.cls q.2 ∈ tables_1 ∧ Cond.privateMethod q.1 ∈ tables_1 ∧ Cond.instanceMethod q.1 ∈ tables_1
theorem lw_p0 : lw_okq (⟨"SheetRows", "tallyGreys", "()V"⟩, 16) := ⟨⟨by decide +kernel, by decide +kernel⟩, List.mem_of_getElem? (i := 11) (by decide +kernel), List.mem_of_getElem? (i := 84) (by decide +kernel), List.mem_of_getElem? (i := 85) (by decide +kernel)⟩
theorem lw_p1 : lw_okq (⟨"SheetRows", "spreadAt", "(I)I"⟩, 16) := ⟨⟨by decide +kernel, by decide +kernel⟩, List.mem_of_getElem? (i := 11) (by decide +kernel), List.mem_of_getElem? (i := 91) (by decide +kernel), List.mem_of_getElem? (i := 92) (by decide +kernel)⟩
theorem lw_p2 : lw_okq (⟨"SheetRows", "spreadOfLot", "(II)I"⟩, 16) := ⟨⟨by decide +kernel, by decide +kernel⟩, List.mem_of_getElem? (i := 11) (by decide +kernel), List.mem_of_getElem? (i := 95) (by decide +kernel), List.mem_of_getElem? (i := 96) (by decide +kernel)⟩
theorem lw_p3 : lw_okq (⟨"SheetRows", "markDark", "()V"⟩, 16) := ⟨⟨by decide +kernel, by decide +kernel⟩, List.mem_of_getElem? (i := 11) (by decide +kernel), List.mem_of_getElem? (i := 103) (by decide +kernel), List.mem_of_getElem? (i := 104) (by decide +kernel)⟩
theorem lw_p4 : lw_okq (⟨"SheetRows", "hasMostlyLow", "(I)Z"⟩, 16) := ⟨⟨by decide +kernel, by decide +kernel⟩, List.mem_of_getElem? (i := 11) (by decide +kernel), List.mem_of_getElem? (i := 108) (by decide +kernel), List.mem_of_getElem? (i := 109) (by decide +kernel)⟩
theorem lw_p5 : lw_okq (⟨"SheetRows", "reachPart", "(I)V"⟩, 16) := ⟨⟨by decide +kernel, by decide +kernel⟩, List.mem_of_getElem? (i := 11) (by decide +kernel), List.mem_of_getElem? (i := 112) (by decide +kernel), List.mem_of_getElem? (i := 113) (by decide +kernel)⟩
theorem lw_p6 : lw_okq (⟨"SheetRows", "reach", "(I)V"⟩, 16) := ⟨⟨by decide +kernel, by decide +kernel⟩, List.mem_of_getElem? (i := 11) (by decide +kernel), List.mem_of_getElem? (i := 116) (by decide +kernel), List.mem_of_getElem? (i := 117) (by decide +kernel)⟩
theorem lw_p7 : lw_okq (⟨"SheetRows", "reachAround", "(II)V"⟩, 16) := ⟨⟨by decide +kernel, by decide +kernel⟩, List.mem_of_getElem? (i := 11) (by decide +kernel), List.mem_of_getElem? (i := 120) (by decide +kernel), List.mem_of_getElem? (i := 121) (by decide +kernel)⟩
theorem lw_p8 : lw_okq (⟨"SheetRows", "keepPart", "()V"⟩, 16) := ⟨⟨by decide +kernel, by decide +kernel⟩, List.mem_of_getElem? (i := 11) (by decide +kernel), List.mem_of_getElem? (i := 124) (by decide +kernel), List.mem_of_getElem? (i := 125) (by decide +kernel)⟩
theorem lw_p9 : lw_okq (⟨"SheetRows", "sumOfSquares", "(I)I"⟩, 16) := ⟨⟨by decide +kernel, by decide +kernel⟩, List.mem_of_getElem? (i := 11) (by decide +kernel), List.mem_of_getElem? (i := 136) (by decide +kernel), List.mem_of_getElem? (i := 137) (by decide +kernel)⟩
theorem lw_p10 : lw_okq (⟨"SheetRows", "shearAt", "(II)I"⟩, 16) := ⟨⟨by decide +kernel, by decide +kernel⟩, List.mem_of_getElem? (i := 11) (by decide +kernel), List.mem_of_getElem? (i := 140) (by decide +kernel), List.mem_of_getElem? (i := 141) (by decide +kernel)⟩
theorem lw_p11 : lw_okq (⟨"SheetRows", "takeSpare", "()I"⟩, 16) := ⟨⟨by decide +kernel, by decide +kernel⟩, List.mem_of_getElem? (i := 11) (by decide +kernel), List.mem_of_getElem? (i := 154) (by decide +kernel), List.mem_of_getElem? (i := 155) (by decide +kernel)⟩
theorem lw_p12 : lw_okq (⟨"SheetRows", "packStretch", "(IB)V"⟩, 16) := ⟨⟨by decide +kernel, by decide +kernel⟩, List.mem_of_getElem? (i := 11) (by decide +kernel), List.mem_of_getElem? (i := 162) (by decide +kernel), List.mem_of_getElem? (i := 163) (by decide +kernel)⟩
theorem lw_p13 : lw_okq (⟨"SheetRows", "readCollected", "()I"⟩, 16) := ⟨⟨by decide +kernel, by decide +kernel⟩, List.mem_of_getElem? (i := 11) (by decide +kernel), List.mem_of_getElem? (i := 174) (by decide +kernel), List.mem_of_getElem? (i := 175) (by decide +kernel)⟩
theorem lw_p14 : lw_okq (⟨"SheetRows", "mirrorRows", "()V"⟩, 16) := ⟨⟨by decide +kernel, by decide +kernel⟩, List.mem_of_getElem? (i := 11) (by decide +kernel), List.mem_of_getElem? (i := 182) (by decide +kernel), List.mem_of_getElem? (i := 183) (by decide +kernel)⟩
theorem lw_p15 : lw_okq (⟨"SheetRows", "reverseRows", "()V"⟩, 16) := ⟨⟨by decide +kernel, by decide +kernel⟩, List.mem_of_getElem? (i := 11) (by decide +kernel), List.mem_of_getElem? (i := 186) (by decide +kernel), List.mem_of_getElem? (i := 187) (by decide +kernel)⟩
def lw_privs_1 : List (MethodName × Nat) := [(⟨"SheetRows", "tallyGreys", "()V"⟩, 16), (⟨"SheetRows", "spreadAt", "(I)I"⟩, 16), (⟨"SheetRows", "spreadOfLot", "(II)I"⟩, 16), (⟨"SheetRows", "markDark", "()V"⟩, 16), (⟨"SheetRows", "hasMostlyLow", "(I)Z"⟩, 16), (⟨"SheetRows", "reachPart", "(I)V"⟩, 16), (⟨"SheetRows", "reach", "(I)V"⟩, 16), (⟨"SheetRows", "reachAround", "(II)V"⟩, 16), (⟨"SheetRows", "keepPart", "()V"⟩, 16), (⟨"SheetRows", "sumOfSquares", "(I)I"⟩, 16), (⟨"SheetRows", "shearAt", "(II)I"⟩, 16), (⟨"SheetRows", "takeSpare", "()I"⟩, 16), (⟨"SheetRows", "packStretch", "(IB)V"⟩, 16), (⟨"SheetRows", "readCollected", "()I"⟩, 16), (⟨"SheetRows", "mirrorRows", "()V"⟩, 16), (⟨"SheetRows", "reverseRows", "()V"⟩, 16)]
theorem lw_r1 : ∀ q ∈ lw_privs_1, lw_okq q := List.forall_mem_cons.mpr ⟨lw_p0, List.forall_mem_cons.mpr ⟨lw_p1, List.forall_mem_cons.mpr ⟨lw_p2, List.forall_mem_cons.mpr ⟨lw_p3, List.forall_mem_cons.mpr ⟨lw_p4, List.forall_mem_cons.mpr ⟨lw_p5, List.forall_mem_cons.mpr ⟨lw_p6, List.forall_mem_cons.mpr ⟨lw_p7, List.forall_mem_cons.mpr ⟨lw_p8, List.forall_mem_cons.mpr ⟨lw_p9, List.forall_mem_cons.mpr ⟨lw_p10, List.forall_mem_cons.mpr ⟨lw_p11, List.forall_mem_cons.mpr ⟨lw_p12, List.forall_mem_cons.mpr ⟨lw_p13, List.forall_mem_cons.mpr ⟨lw_p14, List.forall_mem_cons.mpr ⟨lw_p15, fun _ h => absurd h List.not_mem_nil⟩⟩⟩⟩⟩⟩⟩⟩⟩⟩⟩⟩⟩⟩⟩⟩
theorem lw_p16 : lw_okq (⟨"SheetRows", "invertGreys", "()V"⟩, 16) := ⟨⟨by decide +kernel, by decide +kernel⟩, List.mem_of_getElem? (i := 11) (by decide +kernel), List.mem_of_getElem? (i := 190) (by decide +kernel), List.mem_of_getElem? (i := 191) (by decide +kernel)⟩
theorem lw_p17 : lw_okq (⟨"SheetRows", "halve", "()V"⟩, 16) := ⟨⟨by decide +kernel, by decide +kernel⟩, List.mem_of_getElem? (i := 11) (by decide +kernel), List.mem_of_getElem? (i := 194) (by decide +kernel), List.mem_of_getElem? (i := 195) (by decide +kernel)⟩
theorem lw_p18 : lw_okq (⟨"SheetRows", "meanOfFour", "(I)B"⟩, 16) := ⟨⟨by decide +kernel, by decide +kernel⟩, List.mem_of_getElem? (i := 11) (by decide +kernel), List.mem_of_getElem? (i := 198) (by decide +kernel), List.mem_of_getElem? (i := 199) (by decide +kernel)⟩
theorem lw_p19 : lw_okq (⟨"SheetRows", "isOnSheet", "(II)Z"⟩, 16) := ⟨⟨by decide +kernel, by decide +kernel⟩, List.mem_of_getElem? (i := 11) (by decide +kernel), List.mem_of_getElem? (i := 217) (by decide +kernel), List.mem_of_getElem? (i := 218) (by decide +kernel)⟩
theorem lw_p20 : lw_okq (⟨"java/lang/Throwable", "fillInStackTrace", "(I)Ljava/lang/Throwable;"⟩, 6) := ⟨⟨by decide +kernel, by decide +kernel⟩, List.mem_of_getElem? (i := 259) (by decide +kernel), List.mem_of_getElem? (i := 257) (by decide +kernel), List.mem_of_getElem? (i := 258) (by decide +kernel)⟩
theorem lw_p21 : lw_okq (⟨"SheetRowsModel", "isOn", "(II)Z"⟩, 15) := ⟨⟨by decide +kernel, by decide +kernel⟩, List.mem_of_getElem? (i := 306) (by decide +kernel), List.mem_of_getElem? (i := 366) (by decide +kernel), List.mem_of_getElem? (i := 367) (by decide +kernel)⟩
theorem lw_p22 : lw_okq (⟨"SheetRowsModel", "refused", "(Z)Z"⟩, 15) := ⟨⟨by decide +kernel, by decide +kernel⟩, List.mem_of_getElem? (i := 306) (by decide +kernel), List.mem_of_getElem? (i := 370) (by decide +kernel), List.mem_of_getElem? (i := 371) (by decide +kernel)⟩
theorem lw_p23 : lw_okq (⟨"SheetRowsModel", "thresholdNow", "()I"⟩, 15) := ⟨⟨by decide +kernel, by decide +kernel⟩, List.mem_of_getElem? (i := 306) (by decide +kernel), List.mem_of_getElem? (i := 382) (by decide +kernel), List.mem_of_getElem? (i := 383) (by decide +kernel)⟩
theorem lw_p24 : lw_okq (⟨"SheetRowsModel", "spread", "(II)I"⟩, 15) := ⟨⟨by decide +kernel, by decide +kernel⟩, List.mem_of_getElem? (i := 306) (by decide +kernel), List.mem_of_getElem? (i := 386) (by decide +kernel), List.mem_of_getElem? (i := 387) (by decide +kernel)⟩
theorem lw_p25 : lw_okq (⟨"SheetRowsModel", "isInverted", "(I)Z"⟩, 15) := ⟨⟨by decide +kernel, by decide +kernel⟩, List.mem_of_getElem? (i := 306) (by decide +kernel), List.mem_of_getElem? (i := 394) (by decide +kernel), List.mem_of_getElem? (i := 395) (by decide +kernel)⟩
theorem lw_p26 : lw_okq (⟨"SheetRowsModel", "darken", "()V"⟩, 15) := ⟨⟨by decide +kernel, by decide +kernel⟩, List.mem_of_getElem? (i := 306) (by decide +kernel), List.mem_of_getElem? (i := 402) (by decide +kernel), List.mem_of_getElem? (i := 403) (by decide +kernel)⟩
theorem lw_p27 : lw_okq (⟨"SheetRowsModel", "leastAround", "(I)I"⟩, 15) := ⟨⟨by decide +kernel, by decide +kernel⟩, List.mem_of_getElem? (i := 306) (by decide +kernel), List.mem_of_getElem? (i := 406) (by decide +kernel), List.mem_of_getElem? (i := 407) (by decide +kernel)⟩
theorem lw_p28 : lw_okq (⟨"SheetRowsModel", "sizeOf", "(I)I"⟩, 15) := ⟨⟨by decide +kernel, by decide +kernel⟩, List.mem_of_getElem? (i := 306) (by decide +kernel), List.mem_of_getElem? (i := 410) (by decide +kernel), List.mem_of_getElem? (i := 411) (by decide +kernel)⟩
theorem lw_p29 : lw_okq (⟨"SheetRowsModel", "tell", "(I)V"⟩, 15) := ⟨⟨by decide +kernel, by decide +kernel⟩, List.mem_of_getElem? (i := 306) (by decide +kernel), List.mem_of_getElem? (i := 414) (by decide +kernel), List.mem_of_getElem? (i := 415) (by decide +kernel)⟩
theorem lw_p30 : lw_okq (⟨"SheetRowsModel", "rowOf", "(III)I"⟩, 15) := ⟨⟨by decide +kernel, by decide +kernel⟩, List.mem_of_getElem? (i := 306) (by decide +kernel), List.mem_of_getElem? (i := 426) (by decide +kernel), List.mem_of_getElem? (i := 427) (by decide +kernel)⟩
theorem lw_p31 : lw_okq (⟨"SheetRowsModel", "change", "()I"⟩, 15) := ⟨⟨by decide +kernel, by decide +kernel⟩, List.mem_of_getElem? (i := 306) (by decide +kernel), List.mem_of_getElem? (i := 434) (by decide +kernel), List.mem_of_getElem? (i := 435) (by decide +kernel)⟩
def lw_privs_2 : List (MethodName × Nat) := [(⟨"SheetRows", "invertGreys", "()V"⟩, 16), (⟨"SheetRows", "halve", "()V"⟩, 16), (⟨"SheetRows", "meanOfFour", "(I)B"⟩, 16), (⟨"SheetRows", "isOnSheet", "(II)Z"⟩, 16), (⟨"java/lang/Throwable", "fillInStackTrace", "(I)Ljava/lang/Throwable;"⟩, 6), (⟨"SheetRowsModel", "isOn", "(II)Z"⟩, 15), (⟨"SheetRowsModel", "refused", "(Z)Z"⟩, 15), (⟨"SheetRowsModel", "thresholdNow", "()I"⟩, 15), (⟨"SheetRowsModel", "spread", "(II)I"⟩, 15), (⟨"SheetRowsModel", "isInverted", "(I)Z"⟩, 15), (⟨"SheetRowsModel", "darken", "()V"⟩, 15), (⟨"SheetRowsModel", "leastAround", "(I)I"⟩, 15), (⟨"SheetRowsModel", "sizeOf", "(I)I"⟩, 15), (⟨"SheetRowsModel", "tell", "(I)V"⟩, 15), (⟨"SheetRowsModel", "rowOf", "(III)I"⟩, 15), (⟨"SheetRowsModel", "change", "()I"⟩, 15)]
theorem lw_r2 : ∀ q ∈ lw_privs_2, lw_okq q := List.forall_mem_cons.mpr ⟨lw_p16, List.forall_mem_cons.mpr ⟨lw_p17, List.forall_mem_cons.mpr ⟨lw_p18, List.forall_mem_cons.mpr ⟨lw_p19, List.forall_mem_cons.mpr ⟨lw_p20, List.forall_mem_cons.mpr ⟨lw_p21, List.forall_mem_cons.mpr ⟨lw_p22, List.forall_mem_cons.mpr ⟨lw_p23, List.forall_mem_cons.mpr ⟨lw_p24, List.forall_mem_cons.mpr ⟨lw_p25, List.forall_mem_cons.mpr ⟨lw_p26, List.forall_mem_cons.mpr ⟨lw_p27, List.forall_mem_cons.mpr ⟨lw_p28, List.forall_mem_cons.mpr ⟨lw_p29, List.forall_mem_cons.mpr ⟨lw_p30, List.forall_mem_cons.mpr ⟨lw_p31, fun _ h => absurd h List.not_mem_nil⟩⟩⟩⟩⟩⟩⟩⟩⟩⟩⟩⟩⟩⟩⟩⟩
theorem lw_p32 : lw_okq (⟨"SheetRowsModel", "mean", "(II)I"⟩, 15) := ⟨⟨by decide +kernel, by decide +kernel⟩, List.mem_of_getElem? (i := 306) (by decide +kernel), List.mem_of_getElem? (i := 458) (by decide +kernel), List.mem_of_getElem? (i := 459) (by decide +kernel)⟩
def lw_privs_3 : List (MethodName × Nat) := [(⟨"SheetRowsModel", "mean", "(II)I"⟩, 15)]
theorem lw_r3 : ∀ q ∈ lw_privs_3, lw_okq q := List.forall_mem_cons.mpr ⟨lw_p32, fun _ h => absurd h List.not_mem_nil⟩
def lw_privs : List (MethodName × Nat) := lw_privs_1 ++ (lw_privs_2 ++ (lw_privs_3))
def lw_tbl : List Cond := k2_sels lw_privs ++ tables_1
theorem lw_privs_ok : ∀ q ∈ lw_privs, lw_okq q := by
  show ∀ q ∈ lw_privs_1 ++ (lw_privs_2 ++ (lw_privs_3)), lw_okq q
  exact List.forall_mem_append.mpr ⟨lw_r1, List.forall_mem_append.mpr ⟨lw_r2, lw_r3⟩⟩
-- ===== end of PART A; then your names; then what follows =====
end
section
/-! ===== BEGIN words of one list among another's, by their places ===== -/
theorem goodIn_r {big : List Cond} (ws : List Cond) (ps : List Nat) (hp : ws = ps.filterMap (fun i => big[i]?)) (h : ws.all goodWord = true) : GoodIn big ws := by
  intro w hw
  have h1 := List.all_eq_true.mp h w hw
  rw [hp] at hw
  obtain ⟨i, -, hi⟩ := List.mem_filterMap.mp hw
  have hm : w ∈ big := by first | exact List.mem_of_getElem? hi | exact List.getElem?_mem hi
  exact ⟨hm, good_of_word h1⟩
theorem goodIn_app {big a b : List Cond} (ha : GoodIn big a) (hb : GoodIn big b) : GoodIn big (a ++ b) := fun w h => (List.mem_append.mp h).elim (ha w) (hb w)
theorem goodIn_ca {big a b : List Cond} {c : Cond} (ha : GoodIn big (c :: a)) (hb : GoodIn big b) : GoodIn big (c :: (a ++ b)) := fun w h => (List.mem_cons.mp h).elim (fun e => ha w (List.mem_cons.mpr (Or.inl e))) (fun h => (List.mem_append.mp h).elim (fun h => ha w (List.mem_cons.mpr (Or.inr h))) (hb w))
theorem goodIn_sub {big ws : List Cond} (hm : ∀ w ∈ ws, w ∈ big) (h : ws.all goodWord = true) : GoodIn big ws := fun w hw => ⟨hm w hw, good_of_word (List.all_eq_true.mp h w hw)⟩
/-! ===== END ===== -/

/-! ===== BEGIN printed: names, fields, word lists, decode rows ===== -/
def RX0 : String := "SheetRows"
def TX0 : u_T := fun k => match k with
  | 0 => ("SheetRows", "width", "I", true)
  | 1 => ("SheetRows", "height", "I", true)
  | 2 => ("SheetRows", "greys", "[B", false)
  | 3 => ("SheetRows", "spare", "[B", false)
  | 4 => ("SheetRows", "countBelow", "[I", true)
  | 5 => ("SheetRows", "sumBelow", "[I", true)
  | 6 => ("SheetRows", "dark", "[Z", true)
  | 7 => ("SheetRows", "darkInRow", "[I", true)
  | 8 => ("SheetRows", "reached", "[I", true)
  | 9 => ("SheetRows", "reachedCount", "I", false)
  | 10 => ("SheetRows", "partFacts", "[I", true)
  | 11 => ("SheetRows", "partCount", "I", false)
  | 12 => ("SheetRows", "packed", "[B", true)
  | 13 => ("SheetRows", "packedCount", "I", false)
  | 14 => ("SheetRows", "collected", "[B", true)
  | _ => ("SheetRows", "collectedCount", "I", false)
def tyX0 : Nat → FieldType := fun k => match k with
  | 0 => .int
  | 1 => .int
  | 2 => .array .byte
  | 3 => .array .byte
  | 4 => .array .int
  | 5 => .array .int
  | 6 => .array .boolean
  | 7 => .array .int
  | 8 => .array .int
  | 9 => .int
  | 10 => .array .int
  | 11 => .int
  | 12 => .array .byte
  | 13 => .int
  | 14 => .array .byte
  | _ => .int
abbrev wsX00 : List Cond := u_ws RX0 TX0 16
theorem nmX0 : ∀ a, a < 16 → ∀ b, b < 16 → a ≠ b → (TX0 a).2.1 ≠ (TX0 b).2.1 := by decide +kernel
theorem tyX0_ok : ∀ k, k < 16 → parseFieldDescriptor (TX0 k).2.2.1 = some (tyX0 k) := by decide +kernel
abbrev cX0_init : ByteArray := prog_1_method_1_code
def yX0_init : MethodName := ⟨RX0, "<init>", "(II)V"⟩
abbrev cX0_put : ByteArray := prog_1_method_2_code
def yX0_put : MethodName := ⟨RX0, "put", "(IIB)V"⟩
abbrev cX0_threshold : ByteArray := prog_1_method_3_code
def yX0_threshold : MethodName := ⟨RX0, "threshold", "()I"⟩
abbrev cX0_parts : ByteArray := prog_1_method_4_code
def yX0_parts : MethodName := ⟨RX0, "parts", "()I"⟩
abbrev cX0_part : ByteArray := prog_1_method_5_code
def yX0_part : MethodName := ⟨RX0, "part", "(II)I"⟩
abbrev cX0_skew : ByteArray := prog_1_method_6_code
def yX0_skew : MethodName := ⟨RX0, "skew", "()I"⟩
abbrev cX0_turn : ByteArray := prog_1_method_7_code
def yX0_turn : MethodName := ⟨RX0, "turn", "(I)I"⟩
abbrev cX0_pack : ByteArray := prog_1_method_8_code
def yX0_pack : MethodName := ⟨RX0, "pack", "()I"⟩
abbrev cX0_octet : ByteArray := prog_1_method_9_code
def yX0_octet : MethodName := ⟨RX0, "octet", "(I)B"⟩
abbrev cX0_add : ByteArray := prog_1_method_10_code
def yX0_add : MethodName := ⟨RX0, "add", "(B)V"⟩
abbrev cX0_unpack : ByteArray := prog_1_method_11_code
def yX0_unpack : MethodName := ⟨RX0, "unpack", "()I"⟩
abbrev cX0_side : ByteArray := prog_1_method_12_code
def yX0_side : MethodName := ⟨RX0, "side", "(I)I"⟩
abbrev cX0_inverted : ByteArray := prog_1_method_13_code
def yX0_inverted : MethodName := ⟨RX0, "inverted", "()Z"⟩
abbrev cX0_grey : ByteArray := prog_1_method_14_code
def yX0_grey : MethodName := ⟨RX0, "grey", "(II)I"⟩
abbrev cX0_isOnSheet : ByteArray := prog_1_method_15_code
def yX0_isOnSheet : MethodName := ⟨RX0, "isOnSheet", "(II)Z"⟩
abbrev cX0_takeSpare : ByteArray := prog_1_method_16_code
def yX0_takeSpare : MethodName := ⟨RX0, "takeSpare", "()I"⟩
abbrev cX0_tallyGreys : ByteArray := prog_1_method_17_code
def yX0_tallyGreys : MethodName := ⟨RX0, "tallyGreys", "()V"⟩
abbrev cX0_spreadAt : ByteArray := prog_1_method_18_code
def yX0_spreadAt : MethodName := ⟨RX0, "spreadAt", "(I)I"⟩
abbrev cX0_spreadOfLot : ByteArray := prog_1_method_19_code
def yX0_spreadOfLot : MethodName := ⟨RX0, "spreadOfLot", "(II)I"⟩
abbrev cX0_hasMostlyLow : ByteArray := prog_1_method_20_code
def yX0_hasMostlyLow : MethodName := ⟨RX0, "hasMostlyLow", "(I)Z"⟩
abbrev cX0_markDark : ByteArray := prog_1_method_21_code
def yX0_markDark : MethodName := ⟨RX0, "markDark", "()V"⟩
abbrev cX0_reachPart : ByteArray := prog_1_method_22_code
def yX0_reachPart : MethodName := ⟨RX0, "reachPart", "(I)V"⟩
abbrev cX0_reachAround : ByteArray := prog_1_method_23_code
def yX0_reachAround : MethodName := ⟨RX0, "reachAround", "(II)V"⟩
abbrev cX0_reach : ByteArray := prog_1_method_24_code
def yX0_reach : MethodName := ⟨RX0, "reach", "(I)V"⟩
abbrev cX0_keepPart : ByteArray := prog_1_method_25_code
def yX0_keepPart : MethodName := ⟨RX0, "keepPart", "()V"⟩
abbrev cX0_shearAt : ByteArray := prog_1_method_26_code
def yX0_shearAt : MethodName := ⟨RX0, "shearAt", "(II)I"⟩
abbrev cX0_sumOfSquares : ByteArray := prog_1_method_27_code
def yX0_sumOfSquares : MethodName := ⟨RX0, "sumOfSquares", "(I)I"⟩
abbrev cX0_packStretch : ByteArray := prog_1_method_28_code
def yX0_packStretch : MethodName := ⟨RX0, "packStretch", "(IB)V"⟩
abbrev cX0_readCollected : ByteArray := prog_1_method_29_code
def yX0_readCollected : MethodName := ⟨RX0, "readCollected", "()I"⟩
abbrev cX0_mirrorRows : ByteArray := prog_1_method_30_code
def yX0_mirrorRows : MethodName := ⟨RX0, "mirrorRows", "()V"⟩
abbrev cX0_reverseRows : ByteArray := prog_1_method_31_code
def yX0_reverseRows : MethodName := ⟨RX0, "reverseRows", "()V"⟩
abbrev cX0_invertGreys : ByteArray := prog_1_method_32_code
def yX0_invertGreys : MethodName := ⟨RX0, "invertGreys", "()V"⟩
abbrev cX0_halve : ByteArray := prog_1_method_33_code
def yX0_halve : MethodName := ⟨RX0, "halve", "()V"⟩
abbrev cX0_meanOfFour : ByteArray := prog_1_method_34_code
def yX0_meanOfFour : MethodName := ⟨RX0, "meanOfFour", "(I)B"⟩
def RX1 : String := "SheetRowsModel"
def TX1 : u_T := fun k => match k with
  | 0 => ("SheetRowsModel", "thrown", "I", false)
  | 1 => ("SheetRowsModel", "w", "I", true)
  | 2 => ("SheetRowsModel", "h", "I", true)
  | 3 => ("SheetRowsModel", "n", "I", true)
  | 4 => ("SheetRowsModel", "greys", "[I", true)
  | 5 => ("SheetRowsModel", "other", "[I", true)
  | 6 => ("SheetRowsModel", "counts", "[I", true)
  | 7 => ("SheetRowsModel", "labels", "[I", true)
  | 8 => ("SheetRowsModel", "parts", "I", false)
  | 9 => ("SheetRowsModel", "firsts", "[I", true)
  | 10 => ("SheetRowsModel", "told", "[I", true)
  | 11 => ("SheetRowsModel", "packed", "I", false)
  | 12 => ("SheetRowsModel", "pairs", "[B", true)
  | 13 => ("SheetRowsModel", "collected", "I", false)
  | _ => ("SheetRowsModel", "bytes", "[B", true)
def tyX1 : Nat → FieldType := fun k => match k with
  | 0 => .int
  | 1 => .int
  | 2 => .int
  | 3 => .int
  | 4 => .array .int
  | 5 => .array .int
  | 6 => .array .int
  | 7 => .array .int
  | 8 => .int
  | 9 => .array .int
  | 10 => .array .int
  | 11 => .int
  | 12 => .array .byte
  | 13 => .int
  | _ => .array .byte
abbrev wsX10 : List Cond := u_ws RX1 TX1 15
theorem nmX1 : ∀ a, a < 15 → ∀ b, b < 15 → a ≠ b → (TX1 a).2.1 ≠ (TX1 b).2.1 := by decide +kernel
theorem tyX1_ok : ∀ k, k < 15 → parseFieldDescriptor (TX1 k).2.2.1 = some (tyX1 k) := by decide +kernel
abbrev cX1_init : ByteArray := prog_3_method_1_code
def yX1_init : MethodName := ⟨RX1, "<init>", "(II)V"⟩
abbrev cX1_thrown : ByteArray := prog_3_method_2_code
def yX1_thrown : MethodName := ⟨RX1, "thrown", "()I"⟩
abbrev cX1_refused : ByteArray := prog_3_method_3_code
def yX1_refused : MethodName := ⟨RX1, "refused", "(Z)Z"⟩
abbrev cX1_isOn : ByteArray := prog_3_method_4_code
def yX1_isOn : MethodName := ⟨RX1, "isOn", "(II)Z"⟩
abbrev cX1_put : ByteArray := prog_3_method_5_code
def yX1_put : MethodName := ⟨RX1, "put", "(IIB)V"⟩
abbrev cX1_grey : ByteArray := prog_3_method_6_code
def yX1_grey : MethodName := ⟨RX1, "grey", "(II)I"⟩
abbrev cX1_spread : ByteArray := prog_3_method_7_code
def yX1_spread : MethodName := ⟨RX1, "spread", "(II)I"⟩
abbrev cX1_thresholdNow : ByteArray := prog_3_method_8_code
def yX1_thresholdNow : MethodName := ⟨RX1, "thresholdNow", "()I"⟩
abbrev cX1_threshold : ByteArray := prog_3_method_9_code
def yX1_threshold : MethodName := ⟨RX1, "threshold", "()I"⟩
abbrev cX1_isInverted : ByteArray := prog_3_method_10_code
def yX1_isInverted : MethodName := ⟨RX1, "isInverted", "(I)Z"⟩
abbrev cX1_inverted : ByteArray := prog_3_method_11_code
def yX1_inverted : MethodName := ⟨RX1, "inverted", "()Z"⟩
abbrev cX1_darken : ByteArray := prog_3_method_12_code
def yX1_darken : MethodName := ⟨RX1, "darken", "()V"⟩
abbrev cX1_leastAround : ByteArray := prog_3_method_13_code
def yX1_leastAround : MethodName := ⟨RX1, "leastAround", "(I)I"⟩
abbrev cX1_parts : ByteArray := prog_3_method_14_code
def yX1_parts : MethodName := ⟨RX1, "parts", "()I"⟩
abbrev cX1_sizeOf : ByteArray := prog_3_method_15_code
def yX1_sizeOf : MethodName := ⟨RX1, "sizeOf", "(I)I"⟩
abbrev cX1_tell : ByteArray := prog_3_method_16_code
def yX1_tell : MethodName := ⟨RX1, "tell", "(I)V"⟩
abbrev cX1_part : ByteArray := prog_3_method_17_code
def yX1_part : MethodName := ⟨RX1, "part", "(II)I"⟩
abbrev cX1_rowOf : ByteArray := prog_3_method_18_code
def yX1_rowOf : MethodName := ⟨RX1, "rowOf", "(III)I"⟩
abbrev cX1_skew : ByteArray := prog_3_method_19_code
def yX1_skew : MethodName := ⟨RX1, "skew", "()I"⟩
abbrev cX1_change : ByteArray := prog_3_method_20_code
def yX1_change : MethodName := ⟨RX1, "change", "()I"⟩
abbrev cX1_turn : ByteArray := prog_3_method_21_code
def yX1_turn : MethodName := ⟨RX1, "turn", "(I)I"⟩
abbrev cX1_pack : ByteArray := prog_3_method_22_code
def yX1_pack : MethodName := ⟨RX1, "pack", "()I"⟩
abbrev cX1_octet : ByteArray := prog_3_method_23_code
def yX1_octet : MethodName := ⟨RX1, "octet", "(I)B"⟩
abbrev cX1_add : ByteArray := prog_3_method_24_code
def yX1_add : MethodName := ⟨RX1, "add", "(B)V"⟩
abbrev cX1_unpack : ByteArray := prog_3_method_25_code
def yX1_unpack : MethodName := ⟨RX1, "unpack", "()I"⟩
abbrev cX1_mean : ByteArray := prog_3_method_26_code
def yX1_mean : MethodName := ⟨RX1, "mean", "(II)I"⟩
abbrev cX1_side : ByteArray := prog_3_method_27_code
def yX1_side : MethodName := ⟨RX1, "side", "(I)I"⟩
def RJx00060 : String := "java/lang/ArrayIndexOutOfBoundsException"
def TJx00060 : u_T := fun k => match k with
  | 0 => ("java/lang/Throwable", "cause", "Ljava/lang/Throwable;", false)
  | 1 => ("java/lang/Throwable", "stackTrace", "[Ljava/lang/StackTraceElement;", false)
  | 2 => ("java/lang/Throwable", "suppressedExceptions", "Ljava/util/List;", false)
  | 3 => ("java/lang/Throwable", "detailMessage", "Ljava/lang/String;", false)
  | 4 => ("java/lang/Throwable", "backtrace", "Ljava/lang/Object;", false)
  | _ => ("java/lang/Throwable", "depth", "I", false)
def tyJx00060 : Nat → FieldType := fun k => match k with
  | 0 => .object "java/lang/Throwable"
  | 1 => .array (.object "java/lang/StackTraceElement")
  | 2 => .object "java/util/List"
  | 3 => .object "java/lang/String"
  | 4 => .object "java/lang/Object"
  | _ => .int
abbrev wsJx000600 : List Cond := u_ws RJx00060 TJx00060 6
theorem nmJx00060 : ∀ a, a < 6 → ∀ b, b < 6 → a ≠ b → (TJx00060 a).2.1 ≠ (TJx00060 b).2.1 := by decide +kernel
theorem tyJx00060_ok : ∀ k, k < 6 → parseFieldDescriptor (TJx00060 k).2.2.1 = some (tyJx00060 k) := by decide +kernel
abbrev cJx00060_init_a7421 : ByteArray := prog_4_method_2_code
def yJx00060_init_a7421 : MethodName := ⟨RJx00060, "<init>", "(Ljava/lang/String;)V"⟩
def RJ9 : String := "java/lang/Math"
def TJ9 : u_T := fun k => match k with
  | _ => ("", "", "", false)
def tyJ9 : Nat → FieldType := fun k => match k with
  | _ => .int
abbrev wsJ90 : List Cond := u_ws RJ9 TJ9 0
theorem nmJ9 : ∀ a, a < 0 → ∀ b, b < 0 → a ≠ b → (TJ9 a).2.1 ≠ (TJ9 b).2.1 := by decide +kernel
theorem tyJ9_ok : ∀ k, k < 0 → parseFieldDescriptor (TJ9 k).2.2.1 = some (tyJ9 k) := by decide +kernel
abbrev cJ9_floorDiv_7cf53 : ByteArray := prog_7_method_47_code
def yJ9_floorDiv_7cf53 : MethodName := ⟨RJ9, "floorDiv", "(II)I"⟩
abbrev cJ9_floorMod_7cf53 : ByteArray := prog_7_method_50_code
def yJ9_floorMod_7cf53 : MethodName := ⟨RJ9, "floorMod", "(II)I"⟩
abbrev cJ9_max_7cf53 : ByteArray := prog_7_method_65_code
def yJ9_max_7cf53 : MethodName := ⟨RJ9, "max", "(II)I"⟩
abbrev cJ9_min_7cf53 : ByteArray := prog_7_method_69_code
def yJ9_min_7cf53 : MethodName := ⟨RJ9, "min", "(II)I"⟩
def RJ0 : String := "java/lang/String"
def TJ0 : u_T := fun k => match k with
  | _ => ("", "", "", false)
def tyJ0 : Nat → FieldType := fun k => match k with
  | _ => .int
abbrev wsJ00 : List Cond := u_ws RJ0 TJ0 0
theorem nmJ0 : ∀ a, a < 0 → ∀ b, b < 0 → a ≠ b → (TJ0 a).2.1 ≠ (TJ0 b).2.1 := by decide +kernel
theorem tyJ0_ok : ∀ k, k < 0 → parseFieldDescriptor (TJ0 k).2.2.1 = some (tyJ0 k) := by decide +kernel
def RJ7 : String := "java/util/Arrays"
def TJ7 : u_T := fun k => match k with
  | _ => ("", "", "", false)
def tyJ7 : Nat → FieldType := fun k => match k with
  | _ => .int
abbrev wsJ70 : List Cond := u_ws RJ7 TJ7 0
theorem nmJ7 : ∀ a, a < 0 → ∀ b, b < 0 → a ≠ b → (TJ7 a).2.1 ≠ (TJ7 b).2.1 := by decide +kernel
theorem tyJ7_ok : ∀ k, k < 0 → parseFieldDescriptor (TJ7 k).2.2.1 = some (tyJ7 k) := by decide +kernel
abbrev cJ7_fill_53178 : ByteArray := prog_11_method_103_code
def yJ7_fill_53178 : MethodName := ⟨RJ7, "fill", "([II)V"⟩
abbrev cJ7_fill_031fb : ByteArray := prog_11_method_109_code
def yJ7_fill_031fb : MethodName := ⟨RJ7, "fill", "([BB)V"⟩
def RL : String := "SheetRowsLaw"
abbrev cL_cell : ByteArray := method_2_code
def yL_cell : MethodName := ⟨RL, "cell", "([II)I"⟩
abbrev cL_put : ByteArray := method_3_code
def yL_put : MethodName := ⟨RL, "put", "(LSheetRows;IIB)I"⟩
abbrev cL_octet : ByteArray := method_4_code
def yL_octet : MethodName := ⟨RL, "octet", "(LSheetRows;I[J)I"⟩
abbrev cL_grey : ByteArray := method_5_code
def yL_grey : MethodName := ⟨RL, "grey", "(LSheetRows;II[J)I"⟩
abbrev cL_law : ByteArray := code
def yL_law : MethodName := ⟨RL, "law", "([I)Z"⟩
def wsJ7_fill_031fb : List Cond := .code yJ7_fill_031fb cJ7_fill_031fb 4 none :: ([])
def wsX0_init_r1 : List Cond := [Cond.methodLink RX0 3 objectInit, Cond.instanceMethod objectInit, Cond.code objectInit ⟨#[0xb1]⟩ 1 none, Cond.methodLink RX0 9 Lib.Math.min.name, Cond.static Lib.Math.min.name, Cond.initialized "java/lang/Math", Cond.code Lib.Math.min.name Lib.Math.min.code 2 (some .int), Cond.methodLink RX0 15 Lib.Math.max.name, Cond.static Lib.Math.max.name, Cond.code Lib.Math.max.name Lib.Math.max.code 2 (some .int), Cond.fieldLink RX0 18 "SheetRows" "width" "I", Cond.fieldLink RX0 22 "SheetRows" "height" "I", Cond.arrayClass .byte, Cond.fieldLink RX0 25 "SheetRows" "greys" "[B", Cond.fieldLink RX0 29 "SheetRows" "spare" "[B", Cond.arrayClass .int, Cond.fieldLink RX0 32 "SheetRows" "countBelow" "[I", Cond.fieldLink RX0 36 "SheetRows" "sumBelow" "[I", Cond.arrayClass .boolean, Cond.fieldLink RX0 39 "SheetRows" "dark" "[Z", Cond.fieldLink RX0 43 "SheetRows" "darkInRow" "[I", Cond.fieldLink RX0 46 "SheetRows" "reached" "[I", Cond.fieldLink RX0 49 "SheetRows" "partFacts" "[I", Cond.fieldLink RX0 52 "SheetRows" "packed" "[B"]
def wsX0_init_r2 : List Cond := [Cond.fieldLink RX0 55 "SheetRows" "collected" "[B", Cond.methodLink RX0 58 yJ7_fill_031fb, Cond.static yJ7_fill_031fb, Cond.initialized RJ7, Cond.code yJ7_fill_031fb cJ7_fill_031fb 4 none]
def wsX0_init : List Cond := .code yX0_init cX0_init 4 none :: ((wsX0_init_r1 ++ wsX0_init_r2) ++ wsX00)
def wsX0_isOnSheet : List Cond := .code yX0_isOnSheet cX0_isOnSheet 3 (some .boolean) :: ([.fieldLink RX0 18 "SheetRows" "width" "I", .fieldLink RX0 22 "SheetRows" "height" "I"] ++ wsX00)
def wsX0_put : List Cond := .code yX0_put cX0_put 4 none :: ([.classLink RX0 68 RJx00060, .instantiable RJx00060 6, .initialized RJx00060, .fieldLink RX0 25 "SheetRows" "greys" "[B", .fieldLink RX0 18 "SheetRows" "width" "I", .methodLink RX0 64 yX0_isOnSheet, .instanceMethod yX0_isOnSheet, .selects RX0 yX0_isOnSheet yX0_isOnSheet, .initialized RX0, .code yX0_isOnSheet cX0_isOnSheet 3 (some .boolean), .fieldLink RX0 22 "SheetRows" "height" "I"] ++ wsJx000600 ++ wsX00)
def wsJ7_fill_53178 : List Cond := .code yJ7_fill_53178 cJ7_fill_53178 4 none :: ([])
def wsX0_tallyGreys : List Cond := .code yX0_tallyGreys cX0_tallyGreys 2 none :: ([.fieldLink RX0 32 "SheetRows" "countBelow" "[I", .fieldLink RX0 25 "SheetRows" "greys" "[B", .fieldLink RX0 36 "SheetRows" "sumBelow" "[I", .methodLink RX0 142 yJ7_fill_53178, .static yJ7_fill_53178, .initialized RJ7, .code yJ7_fill_53178 cJ7_fill_53178 4 none] ++ wsX00)
def wsX0_spreadOfLot : List Cond := .code yX0_spreadOfLot cX0_spreadOfLot 8 (some .int) :: ([.fieldLink RX0 32 "SheetRows" "countBelow" "[I", .fieldLink RX0 36 "SheetRows" "sumBelow" "[I"] ++ wsX00)
def wsX0_spreadAt : List Cond := .code yX0_spreadAt cX0_spreadAt 2 (some .int) :: ([.methodLink RX0 145 yX0_spreadOfLot, .instanceMethod yX0_spreadOfLot, .selects RX0 yX0_spreadOfLot yX0_spreadOfLot, .initialized RX0, .code yX0_spreadOfLot cX0_spreadOfLot 8 (some .int), .fieldLink RX0 32 "SheetRows" "countBelow" "[I", .fieldLink RX0 36 "SheetRows" "sumBelow" "[I"] ++ wsX00)
def wsX0_threshold : List Cond := .code yX0_threshold cX0_threshold 5 (some .int) :: ([.methodLink RX0 75 yX0_tallyGreys, .instanceMethod yX0_tallyGreys, .selects RX0 yX0_tallyGreys yX0_tallyGreys, .initialized RX0, .code yX0_tallyGreys cX0_tallyGreys 2 none, .fieldLink RX0 32 "SheetRows" "countBelow" "[I", .fieldLink RX0 25 "SheetRows" "greys" "[B", .fieldLink RX0 36 "SheetRows" "sumBelow" "[I", .methodLink RX0 142 yJ7_fill_53178, .static yJ7_fill_53178, .initialized RJ7, .code yJ7_fill_53178 cJ7_fill_53178 4 none, .methodLink RX0 78 yX0_spreadAt, .instanceMethod yX0_spreadAt, .selects RX0 yX0_spreadAt yX0_spreadAt, .code yX0_spreadAt cX0_spreadAt 2 (some .int), .methodLink RX0 145 yX0_spreadOfLot, .instanceMethod yX0_spreadOfLot, .selects RX0 yX0_spreadOfLot yX0_spreadOfLot, .code yX0_spreadOfLot cX0_spreadOfLot 8 (some .int)] ++ wsX00)
def wsX0_hasMostlyLow : List Cond := .code yX0_hasMostlyLow cX0_hasMostlyLow 2 (some .boolean) :: ([.fieldLink RX0 32 "SheetRows" "countBelow" "[I", .fieldLink RX0 25 "SheetRows" "greys" "[B"] ++ wsX00)
def wsX0_markDark_r1 : List Cond := [Cond.fieldLink RX0 25 "SheetRows" "greys" "[B", Cond.fieldLink RX0 39 "SheetRows" "dark" "[Z", Cond.methodLink RX0 135 yX0_threshold, Cond.instanceMethod yX0_threshold, Cond.selects RX0 yX0_threshold yX0_threshold, Cond.initialized RX0, Cond.code yX0_threshold cX0_threshold 5 (some .int), Cond.methodLink RX0 75 yX0_tallyGreys, Cond.instanceMethod yX0_tallyGreys, Cond.selects RX0 yX0_tallyGreys yX0_tallyGreys, Cond.code yX0_tallyGreys cX0_tallyGreys 2 none, Cond.fieldLink RX0 32 "SheetRows" "countBelow" "[I", Cond.fieldLink RX0 36 "SheetRows" "sumBelow" "[I", Cond.methodLink RX0 142 yJ7_fill_53178, Cond.static yJ7_fill_53178, Cond.initialized RJ7, Cond.code yJ7_fill_53178 cJ7_fill_53178 4 none, Cond.methodLink RX0 78 yX0_spreadAt, Cond.instanceMethod yX0_spreadAt, Cond.selects RX0 yX0_spreadAt yX0_spreadAt, Cond.code yX0_spreadAt cX0_spreadAt 2 (some .int), Cond.methodLink RX0 145 yX0_spreadOfLot, Cond.instanceMethod yX0_spreadOfLot, Cond.selects RX0 yX0_spreadOfLot yX0_spreadOfLot]
def wsX0_markDark_r2 : List Cond := [Cond.code yX0_spreadOfLot cX0_spreadOfLot 8 (some .int), Cond.methodLink RX0 138 yX0_hasMostlyLow, Cond.instanceMethod yX0_hasMostlyLow, Cond.selects RX0 yX0_hasMostlyLow yX0_hasMostlyLow, Cond.code yX0_hasMostlyLow cX0_hasMostlyLow 2 (some .boolean)]
def wsX0_markDark : List Cond := .code yX0_markDark cX0_markDark 5 none :: ((wsX0_markDark_r1 ++ wsX0_markDark_r2) ++ wsX00)
def wsX0_reach : List Cond := .code yX0_reach cX0_reach 2 none :: ([.fieldLink RX0 39 "SheetRows" "dark" "[Z", .fieldLink RX0 92 "SheetRows" "reachedCount" "I", .fieldLink RX0 46 "SheetRows" "reached" "[I"] ++ wsX00)
def wsX0_reachAround : List Cond := .code yX0_reachAround cX0_reachAround 5 none :: ([.methodLink RX0 15 Lib.Math.max.name, .static Lib.Math.max.name, .initialized "java/lang/Math", .code Lib.Math.max.name Lib.Math.max.code 2 (some .int), .fieldLink RX0 22 "SheetRows" "height" "I", .methodLink RX0 9 Lib.Math.min.name, .static Lib.Math.min.name, .code Lib.Math.min.name Lib.Math.min.code 2 (some .int), .fieldLink RX0 18 "SheetRows" "width" "I", .methodLink RX0 148 yX0_reach, .instanceMethod yX0_reach, .selects RX0 yX0_reach yX0_reach, .initialized RX0, .code yX0_reach cX0_reach 2 none, .fieldLink RX0 39 "SheetRows" "dark" "[Z", .fieldLink RX0 92 "SheetRows" "reachedCount" "I", .fieldLink RX0 46 "SheetRows" "reached" "[I"] ++ wsX00)
def wsX0_reachPart : List Cond := .code yX0_reachPart cX0_reachPart 3 none :: ([.fieldLink RX0 92 "SheetRows" "reachedCount" "I", .fieldLink RX0 46 "SheetRows" "reached" "[I", .fieldLink RX0 18 "SheetRows" "width" "I", .methodLink RX0 148 yX0_reach, .instanceMethod yX0_reach, .selects RX0 yX0_reach yX0_reach, .initialized RX0, .code yX0_reach cX0_reach 2 none, .fieldLink RX0 39 "SheetRows" "dark" "[Z", .methodLink RX0 151 yX0_reachAround, .instanceMethod yX0_reachAround, .selects RX0 yX0_reachAround yX0_reachAround, .code yX0_reachAround cX0_reachAround 5 none, .methodLink RX0 15 Lib.Math.max.name, .static Lib.Math.max.name, .initialized "java/lang/Math", .code Lib.Math.max.name Lib.Math.max.code 2 (some .int), .fieldLink RX0 22 "SheetRows" "height" "I", .methodLink RX0 9 Lib.Math.min.name, .static Lib.Math.min.name, .code Lib.Math.min.name Lib.Math.min.code 2 (some .int)] ++ wsX00)
def wsX0_keepPart : List Cond := .code yX0_keepPart cX0_keepPart 11 none :: ([.fieldLink RX0 85 "SheetRows" "partCount" "I", .fieldLink RX0 49 "SheetRows" "partFacts" "[I", .fieldLink RX0 18 "SheetRows" "width" "I", .fieldLink RX0 22 "SheetRows" "height" "I", .fieldLink RX0 92 "SheetRows" "reachedCount" "I", .fieldLink RX0 46 "SheetRows" "reached" "[I", .methodLink RX0 9 Lib.Math.min.name, .static Lib.Math.min.name, .initialized "java/lang/Math", .code Lib.Math.min.name Lib.Math.min.code 2 (some .int), .methodLink RX0 15 Lib.Math.max.name, .static Lib.Math.max.name, .code Lib.Math.max.name Lib.Math.max.code 2 (some .int)] ++ wsX00)
def wsX0_parts_r1 : List Cond := [Cond.fieldLink RX0 85 "SheetRows" "partCount" "I", Cond.fieldLink RX0 39 "SheetRows" "dark" "[Z", Cond.fieldLink RX0 92 "SheetRows" "reachedCount" "I", Cond.methodLink RX0 82 yX0_markDark, Cond.instanceMethod yX0_markDark, Cond.selects RX0 yX0_markDark yX0_markDark, Cond.initialized RX0, Cond.code yX0_markDark cX0_markDark 5 none, Cond.fieldLink RX0 25 "SheetRows" "greys" "[B", Cond.methodLink RX0 135 yX0_threshold, Cond.instanceMethod yX0_threshold, Cond.selects RX0 yX0_threshold yX0_threshold, Cond.code yX0_threshold cX0_threshold 5 (some .int), Cond.methodLink RX0 75 yX0_tallyGreys, Cond.instanceMethod yX0_tallyGreys, Cond.selects RX0 yX0_tallyGreys yX0_tallyGreys, Cond.code yX0_tallyGreys cX0_tallyGreys 2 none, Cond.fieldLink RX0 32 "SheetRows" "countBelow" "[I", Cond.fieldLink RX0 36 "SheetRows" "sumBelow" "[I", Cond.methodLink RX0 142 yJ7_fill_53178, Cond.static yJ7_fill_53178, Cond.initialized RJ7, Cond.code yJ7_fill_53178 cJ7_fill_53178 4 none, Cond.methodLink RX0 78 yX0_spreadAt]
def wsX0_parts_r2 : List Cond := [Cond.instanceMethod yX0_spreadAt, Cond.selects RX0 yX0_spreadAt yX0_spreadAt, Cond.code yX0_spreadAt cX0_spreadAt 2 (some .int), Cond.methodLink RX0 145 yX0_spreadOfLot, Cond.instanceMethod yX0_spreadOfLot, Cond.selects RX0 yX0_spreadOfLot yX0_spreadOfLot, Cond.code yX0_spreadOfLot cX0_spreadOfLot 8 (some .int), Cond.methodLink RX0 138 yX0_hasMostlyLow, Cond.instanceMethod yX0_hasMostlyLow, Cond.selects RX0 yX0_hasMostlyLow yX0_hasMostlyLow, Cond.code yX0_hasMostlyLow cX0_hasMostlyLow 2 (some .boolean), Cond.methodLink RX0 88 yX0_reachPart, Cond.instanceMethod yX0_reachPart, Cond.selects RX0 yX0_reachPart yX0_reachPart, Cond.code yX0_reachPart cX0_reachPart 3 none, Cond.fieldLink RX0 46 "SheetRows" "reached" "[I", Cond.fieldLink RX0 18 "SheetRows" "width" "I", Cond.methodLink RX0 148 yX0_reach, Cond.instanceMethod yX0_reach, Cond.selects RX0 yX0_reach yX0_reach, Cond.code yX0_reach cX0_reach 2 none, Cond.methodLink RX0 151 yX0_reachAround, Cond.instanceMethod yX0_reachAround, Cond.selects RX0 yX0_reachAround yX0_reachAround]
def wsX0_parts_r3 : List Cond := [Cond.code yX0_reachAround cX0_reachAround 5 none, Cond.methodLink RX0 15 Lib.Math.max.name, Cond.static Lib.Math.max.name, Cond.initialized "java/lang/Math", Cond.code Lib.Math.max.name Lib.Math.max.code 2 (some .int), Cond.fieldLink RX0 22 "SheetRows" "height" "I", Cond.methodLink RX0 9 Lib.Math.min.name, Cond.static Lib.Math.min.name, Cond.code Lib.Math.min.name Lib.Math.min.code 2 (some .int), Cond.methodLink RX0 95 yX0_keepPart, Cond.instanceMethod yX0_keepPart, Cond.selects RX0 yX0_keepPart yX0_keepPart, Cond.code yX0_keepPart cX0_keepPart 11 none, Cond.fieldLink RX0 49 "SheetRows" "partFacts" "[I"]
def wsX0_parts : List Cond := .code yX0_parts cX0_parts 2 (some .int) :: ((wsX0_parts_r1 ++ (wsX0_parts_r2 ++ wsX0_parts_r3)) ++ wsX00)
def wsX0_part : List Cond := .code yX0_part cX0_part 3 (some .int) :: ([.fieldLink RX0 85 "SheetRows" "partCount" "I", .fieldLink RX0 49 "SheetRows" "partFacts" "[I"] ++ wsX00)
def wsJ9_floorDiv_7cf53 : List Cond := .code yJ9_floorDiv_7cf53 cJ9_floorDiv_7cf53 3 (some .int) :: ([])
def wsJ9_floorMod_7cf53 : List Cond := .code yJ9_floorMod_7cf53 cJ9_floorMod_7cf53 3 (some .int) :: ([])
def wsX0_shearAt : List Cond := .code yX0_shearAt cX0_shearAt 3 (some .int) :: ([.fieldLink RX0 22 "SheetRows" "height" "I", .methodLink RX0 155 yJ9_floorDiv_7cf53, .static yJ9_floorDiv_7cf53, .initialized RJ9, .code yJ9_floorDiv_7cf53 cJ9_floorDiv_7cf53 3 (some .int), .methodLink RX0 158 yJ9_floorMod_7cf53, .static yJ9_floorMod_7cf53, .code yJ9_floorMod_7cf53 cJ9_floorMod_7cf53 3 (some .int)] ++ wsX00)
def wsX0_sumOfSquares : List Cond := .code yX0_sumOfSquares cX0_sumOfSquares 5 (some .int) :: ([.fieldLink RX0 43 "SheetRows" "darkInRow" "[I", .fieldLink RX0 18 "SheetRows" "width" "I", .fieldLink RX0 22 "SheetRows" "height" "I", .fieldLink RX0 39 "SheetRows" "dark" "[Z", .methodLink RX0 142 yJ7_fill_53178, .static yJ7_fill_53178, .initialized RJ7, .code yJ7_fill_53178 cJ7_fill_53178 4 none, .methodLink RX0 101 yX0_shearAt, .instanceMethod yX0_shearAt, .selects RX0 yX0_shearAt yX0_shearAt, .initialized RX0, .code yX0_shearAt cX0_shearAt 3 (some .int), .methodLink RX0 155 yJ9_floorDiv_7cf53, .static yJ9_floorDiv_7cf53, .initialized RJ9, .code yJ9_floorDiv_7cf53 cJ9_floorDiv_7cf53 3 (some .int), .methodLink RX0 158 yJ9_floorMod_7cf53, .static yJ9_floorMod_7cf53, .code yJ9_floorMod_7cf53 cJ9_floorMod_7cf53 3 (some .int)] ++ wsX00)
def wsX0_skew_r1 : List Cond := [Cond.methodLink RX0 82 yX0_markDark, Cond.instanceMethod yX0_markDark, Cond.selects RX0 yX0_markDark yX0_markDark, Cond.initialized RX0, Cond.code yX0_markDark cX0_markDark 5 none, Cond.fieldLink RX0 25 "SheetRows" "greys" "[B", Cond.fieldLink RX0 39 "SheetRows" "dark" "[Z", Cond.methodLink RX0 135 yX0_threshold, Cond.instanceMethod yX0_threshold, Cond.selects RX0 yX0_threshold yX0_threshold, Cond.code yX0_threshold cX0_threshold 5 (some .int), Cond.methodLink RX0 75 yX0_tallyGreys, Cond.instanceMethod yX0_tallyGreys, Cond.selects RX0 yX0_tallyGreys yX0_tallyGreys, Cond.code yX0_tallyGreys cX0_tallyGreys 2 none, Cond.fieldLink RX0 32 "SheetRows" "countBelow" "[I", Cond.fieldLink RX0 36 "SheetRows" "sumBelow" "[I", Cond.methodLink RX0 142 yJ7_fill_53178, Cond.static yJ7_fill_53178, Cond.initialized RJ7, Cond.code yJ7_fill_53178 cJ7_fill_53178 4 none, Cond.methodLink RX0 78 yX0_spreadAt, Cond.instanceMethod yX0_spreadAt, Cond.selects RX0 yX0_spreadAt yX0_spreadAt]
def wsX0_skew_r2 : List Cond := [Cond.code yX0_spreadAt cX0_spreadAt 2 (some .int), Cond.methodLink RX0 145 yX0_spreadOfLot, Cond.instanceMethod yX0_spreadOfLot, Cond.selects RX0 yX0_spreadOfLot yX0_spreadOfLot, Cond.code yX0_spreadOfLot cX0_spreadOfLot 8 (some .int), Cond.methodLink RX0 138 yX0_hasMostlyLow, Cond.instanceMethod yX0_hasMostlyLow, Cond.selects RX0 yX0_hasMostlyLow yX0_hasMostlyLow, Cond.code yX0_hasMostlyLow cX0_hasMostlyLow 2 (some .boolean), Cond.methodLink RX0 98 yX0_sumOfSquares, Cond.instanceMethod yX0_sumOfSquares, Cond.selects RX0 yX0_sumOfSquares yX0_sumOfSquares, Cond.code yX0_sumOfSquares cX0_sumOfSquares 5 (some .int), Cond.fieldLink RX0 43 "SheetRows" "darkInRow" "[I", Cond.fieldLink RX0 18 "SheetRows" "width" "I", Cond.fieldLink RX0 22 "SheetRows" "height" "I", Cond.methodLink RX0 101 yX0_shearAt, Cond.instanceMethod yX0_shearAt, Cond.selects RX0 yX0_shearAt yX0_shearAt, Cond.code yX0_shearAt cX0_shearAt 3 (some .int), Cond.methodLink RX0 155 yJ9_floorDiv_7cf53, Cond.static yJ9_floorDiv_7cf53, Cond.initialized RJ9, Cond.code yJ9_floorDiv_7cf53 cJ9_floorDiv_7cf53 3 (some .int)]
def wsX0_skew_r3 : List Cond := [Cond.methodLink RX0 158 yJ9_floorMod_7cf53, Cond.static yJ9_floorMod_7cf53, Cond.code yJ9_floorMod_7cf53 cJ9_floorMod_7cf53 3 (some .int)]
def wsX0_skew : List Cond := .code yX0_skew cX0_skew 6 (some .int) :: ((wsX0_skew_r1 ++ (wsX0_skew_r2 ++ wsX0_skew_r3)) ++ wsX00)
def wsX0_takeSpare : List Cond := .code yX0_takeSpare cX0_takeSpare 3 (some .int) :: ([.fieldLink RX0 25 "SheetRows" "greys" "[B", .fieldLink RX0 29 "SheetRows" "spare" "[B"] ++ wsX00)
def wsX0_turn : List Cond := .code yX0_turn cX0_turn 5 (some .int) :: ([.fieldLink RX0 18 "SheetRows" "width" "I", .fieldLink RX0 22 "SheetRows" "height" "I", .fieldLink RX0 29 "SheetRows" "spare" "[B", .fieldLink RX0 25 "SheetRows" "greys" "[B", .methodLink RX0 101 yX0_shearAt, .instanceMethod yX0_shearAt, .selects RX0 yX0_shearAt yX0_shearAt, .initialized RX0, .code yX0_shearAt cX0_shearAt 3 (some .int), .methodLink RX0 155 yJ9_floorDiv_7cf53, .static yJ9_floorDiv_7cf53, .initialized RJ9, .code yJ9_floorDiv_7cf53 cJ9_floorDiv_7cf53 3 (some .int), .methodLink RX0 158 yJ9_floorMod_7cf53, .static yJ9_floorMod_7cf53, .code yJ9_floorMod_7cf53 cJ9_floorMod_7cf53 3 (some .int), .methodLink RX0 104 yX0_takeSpare, .instanceMethod yX0_takeSpare, .selects RX0 yX0_takeSpare yX0_takeSpare, .code yX0_takeSpare cX0_takeSpare 3 (some .int)] ++ wsX00)
def wsX0_packStretch : List Cond := .code yX0_packStretch cX0_packStretch 3 none :: ([.fieldLink RX0 108 "SheetRows" "packedCount" "I", .fieldLink RX0 52 "SheetRows" "packed" "[B"] ++ wsX00)
def wsX0_pack : List Cond := .code yX0_pack cX0_pack 3 (some .int) :: ([.fieldLink RX0 108 "SheetRows" "packedCount" "I", .fieldLink RX0 25 "SheetRows" "greys" "[B", .methodLink RX0 111 yX0_packStretch, .instanceMethod yX0_packStretch, .selects RX0 yX0_packStretch yX0_packStretch, .initialized RX0, .code yX0_packStretch cX0_packStretch 3 none, .fieldLink RX0 52 "SheetRows" "packed" "[B"] ++ wsX00)
def wsX0_octet : List Cond := .code yX0_octet cX0_octet 2 (some .byte) :: ([.fieldLink RX0 108 "SheetRows" "packedCount" "I", .classLink RX0 68 RJx00060, .instantiable RJx00060 6, .initialized RJx00060, .fieldLink RX0 52 "SheetRows" "packed" "[B"] ++ wsX00 ++ wsJx000600)
def wsX0_add : List Cond := .code yX0_add cX0_add 2 none :: ([.fieldLink RX0 117 "SheetRows" "collectedCount" "I", .fieldLink RX0 55 "SheetRows" "collected" "[B"] ++ wsX00)
def wsX0_readCollected : List Cond := .code yX0_readCollected cX0_readCollected 6 (some .int) :: ([.fieldLink RX0 117 "SheetRows" "collectedCount" "I", .fieldLink RX0 55 "SheetRows" "collected" "[B", .fieldLink RX0 29 "SheetRows" "spare" "[B"] ++ wsX00)
def wsX0_unpack : List Cond := .code yX0_unpack cX0_unpack 2 (some .int) :: ([.fieldLink RX0 117 "SheetRows" "collectedCount" "I", .methodLink RX0 120 yX0_readCollected, .instanceMethod yX0_readCollected, .selects RX0 yX0_readCollected yX0_readCollected, .initialized RX0, .code yX0_readCollected cX0_readCollected 6 (some .int), .fieldLink RX0 55 "SheetRows" "collected" "[B", .fieldLink RX0 29 "SheetRows" "spare" "[B", .methodLink RX0 104 yX0_takeSpare, .instanceMethod yX0_takeSpare, .selects RX0 yX0_takeSpare yX0_takeSpare, .code yX0_takeSpare cX0_takeSpare 3 (some .int), .fieldLink RX0 25 "SheetRows" "greys" "[B"] ++ wsX00)
def wsX0_mirrorRows : List Cond := .code yX0_mirrorRows cX0_mirrorRows 3 none :: ([.fieldLink RX0 22 "SheetRows" "height" "I", .fieldLink RX0 18 "SheetRows" "width" "I", .fieldLink RX0 29 "SheetRows" "spare" "[B", .fieldLink RX0 25 "SheetRows" "greys" "[B"] ++ wsX00)
def wsX0_reverseRows : List Cond := .code yX0_reverseRows cX0_reverseRows 3 none :: ([.fieldLink RX0 22 "SheetRows" "height" "I", .fieldLink RX0 18 "SheetRows" "width" "I", .fieldLink RX0 29 "SheetRows" "spare" "[B", .fieldLink RX0 25 "SheetRows" "greys" "[B"] ++ wsX00)
def wsX0_invertGreys : List Cond := .code yX0_invertGreys cX0_invertGreys 2 none :: ([.fieldLink RX0 25 "SheetRows" "greys" "[B", .fieldLink RX0 29 "SheetRows" "spare" "[B"] ++ wsX00)
def wsX0_meanOfFour : List Cond := .code yX0_meanOfFour cX0_meanOfFour 4 (some .byte) :: ([.fieldLink RX0 25 "SheetRows" "greys" "[B", .fieldLink RX0 18 "SheetRows" "width" "I"] ++ wsX00)
def wsX0_halve : List Cond := .code yX0_halve cX0_halve 3 none :: ([.fieldLink RX0 29 "SheetRows" "spare" "[B", .fieldLink RX0 22 "SheetRows" "height" "I", .fieldLink RX0 18 "SheetRows" "width" "I", .methodLink RX0 58 yJ7_fill_031fb, .static yJ7_fill_031fb, .initialized RJ7, .code yJ7_fill_031fb cJ7_fill_031fb 4 none, .methodLink RX0 161 yX0_meanOfFour, .instanceMethod yX0_meanOfFour, .selects RX0 yX0_meanOfFour yX0_meanOfFour, .initialized RX0, .code yX0_meanOfFour cX0_meanOfFour 4 (some .byte), .fieldLink RX0 25 "SheetRows" "greys" "[B"] ++ wsX00)
def wsX0_side_r1 : List Cond := [Cond.methodLink RX0 123 yX0_mirrorRows, Cond.instanceMethod yX0_mirrorRows, Cond.selects RX0 yX0_mirrorRows yX0_mirrorRows, Cond.initialized RX0, Cond.code yX0_mirrorRows cX0_mirrorRows 3 none, Cond.fieldLink RX0 22 "SheetRows" "height" "I", Cond.fieldLink RX0 18 "SheetRows" "width" "I", Cond.fieldLink RX0 29 "SheetRows" "spare" "[B", Cond.fieldLink RX0 25 "SheetRows" "greys" "[B", Cond.methodLink RX0 126 yX0_reverseRows, Cond.instanceMethod yX0_reverseRows, Cond.selects RX0 yX0_reverseRows yX0_reverseRows, Cond.code yX0_reverseRows cX0_reverseRows 3 none, Cond.methodLink RX0 129 yX0_invertGreys, Cond.instanceMethod yX0_invertGreys, Cond.selects RX0 yX0_invertGreys yX0_invertGreys, Cond.code yX0_invertGreys cX0_invertGreys 2 none, Cond.methodLink RX0 132 yX0_halve, Cond.instanceMethod yX0_halve, Cond.selects RX0 yX0_halve yX0_halve, Cond.code yX0_halve cX0_halve 3 none, Cond.methodLink RX0 58 yJ7_fill_031fb, Cond.static yJ7_fill_031fb, Cond.initialized RJ7]
def wsX0_side_r2 : List Cond := [Cond.code yJ7_fill_031fb cJ7_fill_031fb 4 none, Cond.methodLink RX0 161 yX0_meanOfFour, Cond.instanceMethod yX0_meanOfFour, Cond.selects RX0 yX0_meanOfFour yX0_meanOfFour, Cond.code yX0_meanOfFour cX0_meanOfFour 4 (some .byte), Cond.methodLink RX0 104 yX0_takeSpare, Cond.instanceMethod yX0_takeSpare, Cond.selects RX0 yX0_takeSpare yX0_takeSpare, Cond.code yX0_takeSpare cX0_takeSpare 3 (some .int)]
def wsX0_side : List Cond := .code yX0_side cX0_side 2 (some .int) :: ((wsX0_side_r1 ++ wsX0_side_r2) ++ wsX00)
def wsX0_inverted_r1 : List Cond := [Cond.methodLink RX0 135 yX0_threshold, Cond.instanceMethod yX0_threshold, Cond.selects RX0 yX0_threshold yX0_threshold, Cond.initialized RX0, Cond.code yX0_threshold cX0_threshold 5 (some .int), Cond.methodLink RX0 75 yX0_tallyGreys, Cond.instanceMethod yX0_tallyGreys, Cond.selects RX0 yX0_tallyGreys yX0_tallyGreys, Cond.code yX0_tallyGreys cX0_tallyGreys 2 none, Cond.fieldLink RX0 32 "SheetRows" "countBelow" "[I", Cond.fieldLink RX0 25 "SheetRows" "greys" "[B", Cond.fieldLink RX0 36 "SheetRows" "sumBelow" "[I", Cond.methodLink RX0 142 yJ7_fill_53178, Cond.static yJ7_fill_53178, Cond.initialized RJ7, Cond.code yJ7_fill_53178 cJ7_fill_53178 4 none, Cond.methodLink RX0 78 yX0_spreadAt, Cond.instanceMethod yX0_spreadAt, Cond.selects RX0 yX0_spreadAt yX0_spreadAt, Cond.code yX0_spreadAt cX0_spreadAt 2 (some .int), Cond.methodLink RX0 145 yX0_spreadOfLot, Cond.instanceMethod yX0_spreadOfLot, Cond.selects RX0 yX0_spreadOfLot yX0_spreadOfLot, Cond.code yX0_spreadOfLot cX0_spreadOfLot 8 (some .int)]
def wsX0_inverted_r2 : List Cond := [Cond.methodLink RX0 138 yX0_hasMostlyLow, Cond.instanceMethod yX0_hasMostlyLow, Cond.selects RX0 yX0_hasMostlyLow yX0_hasMostlyLow, Cond.code yX0_hasMostlyLow cX0_hasMostlyLow 2 (some .boolean)]
def wsX0_inverted : List Cond := .code yX0_inverted cX0_inverted 1 (some .boolean) :: ((wsX0_inverted_r1 ++ wsX0_inverted_r2) ++ wsX00)
def wsX0_grey : List Cond := .code yX0_grey cX0_grey 3 (some .int) :: ([.classLink RX0 68 RJx00060, .instantiable RJx00060 6, .initialized RJx00060, .fieldLink RX0 25 "SheetRows" "greys" "[B", .fieldLink RX0 18 "SheetRows" "width" "I", .methodLink RX0 64 yX0_isOnSheet, .instanceMethod yX0_isOnSheet, .selects RX0 yX0_isOnSheet yX0_isOnSheet, .initialized RX0, .code yX0_isOnSheet cX0_isOnSheet 3 (some .boolean), .fieldLink RX0 22 "SheetRows" "height" "I"] ++ wsJx000600 ++ wsX00)
def wsX1_init : List Cond := .code yX1_init cX1_init 4 none :: ([.methodLink RX1 1 objectInit, .instanceMethod objectInit, .code objectInit ⟨#[0xb1]⟩ 1 none, .arrayClass .int, .fieldLink RX1 7 "SheetRowsModel" "greys" "[I", .fieldLink RX1 13 "SheetRowsModel" "other" "[I", .fieldLink RX1 16 "SheetRowsModel" "counts" "[I", .fieldLink RX1 19 "SheetRowsModel" "labels" "[I", .fieldLink RX1 22 "SheetRowsModel" "firsts" "[I", .fieldLink RX1 25 "SheetRowsModel" "told" "[I", .arrayClass .byte, .fieldLink RX1 28 "SheetRowsModel" "pairs" "[B", .fieldLink RX1 32 "SheetRowsModel" "bytes" "[B", .fieldLink RX1 35 "SheetRowsModel" "w" "I", .fieldLink RX1 39 "SheetRowsModel" "h" "I", .fieldLink RX1 42 "SheetRowsModel" "n" "I"] ++ wsX10)
def wsX1_thrown : List Cond := .code yX1_thrown cX1_thrown 1 (some .int) :: ([.fieldLink RX1 45 "SheetRowsModel" "thrown" "I"] ++ wsX10)
def wsX1_refused : List Cond := .code yX1_refused cX1_refused 2 (some .boolean) :: ([.fieldLink RX1 45 "SheetRowsModel" "thrown" "I"] ++ wsX10)
def wsX1_isOn : List Cond := .code yX1_isOn cX1_isOn 3 (some .boolean) :: ([.fieldLink RX1 35 "SheetRowsModel" "w" "I", .fieldLink RX1 39 "SheetRowsModel" "h" "I"] ++ wsX10)
def wsX1_put : List Cond := .code yX1_put cX1_put 4 none :: ([.fieldLink RX1 7 "SheetRowsModel" "greys" "[I", .fieldLink RX1 35 "SheetRowsModel" "w" "I", .methodLink RX1 48 yX1_isOn, .instanceMethod yX1_isOn, .selects RX1 yX1_isOn yX1_isOn, .initialized RX1, .code yX1_isOn cX1_isOn 3 (some .boolean), .fieldLink RX1 39 "SheetRowsModel" "h" "I", .methodLink RX1 52 yX1_refused, .instanceMethod yX1_refused, .selects RX1 yX1_refused yX1_refused, .code yX1_refused cX1_refused 2 (some .boolean), .fieldLink RX1 45 "SheetRowsModel" "thrown" "I"] ++ wsX10)
def wsX1_grey : List Cond := .code yX1_grey cX1_grey 3 (some .int) :: ([.fieldLink RX1 7 "SheetRowsModel" "greys" "[I", .fieldLink RX1 35 "SheetRowsModel" "w" "I", .methodLink RX1 48 yX1_isOn, .instanceMethod yX1_isOn, .selects RX1 yX1_isOn yX1_isOn, .initialized RX1, .code yX1_isOn cX1_isOn 3 (some .boolean), .fieldLink RX1 39 "SheetRowsModel" "h" "I", .methodLink RX1 52 yX1_refused, .instanceMethod yX1_refused, .selects RX1 yX1_refused yX1_refused, .code yX1_refused cX1_refused 2 (some .boolean), .fieldLink RX1 45 "SheetRowsModel" "thrown" "I"] ++ wsX10)
def wsX1_spread : List Cond := .code yX1_spread cX1_spread 8 (some .int) :: ([.fieldLink RX1 16 "SheetRowsModel" "counts" "[I"] ++ wsX10)
def wsX1_thresholdNow : List Cond := .code yX1_thresholdNow cX1_thresholdNow 5 (some .int) :: ([.fieldLink RX1 16 "SheetRowsModel" "counts" "[I", .fieldLink RX1 42 "SheetRowsModel" "n" "I", .fieldLink RX1 7 "SheetRowsModel" "greys" "[I", .methodLink RX1 56 yX1_spread, .instanceMethod yX1_spread, .selects RX1 yX1_spread yX1_spread, .initialized RX1, .code yX1_spread cX1_spread 8 (some .int)] ++ wsX10)
def wsX1_threshold : List Cond := .code yX1_threshold cX1_threshold 1 (some .int) :: ([.fieldLink RX1 45 "SheetRowsModel" "thrown" "I", .methodLink RX1 60 yX1_thresholdNow, .instanceMethod yX1_thresholdNow, .selects RX1 yX1_thresholdNow yX1_thresholdNow, .initialized RX1, .code yX1_thresholdNow cX1_thresholdNow 5 (some .int), .fieldLink RX1 16 "SheetRowsModel" "counts" "[I", .fieldLink RX1 42 "SheetRowsModel" "n" "I", .fieldLink RX1 7 "SheetRowsModel" "greys" "[I", .methodLink RX1 56 yX1_spread, .instanceMethod yX1_spread, .selects RX1 yX1_spread yX1_spread, .code yX1_spread cX1_spread 8 (some .int)] ++ wsX10)
def wsX1_isInverted : List Cond := .code yX1_isInverted cX1_isInverted 4 (some .boolean) :: ([.fieldLink RX1 42 "SheetRowsModel" "n" "I", .fieldLink RX1 7 "SheetRowsModel" "greys" "[I"] ++ wsX10)
def wsX1_inverted : List Cond := .code yX1_inverted cX1_inverted 1 (some .boolean) :: ([.fieldLink RX1 45 "SheetRowsModel" "thrown" "I", .methodLink RX1 60 yX1_thresholdNow, .instanceMethod yX1_thresholdNow, .selects RX1 yX1_thresholdNow yX1_thresholdNow, .initialized RX1, .code yX1_thresholdNow cX1_thresholdNow 5 (some .int), .fieldLink RX1 16 "SheetRowsModel" "counts" "[I", .fieldLink RX1 42 "SheetRowsModel" "n" "I", .fieldLink RX1 7 "SheetRowsModel" "greys" "[I", .methodLink RX1 56 yX1_spread, .instanceMethod yX1_spread, .selects RX1 yX1_spread yX1_spread, .code yX1_spread cX1_spread 8 (some .int), .methodLink RX1 64 yX1_isInverted, .instanceMethod yX1_isInverted, .selects RX1 yX1_isInverted yX1_isInverted, .code yX1_isInverted cX1_isInverted 4 (some .boolean)] ++ wsX10)
def wsX1_darken : List Cond := .code yX1_darken cX1_darken 5 none :: ([.fieldLink RX1 42 "SheetRowsModel" "n" "I", .fieldLink RX1 7 "SheetRowsModel" "greys" "[I", .fieldLink RX1 13 "SheetRowsModel" "other" "[I", .methodLink RX1 60 yX1_thresholdNow, .instanceMethod yX1_thresholdNow, .selects RX1 yX1_thresholdNow yX1_thresholdNow, .initialized RX1, .code yX1_thresholdNow cX1_thresholdNow 5 (some .int), .fieldLink RX1 16 "SheetRowsModel" "counts" "[I", .methodLink RX1 56 yX1_spread, .instanceMethod yX1_spread, .selects RX1 yX1_spread yX1_spread, .code yX1_spread cX1_spread 8 (some .int), .methodLink RX1 64 yX1_isInverted, .instanceMethod yX1_isInverted, .selects RX1 yX1_isInverted yX1_isInverted, .code yX1_isInverted cX1_isInverted 4 (some .boolean)] ++ wsX10)
def wsX1_leastAround : List Cond := .code yX1_leastAround cX1_leastAround 7 (some .int) :: ([.fieldLink RX1 19 "SheetRowsModel" "labels" "[I", .fieldLink RX1 35 "SheetRowsModel" "w" "I", .fieldLink RX1 13 "SheetRowsModel" "other" "[I", .methodLink RX1 48 yX1_isOn, .instanceMethod yX1_isOn, .selects RX1 yX1_isOn yX1_isOn, .initialized RX1, .code yX1_isOn cX1_isOn 3 (some .boolean), .fieldLink RX1 39 "SheetRowsModel" "h" "I"] ++ wsX10)
def wsX1_sizeOf : List Cond := .code yX1_sizeOf cX1_sizeOf 4 (some .int) :: ([.fieldLink RX1 42 "SheetRowsModel" "n" "I", .fieldLink RX1 13 "SheetRowsModel" "other" "[I", .fieldLink RX1 19 "SheetRowsModel" "labels" "[I"] ++ wsX10)
def wsX1_tell : List Cond := .code yX1_tell cX1_tell 6 none :: ([.fieldLink RX1 75 "SheetRowsModel" "parts" "I", .fieldLink RX1 25 "SheetRowsModel" "told" "[I", .fieldLink RX1 35 "SheetRowsModel" "w" "I", .fieldLink RX1 39 "SheetRowsModel" "h" "I", .fieldLink RX1 42 "SheetRowsModel" "n" "I", .fieldLink RX1 13 "SheetRowsModel" "other" "[I", .fieldLink RX1 19 "SheetRowsModel" "labels" "[I"] ++ wsX10)
def wsX1_parts_r1 : List Cond := [Cond.fieldLink RX1 45 "SheetRowsModel" "thrown" "I", Cond.fieldLink RX1 42 "SheetRowsModel" "n" "I", Cond.fieldLink RX1 19 "SheetRowsModel" "labels" "[I", Cond.fieldLink RX1 13 "SheetRowsModel" "other" "[I", Cond.fieldLink RX1 75 "SheetRowsModel" "parts" "I", Cond.methodLink RX1 68 yX1_darken, Cond.instanceMethod yX1_darken, Cond.selects RX1 yX1_darken yX1_darken, Cond.initialized RX1, Cond.code yX1_darken cX1_darken 5 none, Cond.fieldLink RX1 7 "SheetRowsModel" "greys" "[I", Cond.methodLink RX1 60 yX1_thresholdNow, Cond.instanceMethod yX1_thresholdNow, Cond.selects RX1 yX1_thresholdNow yX1_thresholdNow, Cond.code yX1_thresholdNow cX1_thresholdNow 5 (some .int), Cond.fieldLink RX1 16 "SheetRowsModel" "counts" "[I", Cond.methodLink RX1 56 yX1_spread, Cond.instanceMethod yX1_spread, Cond.selects RX1 yX1_spread yX1_spread, Cond.code yX1_spread cX1_spread 8 (some .int), Cond.methodLink RX1 64 yX1_isInverted, Cond.instanceMethod yX1_isInverted, Cond.selects RX1 yX1_isInverted yX1_isInverted, Cond.code yX1_isInverted cX1_isInverted 4 (some .boolean)]
def wsX1_parts_r2 : List Cond := [Cond.methodLink RX1 71 yX1_leastAround, Cond.instanceMethod yX1_leastAround, Cond.selects RX1 yX1_leastAround yX1_leastAround, Cond.code yX1_leastAround cX1_leastAround 7 (some .int), Cond.fieldLink RX1 35 "SheetRowsModel" "w" "I", Cond.methodLink RX1 48 yX1_isOn, Cond.instanceMethod yX1_isOn, Cond.selects RX1 yX1_isOn yX1_isOn, Cond.code yX1_isOn cX1_isOn 3 (some .boolean), Cond.fieldLink RX1 39 "SheetRowsModel" "h" "I", Cond.methodLink RX1 78 yX1_sizeOf, Cond.instanceMethod yX1_sizeOf, Cond.selects RX1 yX1_sizeOf yX1_sizeOf, Cond.code yX1_sizeOf cX1_sizeOf 4 (some .int), Cond.methodLink RX1 81 yX1_tell, Cond.instanceMethod yX1_tell, Cond.selects RX1 yX1_tell yX1_tell, Cond.code yX1_tell cX1_tell 6 none, Cond.fieldLink RX1 25 "SheetRowsModel" "told" "[I"]
def wsX1_parts : List Cond := .code yX1_parts cX1_parts 5 (some .int) :: ((wsX1_parts_r1 ++ wsX1_parts_r2) ++ wsX10)
def wsX1_part : List Cond := .code yX1_part cX1_part 3 (some .int) :: ([.fieldLink RX1 45 "SheetRowsModel" "thrown" "I", .fieldLink RX1 75 "SheetRowsModel" "parts" "I", .fieldLink RX1 25 "SheetRowsModel" "told" "[I"] ++ wsX10)
def wsX1_rowOf : List Cond := .code yX1_rowOf cX1_rowOf 5 (some .int) :: ([.fieldLink RX1 39 "SheetRowsModel" "h" "I"] ++ wsX10)
def wsX1_skew_r1 : List Cond := [Cond.fieldLink RX1 45 "SheetRowsModel" "thrown" "I", Cond.fieldLink RX1 39 "SheetRowsModel" "h" "I", Cond.fieldLink RX1 16 "SheetRowsModel" "counts" "[I", Cond.fieldLink RX1 42 "SheetRowsModel" "n" "I", Cond.fieldLink RX1 35 "SheetRowsModel" "w" "I", Cond.fieldLink RX1 13 "SheetRowsModel" "other" "[I", Cond.methodLink RX1 68 yX1_darken, Cond.instanceMethod yX1_darken, Cond.selects RX1 yX1_darken yX1_darken, Cond.initialized RX1, Cond.code yX1_darken cX1_darken 5 none, Cond.fieldLink RX1 7 "SheetRowsModel" "greys" "[I", Cond.methodLink RX1 60 yX1_thresholdNow, Cond.instanceMethod yX1_thresholdNow, Cond.selects RX1 yX1_thresholdNow yX1_thresholdNow, Cond.code yX1_thresholdNow cX1_thresholdNow 5 (some .int), Cond.methodLink RX1 56 yX1_spread, Cond.instanceMethod yX1_spread, Cond.selects RX1 yX1_spread yX1_spread, Cond.code yX1_spread cX1_spread 8 (some .int), Cond.methodLink RX1 64 yX1_isInverted, Cond.instanceMethod yX1_isInverted, Cond.selects RX1 yX1_isInverted yX1_isInverted, Cond.code yX1_isInverted cX1_isInverted 4 (some .boolean)]
def wsX1_skew_r2 : List Cond := [Cond.methodLink RX1 85 yX1_rowOf, Cond.instanceMethod yX1_rowOf, Cond.selects RX1 yX1_rowOf yX1_rowOf, Cond.code yX1_rowOf cX1_rowOf 5 (some .int)]
def wsX1_skew : List Cond := .code yX1_skew cX1_skew 7 (some .int) :: ((wsX1_skew_r1 ++ wsX1_skew_r2) ++ wsX10)
def wsX1_change : List Cond := .code yX1_change cX1_change 3 (some .int) :: ([.fieldLink RX1 42 "SheetRowsModel" "n" "I", .fieldLink RX1 13 "SheetRowsModel" "other" "[I", .fieldLink RX1 7 "SheetRowsModel" "greys" "[I"] ++ wsX10)
def wsX1_turn : List Cond := .code yX1_turn cX1_turn 3 (some .int) :: ([.fieldLink RX1 45 "SheetRowsModel" "thrown" "I", .fieldLink RX1 42 "SheetRowsModel" "n" "I", .fieldLink RX1 13 "SheetRowsModel" "other" "[I", .fieldLink RX1 35 "SheetRowsModel" "w" "I", .fieldLink RX1 7 "SheetRowsModel" "greys" "[I", .methodLink RX1 85 yX1_rowOf, .instanceMethod yX1_rowOf, .selects RX1 yX1_rowOf yX1_rowOf, .initialized RX1, .code yX1_rowOf cX1_rowOf 5 (some .int), .fieldLink RX1 39 "SheetRowsModel" "h" "I", .methodLink RX1 89 yX1_change, .instanceMethod yX1_change, .selects RX1 yX1_change yX1_change, .code yX1_change cX1_change 3 (some .int)] ++ wsX10)
def wsX1_pack : List Cond := .code yX1_pack cX1_pack 3 (some .int) :: ([.fieldLink RX1 45 "SheetRowsModel" "thrown" "I", .fieldLink RX1 92 "SheetRowsModel" "packed" "I", .fieldLink RX1 42 "SheetRowsModel" "n" "I", .fieldLink RX1 7 "SheetRowsModel" "greys" "[I", .fieldLink RX1 28 "SheetRowsModel" "pairs" "[B"] ++ wsX10)
def wsX1_octet : List Cond := .code yX1_octet cX1_octet 2 (some .byte) :: ([.fieldLink RX1 92 "SheetRowsModel" "packed" "I", .fieldLink RX1 28 "SheetRowsModel" "pairs" "[B", .methodLink RX1 52 yX1_refused, .instanceMethod yX1_refused, .selects RX1 yX1_refused yX1_refused, .initialized RX1, .code yX1_refused cX1_refused 2 (some .boolean), .fieldLink RX1 45 "SheetRowsModel" "thrown" "I"] ++ wsX10)
def wsX1_add : List Cond := .code yX1_add cX1_add 2 none :: ([.fieldLink RX1 45 "SheetRowsModel" "thrown" "I", .fieldLink RX1 95 "SheetRowsModel" "collected" "I", .fieldLink RX1 32 "SheetRowsModel" "bytes" "[B"] ++ wsX10)
def wsX1_unpack : List Cond := .code yX1_unpack cX1_unpack 6 (some .int) :: ([.fieldLink RX1 45 "SheetRowsModel" "thrown" "I", .fieldLink RX1 95 "SheetRowsModel" "collected" "I", .fieldLink RX1 42 "SheetRowsModel" "n" "I", .fieldLink RX1 32 "SheetRowsModel" "bytes" "[B", .fieldLink RX1 13 "SheetRowsModel" "other" "[I", .methodLink RX1 89 yX1_change, .instanceMethod yX1_change, .selects RX1 yX1_change yX1_change, .initialized RX1, .code yX1_change cX1_change 3 (some .int), .fieldLink RX1 7 "SheetRowsModel" "greys" "[I"] ++ wsX10)
def wsX1_mean : List Cond := .code yX1_mean cX1_mean 4 (some .int) :: ([.fieldLink RX1 35 "SheetRowsModel" "w" "I", .fieldLink RX1 7 "SheetRowsModel" "greys" "[I"] ++ wsX10)
def wsX1_side : List Cond := .code yX1_side cX1_side 5 (some .int) :: ([.fieldLink RX1 45 "SheetRowsModel" "thrown" "I", .fieldLink RX1 42 "SheetRowsModel" "n" "I", .fieldLink RX1 35 "SheetRowsModel" "w" "I", .fieldLink RX1 13 "SheetRowsModel" "other" "[I", .fieldLink RX1 7 "SheetRowsModel" "greys" "[I", .fieldLink RX1 39 "SheetRowsModel" "h" "I", .methodLink RX1 98 yX1_mean, .instanceMethod yX1_mean, .selects RX1 yX1_mean yX1_mean, .initialized RX1, .code yX1_mean cX1_mean 4 (some .int), .methodLink RX1 89 yX1_change, .instanceMethod yX1_change, .selects RX1 yX1_change yX1_change, .code yX1_change cX1_change 3 (some .int)] ++ wsX10)
def wsJx00060_init_a7421 : List Cond := .code yJx00060_init_a7421 cJx00060_init_a7421 2 none :: ([])
def wsJ9_max_7cf53 : List Cond := .code yJ9_max_7cf53 cJ9_max_7cf53 2 (some .int) :: ([])
def wsJ9_min_7cf53 : List Cond := .code yJ9_min_7cf53 cJ9_min_7cf53 2 (some .int) :: ([])
def wsL_cell : List Cond := .code yL_cell cL_cell 2 (some .int) :: ([])
def wsL_put : List Cond := .codeWith yL_put cL_put 5 (some .int) [(0, 7, 10, 13)] :: ([.methodLink RL 7 yX0_put, .instanceMethod yX0_put, .selects RX0 yX0_put yX0_put, .initialized RX0, .code yX0_put cX0_put 4 none, .classLink RX0 68 RJx00060, .instantiable RJx00060 6, .initialized RJx00060, .fieldLink RX0 25 "SheetRows" "greys" "[B", .fieldLink RX0 18 "SheetRows" "width" "I", .methodLink RX0 64 yX0_isOnSheet, .instanceMethod yX0_isOnSheet, .selects RX0 yX0_isOnSheet yX0_isOnSheet, .code yX0_isOnSheet cX0_isOnSheet 3 (some .boolean), .fieldLink RX0 22 "SheetRows" "height" "I"] ++ wsJx000600 ++ wsX00)
def wsL_octet : List Cond := .codeWith yL_octet cL_octet 4 (some .int) [(0, 9, 12, 13)] :: ([.methodLink RL 15 yX0_octet, .instanceMethod yX0_octet, .selects RX0 yX0_octet yX0_octet, .initialized RX0, .code yX0_octet cX0_octet 2 (some .byte), .fieldLink RX0 108 "SheetRows" "packedCount" "I", .classLink RX0 68 RJx00060, .instantiable RJx00060 6, .initialized RJx00060, .fieldLink RX0 52 "SheetRows" "packed" "[B"] ++ wsX00 ++ wsJx000600)
def wsL_grey : List Cond := .codeWith yL_grey cL_grey 5 (some .int) [(0, 10, 13, 13)] :: ([.methodLink RL 19 yX0_grey, .instanceMethod yX0_grey, .selects RX0 yX0_grey yX0_grey, .initialized RX0, .code yX0_grey cX0_grey 3 (some .int), .classLink RX0 68 RJx00060, .instantiable RJx00060 6, .initialized RJx00060, .fieldLink RX0 25 "SheetRows" "greys" "[B", .fieldLink RX0 18 "SheetRows" "width" "I", .methodLink RX0 64 yX0_isOnSheet, .instanceMethod yX0_isOnSheet, .selects RX0 yX0_isOnSheet yX0_isOnSheet, .code yX0_isOnSheet cX0_isOnSheet 3 (some .boolean), .fieldLink RX0 22 "SheetRows" "height" "I"] ++ wsJx000600 ++ wsX00)
def wsL_law_r1 : List Cond := [Cond.classLink RL 8 RX0, Cond.instantiable RX0 16, Cond.initialized RX0, Cond.classLink RL 32 RX1, Cond.instantiable RX1 15, Cond.initialized RX1, Cond.arrayClass .long, Cond.methodLink RL 23 yL_cell, Cond.static yL_cell, Cond.initialized RL, Cond.code yL_cell cL_cell 2 (some .int), Cond.methodLink RL 29 yX0_init, Cond.instanceMethod yX0_init, Cond.code yX0_init cX0_init 4 none, Cond.methodLink RX0 3 objectInit, Cond.instanceMethod objectInit, Cond.code objectInit ⟨#[0xb1]⟩ 1 none, Cond.methodLink RX0 9 Lib.Math.min.name, Cond.static Lib.Math.min.name, Cond.initialized "java/lang/Math", Cond.code Lib.Math.min.name Lib.Math.min.code 2 (some .int), Cond.methodLink RX0 15 Lib.Math.max.name, Cond.static Lib.Math.max.name, Cond.code Lib.Math.max.name Lib.Math.max.code 2 (some .int)]
def wsL_law_r2 : List Cond := [Cond.fieldLink RX0 18 "SheetRows" "width" "I", Cond.fieldLink RX0 22 "SheetRows" "height" "I", Cond.arrayClass .byte, Cond.fieldLink RX0 25 "SheetRows" "greys" "[B", Cond.fieldLink RX0 29 "SheetRows" "spare" "[B", Cond.arrayClass .int, Cond.fieldLink RX0 32 "SheetRows" "countBelow" "[I", Cond.fieldLink RX0 36 "SheetRows" "sumBelow" "[I", Cond.arrayClass .boolean, Cond.fieldLink RX0 39 "SheetRows" "dark" "[Z", Cond.fieldLink RX0 43 "SheetRows" "darkInRow" "[I", Cond.fieldLink RX0 46 "SheetRows" "reached" "[I", Cond.fieldLink RX0 49 "SheetRows" "partFacts" "[I", Cond.fieldLink RX0 52 "SheetRows" "packed" "[B", Cond.fieldLink RX0 55 "SheetRows" "collected" "[B", Cond.methodLink RX0 58 yJ7_fill_031fb, Cond.static yJ7_fill_031fb, Cond.initialized RJ7, Cond.code yJ7_fill_031fb cJ7_fill_031fb 4 none, Cond.methodLink RL 34 yX1_init, Cond.instanceMethod yX1_init, Cond.code yX1_init cX1_init 4 none, Cond.methodLink RX1 1 objectInit, Cond.fieldLink RX1 7 "SheetRowsModel" "greys" "[I"]
def wsL_law_r3 : List Cond := [Cond.fieldLink RX1 13 "SheetRowsModel" "other" "[I", Cond.fieldLink RX1 16 "SheetRowsModel" "counts" "[I", Cond.fieldLink RX1 19 "SheetRowsModel" "labels" "[I", Cond.fieldLink RX1 22 "SheetRowsModel" "firsts" "[I", Cond.fieldLink RX1 25 "SheetRowsModel" "told" "[I", Cond.fieldLink RX1 28 "SheetRowsModel" "pairs" "[B", Cond.fieldLink RX1 32 "SheetRowsModel" "bytes" "[B", Cond.fieldLink RX1 35 "SheetRowsModel" "w" "I", Cond.fieldLink RX1 39 "SheetRowsModel" "h" "I", Cond.fieldLink RX1 42 "SheetRowsModel" "n" "I", Cond.methodLink RL 35 yL_put, Cond.static yL_put, Cond.codeWith yL_put cL_put 5 (some .int) [(0, 7, 10, 13)], Cond.methodLink RL 7 yX0_put, Cond.instanceMethod yX0_put, Cond.selects RX0 yX0_put yX0_put, Cond.code yX0_put cX0_put 4 none, Cond.classLink RX0 68 RJx00060, Cond.instantiable RJx00060 6, Cond.initialized RJx00060, Cond.methodLink RX0 64 yX0_isOnSheet, Cond.instanceMethod yX0_isOnSheet, Cond.selects RX0 yX0_isOnSheet yX0_isOnSheet, Cond.code yX0_isOnSheet cX0_isOnSheet 3 (some .boolean)]
def wsL_law_r4 : List Cond := [Cond.methodLink RL 38 yX1_put, Cond.instanceMethod yX1_put, Cond.selects RX1 yX1_put yX1_put, Cond.code yX1_put cX1_put 4 none, Cond.methodLink RX1 48 yX1_isOn, Cond.instanceMethod yX1_isOn, Cond.selects RX1 yX1_isOn yX1_isOn, Cond.code yX1_isOn cX1_isOn 3 (some .boolean), Cond.methodLink RX1 52 yX1_refused, Cond.instanceMethod yX1_refused, Cond.selects RX1 yX1_refused yX1_refused, Cond.code yX1_refused cX1_refused 2 (some .boolean), Cond.fieldLink RX1 45 "SheetRowsModel" "thrown" "I", Cond.methodLink RL 39 yX1_thrown, Cond.instanceMethod yX1_thrown, Cond.selects RX1 yX1_thrown yX1_thrown, Cond.code yX1_thrown cX1_thrown 1 (some .int), Cond.methodLink RL 43 yX0_threshold, Cond.instanceMethod yX0_threshold, Cond.selects RX0 yX0_threshold yX0_threshold, Cond.code yX0_threshold cX0_threshold 5 (some .int), Cond.methodLink RX0 75 yX0_tallyGreys, Cond.instanceMethod yX0_tallyGreys, Cond.selects RX0 yX0_tallyGreys yX0_tallyGreys]
def wsL_law_r5 : List Cond := [Cond.code yX0_tallyGreys cX0_tallyGreys 2 none, Cond.methodLink RX0 142 yJ7_fill_53178, Cond.static yJ7_fill_53178, Cond.code yJ7_fill_53178 cJ7_fill_53178 4 none, Cond.methodLink RX0 78 yX0_spreadAt, Cond.instanceMethod yX0_spreadAt, Cond.selects RX0 yX0_spreadAt yX0_spreadAt, Cond.code yX0_spreadAt cX0_spreadAt 2 (some .int), Cond.methodLink RX0 145 yX0_spreadOfLot, Cond.instanceMethod yX0_spreadOfLot, Cond.selects RX0 yX0_spreadOfLot yX0_spreadOfLot, Cond.code yX0_spreadOfLot cX0_spreadOfLot 8 (some .int), Cond.methodLink RL 46 yX1_threshold, Cond.instanceMethod yX1_threshold, Cond.selects RX1 yX1_threshold yX1_threshold, Cond.code yX1_threshold cX1_threshold 1 (some .int), Cond.methodLink RX1 60 yX1_thresholdNow, Cond.instanceMethod yX1_thresholdNow, Cond.selects RX1 yX1_thresholdNow yX1_thresholdNow, Cond.code yX1_thresholdNow cX1_thresholdNow 5 (some .int), Cond.methodLink RX1 56 yX1_spread, Cond.instanceMethod yX1_spread, Cond.selects RX1 yX1_spread yX1_spread, Cond.code yX1_spread cX1_spread 8 (some .int)]
def wsL_law_r6 : List Cond := [Cond.methodLink RL 47 yX0_parts, Cond.instanceMethod yX0_parts, Cond.selects RX0 yX0_parts yX0_parts, Cond.code yX0_parts cX0_parts 2 (some .int), Cond.fieldLink RX0 85 "SheetRows" "partCount" "I", Cond.fieldLink RX0 92 "SheetRows" "reachedCount" "I", Cond.methodLink RX0 82 yX0_markDark, Cond.instanceMethod yX0_markDark, Cond.selects RX0 yX0_markDark yX0_markDark, Cond.code yX0_markDark cX0_markDark 5 none, Cond.methodLink RX0 135 yX0_threshold, Cond.methodLink RX0 138 yX0_hasMostlyLow, Cond.instanceMethod yX0_hasMostlyLow, Cond.selects RX0 yX0_hasMostlyLow yX0_hasMostlyLow, Cond.code yX0_hasMostlyLow cX0_hasMostlyLow 2 (some .boolean), Cond.methodLink RX0 88 yX0_reachPart, Cond.instanceMethod yX0_reachPart, Cond.selects RX0 yX0_reachPart yX0_reachPart, Cond.code yX0_reachPart cX0_reachPart 3 none, Cond.methodLink RX0 148 yX0_reach, Cond.instanceMethod yX0_reach, Cond.selects RX0 yX0_reach yX0_reach, Cond.code yX0_reach cX0_reach 2 none, Cond.methodLink RX0 151 yX0_reachAround]
def wsL_law_r7 : List Cond := [Cond.instanceMethod yX0_reachAround, Cond.selects RX0 yX0_reachAround yX0_reachAround, Cond.code yX0_reachAround cX0_reachAround 5 none, Cond.methodLink RX0 95 yX0_keepPart, Cond.instanceMethod yX0_keepPart, Cond.selects RX0 yX0_keepPart yX0_keepPart, Cond.code yX0_keepPart cX0_keepPart 11 none, Cond.methodLink RL 50 yX1_parts, Cond.instanceMethod yX1_parts, Cond.selects RX1 yX1_parts yX1_parts, Cond.code yX1_parts cX1_parts 5 (some .int), Cond.fieldLink RX1 75 "SheetRowsModel" "parts" "I", Cond.methodLink RX1 68 yX1_darken, Cond.instanceMethod yX1_darken, Cond.selects RX1 yX1_darken yX1_darken, Cond.code yX1_darken cX1_darken 5 none, Cond.methodLink RX1 64 yX1_isInverted, Cond.instanceMethod yX1_isInverted, Cond.selects RX1 yX1_isInverted yX1_isInverted, Cond.code yX1_isInverted cX1_isInverted 4 (some .boolean), Cond.methodLink RX1 71 yX1_leastAround, Cond.instanceMethod yX1_leastAround, Cond.selects RX1 yX1_leastAround yX1_leastAround, Cond.code yX1_leastAround cX1_leastAround 7 (some .int)]
def wsL_law_r8 : List Cond := [Cond.methodLink RX1 78 yX1_sizeOf, Cond.instanceMethod yX1_sizeOf, Cond.selects RX1 yX1_sizeOf yX1_sizeOf, Cond.code yX1_sizeOf cX1_sizeOf 4 (some .int), Cond.methodLink RX1 81 yX1_tell, Cond.instanceMethod yX1_tell, Cond.selects RX1 yX1_tell yX1_tell, Cond.code yX1_tell cX1_tell 6 none, Cond.methodLink RL 51 yX0_part, Cond.instanceMethod yX0_part, Cond.selects RX0 yX0_part yX0_part, Cond.code yX0_part cX0_part 3 (some .int), Cond.methodLink RL 54 yX1_part, Cond.instanceMethod yX1_part, Cond.selects RX1 yX1_part yX1_part, Cond.code yX1_part cX1_part 3 (some .int), Cond.methodLink RL 55 yX0_skew, Cond.instanceMethod yX0_skew, Cond.selects RX0 yX0_skew yX0_skew, Cond.code yX0_skew cX0_skew 6 (some .int), Cond.methodLink RX0 98 yX0_sumOfSquares, Cond.instanceMethod yX0_sumOfSquares, Cond.selects RX0 yX0_sumOfSquares yX0_sumOfSquares, Cond.code yX0_sumOfSquares cX0_sumOfSquares 5 (some .int)]
def wsL_law_r9 : List Cond := [Cond.methodLink RX0 101 yX0_shearAt, Cond.instanceMethod yX0_shearAt, Cond.selects RX0 yX0_shearAt yX0_shearAt, Cond.code yX0_shearAt cX0_shearAt 3 (some .int), Cond.methodLink RX0 155 yJ9_floorDiv_7cf53, Cond.static yJ9_floorDiv_7cf53, Cond.initialized RJ9, Cond.code yJ9_floorDiv_7cf53 cJ9_floorDiv_7cf53 3 (some .int), Cond.methodLink RX0 158 yJ9_floorMod_7cf53, Cond.static yJ9_floorMod_7cf53, Cond.code yJ9_floorMod_7cf53 cJ9_floorMod_7cf53 3 (some .int), Cond.methodLink RL 58 yX1_skew, Cond.instanceMethod yX1_skew, Cond.selects RX1 yX1_skew yX1_skew, Cond.code yX1_skew cX1_skew 7 (some .int), Cond.methodLink RX1 85 yX1_rowOf, Cond.instanceMethod yX1_rowOf, Cond.selects RX1 yX1_rowOf yX1_rowOf, Cond.code yX1_rowOf cX1_rowOf 5 (some .int), Cond.methodLink RL 59 yX0_turn, Cond.instanceMethod yX0_turn, Cond.selects RX0 yX0_turn yX0_turn, Cond.code yX0_turn cX0_turn 5 (some .int), Cond.methodLink RX0 104 yX0_takeSpare]
def wsL_law_r10 : List Cond := [Cond.instanceMethod yX0_takeSpare, Cond.selects RX0 yX0_takeSpare yX0_takeSpare, Cond.code yX0_takeSpare cX0_takeSpare 3 (some .int), Cond.methodLink RL 63 yX1_turn, Cond.instanceMethod yX1_turn, Cond.selects RX1 yX1_turn yX1_turn, Cond.code yX1_turn cX1_turn 3 (some .int), Cond.methodLink RX1 89 yX1_change, Cond.instanceMethod yX1_change, Cond.selects RX1 yX1_change yX1_change, Cond.code yX1_change cX1_change 3 (some .int), Cond.methodLink RL 64 yX0_pack, Cond.instanceMethod yX0_pack, Cond.selects RX0 yX0_pack yX0_pack, Cond.code yX0_pack cX0_pack 3 (some .int), Cond.fieldLink RX0 108 "SheetRows" "packedCount" "I", Cond.methodLink RX0 111 yX0_packStretch, Cond.instanceMethod yX0_packStretch, Cond.selects RX0 yX0_packStretch yX0_packStretch, Cond.code yX0_packStretch cX0_packStretch 3 none, Cond.methodLink RL 67 yX1_pack, Cond.instanceMethod yX1_pack, Cond.selects RX1 yX1_pack yX1_pack, Cond.code yX1_pack cX1_pack 3 (some .int)]
def wsL_law_r11 : List Cond := [Cond.fieldLink RX1 92 "SheetRowsModel" "packed" "I", Cond.methodLink RL 68 yL_octet, Cond.static yL_octet, Cond.codeWith yL_octet cL_octet 4 (some .int) [(0, 9, 12, 13)], Cond.methodLink RL 15 yX0_octet, Cond.instanceMethod yX0_octet, Cond.selects RX0 yX0_octet yX0_octet, Cond.code yX0_octet cX0_octet 2 (some .byte), Cond.methodLink RL 71 yX1_octet, Cond.instanceMethod yX1_octet, Cond.selects RX1 yX1_octet yX1_octet, Cond.code yX1_octet cX1_octet 2 (some .byte), Cond.methodLink RL 72 yX0_add, Cond.instanceMethod yX0_add, Cond.selects RX0 yX0_add yX0_add, Cond.code yX0_add cX0_add 2 none, Cond.fieldLink RX0 117 "SheetRows" "collectedCount" "I", Cond.methodLink RL 76 yX1_add, Cond.instanceMethod yX1_add, Cond.selects RX1 yX1_add yX1_add, Cond.code yX1_add cX1_add 2 none, Cond.fieldLink RX1 95 "SheetRowsModel" "collected" "I", Cond.methodLink RL 77 yX0_unpack, Cond.instanceMethod yX0_unpack]
def wsL_law_r12 : List Cond := [Cond.selects RX0 yX0_unpack yX0_unpack, Cond.code yX0_unpack cX0_unpack 2 (some .int), Cond.methodLink RX0 120 yX0_readCollected, Cond.instanceMethod yX0_readCollected, Cond.selects RX0 yX0_readCollected yX0_readCollected, Cond.code yX0_readCollected cX0_readCollected 6 (some .int), Cond.methodLink RL 80 yX1_unpack, Cond.instanceMethod yX1_unpack, Cond.selects RX1 yX1_unpack yX1_unpack, Cond.code yX1_unpack cX1_unpack 6 (some .int), Cond.methodLink RL 81 yX0_side, Cond.instanceMethod yX0_side, Cond.selects RX0 yX0_side yX0_side, Cond.code yX0_side cX0_side 2 (some .int), Cond.methodLink RX0 123 yX0_mirrorRows, Cond.instanceMethod yX0_mirrorRows, Cond.selects RX0 yX0_mirrorRows yX0_mirrorRows, Cond.code yX0_mirrorRows cX0_mirrorRows 3 none, Cond.methodLink RX0 126 yX0_reverseRows, Cond.instanceMethod yX0_reverseRows, Cond.selects RX0 yX0_reverseRows yX0_reverseRows, Cond.code yX0_reverseRows cX0_reverseRows 3 none, Cond.methodLink RX0 129 yX0_invertGreys, Cond.instanceMethod yX0_invertGreys]
def wsL_law_r13 : List Cond := [Cond.selects RX0 yX0_invertGreys yX0_invertGreys, Cond.code yX0_invertGreys cX0_invertGreys 2 none, Cond.methodLink RX0 132 yX0_halve, Cond.instanceMethod yX0_halve, Cond.selects RX0 yX0_halve yX0_halve, Cond.code yX0_halve cX0_halve 3 none, Cond.methodLink RX0 161 yX0_meanOfFour, Cond.instanceMethod yX0_meanOfFour, Cond.selects RX0 yX0_meanOfFour yX0_meanOfFour, Cond.code yX0_meanOfFour cX0_meanOfFour 4 (some .byte), Cond.methodLink RL 84 yX1_side, Cond.instanceMethod yX1_side, Cond.selects RX1 yX1_side yX1_side, Cond.code yX1_side cX1_side 5 (some .int), Cond.methodLink RX1 98 yX1_mean, Cond.instanceMethod yX1_mean, Cond.selects RX1 yX1_mean yX1_mean, Cond.code yX1_mean cX1_mean 4 (some .int), Cond.methodLink RL 85 yX0_inverted, Cond.instanceMethod yX0_inverted, Cond.selects RX0 yX0_inverted yX0_inverted, Cond.code yX0_inverted cX0_inverted 1 (some .boolean), Cond.methodLink RL 89 yX1_inverted, Cond.instanceMethod yX1_inverted]
def wsL_law_r14 : List Cond := [Cond.selects RX1 yX1_inverted yX1_inverted, Cond.code yX1_inverted cX1_inverted 1 (some .boolean), Cond.methodLink RL 90 yL_grey, Cond.static yL_grey, Cond.codeWith yL_grey cL_grey 5 (some .int) [(0, 10, 13, 13)], Cond.methodLink RL 19 yX0_grey, Cond.instanceMethod yX0_grey, Cond.selects RX0 yX0_grey yX0_grey, Cond.code yX0_grey cX0_grey 3 (some .int), Cond.methodLink RL 93 yX1_grey, Cond.instanceMethod yX1_grey, Cond.selects RX1 yX1_grey yX1_grey, Cond.code yX1_grey cX1_grey 3 (some .int)]
def wsL_law : List Cond := (wsL_law_r1 ++ (wsL_law_r2 ++ (wsL_law_r3 ++ (wsL_law_r4 ++ (wsL_law_r5 ++ (wsL_law_r6 ++ (wsL_law_r7 ++ (wsL_law_r8 ++ (wsL_law_r9 ++ (wsL_law_r10 ++ (wsL_law_r11 ++ (wsL_law_r12 ++ (wsL_law_r13 ++ wsL_law_r14))))))))))))) ++ wsX00 ++ wsX10 ++ wsJx000600 ++ ([] : List Cond)
set_option maxRecDepth 20000 in
theorem wsL_law_r1_good : GoodIn lw_tbl wsL_law_r1 := goodIn_p wsL_law_r1 [240, 47, 50, 53, 56] (by decide +kernel) (by decide +kernel)
set_option maxRecDepth 20000 in
theorem wsL_law_r2_good : GoodIn lw_tbl wsL_law_r2 := goodIn_p wsL_law_r2 [59, 342] (by decide +kernel) (by decide +kernel)
set_option maxRecDepth 20000 in
theorem wsL_law_r3_good : GoodIn lw_tbl wsL_law_r3 := goodIn_p wsL_law_r3 [248, 252] (by decide +kernel) (by decide +kernel)
set_option maxRecDepth 20000 in
theorem wsL_law_r4_good : GoodIn lw_tbl wsL_law_r4 := goodIn_p wsL_law_r4 [397, 401, 405, 393, 115] (by decide +kernel) (by decide +kernel)
set_option maxRecDepth 20000 in
theorem wsL_law_r5_good : GoodIn lw_tbl wsL_law_r5 := goodIn_p wsL_law_r5 [119, 122, 126, 130, 413, 417, 421] (by decide +kernel) (by decide +kernel)
set_option maxRecDepth 20000 in
theorem wsL_law_r6_good : GoodIn lw_tbl wsL_law_r6 := goodIn_p wsL_law_r6 [134, 138, 143, 147, 151] (by decide +kernel) (by decide +kernel)
set_option maxRecDepth 20000 in
theorem wsL_law_r7_good : GoodIn lw_tbl wsL_law_r7 := goodIn_p wsL_law_r7 [155, 159, 433, 437, 429, 441] (by decide +kernel) (by decide +kernel)
set_option maxRecDepth 20000 in
theorem wsL_law_r8_good : GoodIn lw_tbl wsL_law_r8 := goodIn_p wsL_law_r8 [445, 449, 163, 453, 167, 171] (by decide +kernel) (by decide +kernel)
set_option maxRecDepth 20000 in
theorem wsL_law_r9_good : GoodIn lw_tbl wsL_law_r9 := goodIn_p wsL_law_r9 [175, 178, 181, 457, 461, 185] (by decide +kernel) (by decide +kernel)
set_option maxRecDepth 20000 in
theorem wsL_law_r10_good : GoodIn lw_tbl wsL_law_r10 := goodIn_p wsL_law_r10 [189, 465, 469, 193, 197, 473] (by decide +kernel) (by decide +kernel)
set_option maxRecDepth 20000 in
theorem wsL_law_r11_good : GoodIn lw_tbl wsL_law_r11 := goodIn_p wsL_law_r11 [329, 477, 201, 481] (by decide +kernel) (by decide +kernel)
set_option maxRecDepth 20000 in
theorem wsL_law_r12_good : GoodIn lw_tbl wsL_law_r12 := goodIn_p wsL_law_r12 [205, 209, 485, 213, 217, 221] (by decide +kernel) (by decide +kernel)
set_option maxRecDepth 20000 in
theorem wsL_law_r13_good : GoodIn lw_tbl wsL_law_r13 := goodIn_p wsL_law_r13 [225, 229, 233, 489, 493, 237] (by decide +kernel) (by decide +kernel)
set_option maxRecDepth 20000 in
theorem wsL_law_r14_good : GoodIn lw_tbl wsL_law_r14 := goodIn_p wsL_law_r14 [425, 337, 409] (by decide +kernel) (by decide +kernel)
set_option maxRecDepth 20000 in
theorem wsX00_good : GoodIn lw_tbl wsX00 := goodIn_p wsX00 [] (by decide +kernel) (by decide +kernel)
set_option maxRecDepth 20000 in
theorem wsX10_good : GoodIn lw_tbl wsX10 := goodIn_p wsX10 [] (by decide +kernel) (by decide +kernel)
set_option maxRecDepth 20000 in
theorem wsJx000600_good : GoodIn lw_tbl wsJx000600 := goodIn_p wsJx000600 [] (by decide +kernel) (by decide +kernel)
theorem wsL_law_good : GoodIn lw_tbl wsL_law := goodIn_app (goodIn_app (goodIn_app (goodIn_app (goodIn_app wsL_law_r1_good (goodIn_app wsL_law_r2_good (goodIn_app wsL_law_r3_good (goodIn_app wsL_law_r4_good (goodIn_app wsL_law_r5_good (goodIn_app wsL_law_r6_good (goodIn_app wsL_law_r7_good (goodIn_app wsL_law_r8_good (goodIn_app wsL_law_r9_good (goodIn_app wsL_law_r10_good (goodIn_app wsL_law_r11_good (goodIn_app wsL_law_r12_good (goodIn_app wsL_law_r13_good wsL_law_r14_good))))))))))))) wsX00_good) wsX10_good) wsJx000600_good) (fun _ h => absurd h List.not_mem_nil)
theorem wsL_law_in : ∀ w ∈ wsL_law, w ∈ lw_tbl := fun w h => (wsL_law_good w h).1
theorem inlX0 : ∀ w ∈ wsX00, w ∈ wsL_law := fun _ h => List.mem_append_left _ (List.mem_append_left _ (List.mem_append_left _ (List.mem_append_right _ h)))
theorem inX0 : ∀ w ∈ wsX00, w ∈ lw_tbl := fun w h => wsL_law_in w (inlX0 w h)
theorem inlX1 : ∀ w ∈ wsX10, w ∈ wsL_law := fun _ h => List.mem_append_left _ (List.mem_append_left _ (List.mem_append_right _ h))
theorem inX1 : ∀ w ∈ wsX10, w ∈ lw_tbl := fun w h => wsL_law_in w (inlX1 w h)
theorem inlJx00060 : ∀ w ∈ wsJx000600, w ∈ wsL_law := fun _ h => List.mem_append_left _ (List.mem_append_right _ h)
theorem inJx00060 : ∀ w ∈ wsJx000600, w ∈ lw_tbl := fun w h => wsL_law_in w (inlJx00060 w h)
theorem inJ9 : ∀ w ∈ wsJ90, w ∈ lw_tbl := by decide +kernel
theorem inJ0 : ∀ w ∈ wsJ00, w ∈ lw_tbl := by decide +kernel
theorem inJ7 : ∀ w ∈ wsJ70, w ∈ lw_tbl := by decide +kernel
abbrev vwCl : List vw_C := [(RJx00060, TJx00060, 6), (RX0, TX0, 16), (RX1, TX1, 15)]
/-- one decoded instruction: what, how long, where the next one is -/
def dec (cc : ByteArray) (pc : Nat) (i : Instr) (n pc' : Nat) : Prop := decode cc pc = .ok (i, n) ∧ pc + n = pc'
end
section
/-! THE J LAYER: a walk's state is (pc, locals as a list, stack, world as a list, cells, slots); the heap, the written places and the locals' array are bound inside. -/
def zI (z : Int) : Int32 := Int32.ofInt z
theorem zI_add (a b : Int) : zI a + zI b = zI (a + b) := (Int32.ofInt_add a b).symm
theorem zI_sub (a b : Int) : zI a - zI b = zI (a - b) := (Int32.ofInt_sub a b).symm
theorem zI_mul (a b : Int) : zI a * zI b = zI (a * b) := (Int32.ofInt_mul a b).symm
theorem zI_neg (a : Int) : - zI a = zI (-a) := (Int32.ofInt_neg a).symm
theorem zI_toInt {z : Int} (h : -2147483648 ≤ z ∧ z ≤ 2147483647) : (zI z).toInt = z := by
  unfold zI
  rw [Int32.toInt_ofInt]
  have h5 : Int32.size = 4294967296 := rfl
  rw [h5]
  simp only [Int.bmod_def]
  omega
theorem r0 : (-2147483648 : Int) ≤ 0 ∧ (0 : Int) ≤ 2147483647 := by decide
theorem zI_of (x : Int32) : ∃ z : Int, (-2147483648 ≤ z ∧ z ≤ 2147483647) ∧ x = zI z := by
  refine ⟨x.toInt, ?_, (Int32.ofInt_toInt x).symm⟩
  have h1 := Int32.le_toInt x
  have h2 := Int32.toInt_lt x
  omega
theorem zI_inj {a b : Int} (ha : -2147483648 ≤ a ∧ a ≤ 2147483647) (hb : -2147483648 ≤ b ∧ b ≤ 2147483647) : zI a = zI b ↔ a = b := by
  constructor
  · intro h
    have := congrArg Int32.toInt h
    rw [zI_toInt ha, zI_toInt hb] at this
    exact this
  · intro h; rw [h]
theorem zI_lt {a b : Int} (ha : -2147483648 ≤ a ∧ a ≤ 2147483647) (hb : -2147483648 ≤ b ∧ b ≤ 2147483647) : zI a < zI b ↔ a < b := by
  rw [Int32.lt_iff_toInt_lt, zI_toInt ha, zI_toInt hb]
theorem zI_le {a b : Int} (ha : -2147483648 ≤ a ∧ a ≤ 2147483647) (hb : -2147483648 ≤ b ∧ b ≤ 2147483647) : zI a ≤ zI b ↔ a ≤ b := by
  rw [Int32.le_iff_toInt_le, zI_toInt ha, zI_toInt hb]
theorem zI_0 : zI 0 = 0 := by decide +kernel
theorem zI_nat (n : Nat) : zI (n : Int) = Int32.ofNat n := by
  unfold zI
  exact Int32.ofInt_eq_ofNat ..
theorem zI_clamp {k : Nat} (h : k ≤ 2147483647) : (zI (k : Int)).toNatClampNeg = k := by
  have h1 := zI_toInt (z := (k : Int)) (by omega)
  have h2 : (zI (k : Int)).toNatClampNeg = (zI (k : Int)).toInt.toNat := rfl
  rw [h2, h1]
  exact Int.toNat_natCast k
theorem zI_in {k n : Nat} (h : k < n) (hn : n ≤ 2147483647) : vp_in (zI (k : Int)) n := by
  rw [vp_in_iff, zI_toInt (by omega)]
  omega
theorem zI_toNat (a : Int) : (zI a).toBitVec.toNat = (a % 4294967296).toNat := by
  show (BitVec.ofInt 32 a).toNat = _
  rw [BitVec.toNat_ofInt]
  rfl
theorem zI_and255 (a : Int) : zI a &&& zI 255 = zI (a % 256) := by
  rw [pk_and (zI a) (m := zI 255) 8 (by decide +kernel), zI_toNat, nI, ← zI_nat]
  congr 1
  omega
theorem zI_and15 (a : Int) : zI a &&& zI 15 = zI (a % 16) := by
  rw [pk_and (zI a) (m := zI 15) 4 (by decide +kernel), zI_toNat, nI, ← zI_nat]
  congr 1
  omega
theorem zI_i2b (a : Int) : (zI a).toInt8.toInt32 = zI (Int.bmod a 256) := by
  apply Int32.toInt_inj.mp
  rw [Int8.toInt_toInt32, Int32.toInt_toInt8]
  have h1 : (zI a).toInt = a.bmod 4294967296 := by unfold zI; rw [Int32.toInt_ofInt]
  have h2 : -128 ≤ Int.bmod a 256 ∧ Int.bmod a 256 ≤ 127 := by simp only [Int.bmod_def]; omega
  rw [h1, zI_toInt (z := Int.bmod a 256) (by omega)]
  simp only [Int.bmod_def]
  omega
theorem bmod_byte {v : Int} (h : -128 ≤ v ∧ v ≤ 127) : Int.bmod v 256 = v := by
  simp only [Int.bmod_def]; omega
theorem nar_b {v : Int} (h : -128 ≤ v ∧ v ≤ 127) : vp_nar .byte (zI v) = zI v := by
  rw [vp_nar_byte, zI_i2b, bmod_byte h]
theorem nar_z {v : Int} (h : 0 ≤ v ∧ v ≤ 1) : vp_nar .boolean (zI v) = zI v := by
  have h1 : v = 0 ∨ v = 1 := by omega
  rcases h1 with rfl | rfl <;> decide +kernel
theorem zI_shr5 {z : Int} (h : -2147483648 ≤ z ∧ z ≤ 2147483647) : zI z >>> (zI 5 &&& 31) = zI (z / 32) := by
  apply Int32.toInt_inj.mp
  rw [pk_shr (zI z) (zI 5 &&& 31) 5 (by decide +kernel), zI_toInt h, zI_toInt (by omega), Int.shiftRight_eq_div_pow]
  rfl
theorem zI_div {a b : Int} (ha : -2147483648 ≤ a ∧ a ≤ 2147483647) (hb : 0 < b ∧ b ≤ 2147483647) : zI a / zI b = zI (a.tdiv b) := by
  apply Int32.toInt_inj.mp
  have h1 : (zI a / zI b).toInt = ((zI a).toInt.tdiv (zI b).toInt).bmod (2 ^ 32) := Int32.toInt_div _ _
  rw [h1, zI_toInt ha, zI_toInt (by omega)]
  unfold zI
  rw [Int32.toInt_ofInt]
theorem zI_rem {a b : Int} (ha : -2147483648 ≤ a ∧ a ≤ 2147483647) (hb : 0 < b ∧ b ≤ 2147483647) : zI a - zI a / zI b * zI b = zI (a.tmod b) := by
  rw [zI_div ha hb, zI_mul, zI_sub]
  congr 1
  have := Int.tmod_add_mul_tdiv a b
  have h2 : a.tdiv b * b = b * a.tdiv b := Int.mul_comm _ _
  omega
/-- the locals after a store: in place, or at the end -/
def lput (lv : List (Nat × Value)) (i : Nat) (v : Value) : List (Nat × Value) := if lv.any (fun q => q.1 == i) then lv.map (fun q => if q.1 == i then (i, v) else q) else lv ++ [(i, v)]
theorem lput_mem {lv : List (Nat × Value)} {i : Nat} {v : Value} {q : Nat × Value} (h : q ∈ lput lv i v) : q = (i, v) ∨ (q ∈ lv ∧ q.1 ≠ i) := by
  unfold lput at h
  split at h
  · obtain ⟨a, ha, hq⟩ := List.mem_map.mp h
    by_cases hi : a.1 == i
    · rw [if_pos hi] at hq; exact Or.inl hq.symm
    · rw [if_neg hi] at hq
      subst hq
      exact Or.inr ⟨ha, fun z => hi (by simp [z])⟩
  · rename_i hn
    rcases List.mem_append.mp h with h | h
    · refine Or.inr ⟨h, fun z => hn ?_⟩
      exact List.any_eq_true.mpr ⟨q, h, by simp [z]⟩
    · exact Or.inl (List.mem_singleton.mp h)
theorem lput_has {ls : Array Slot} {nL : Nat} {lv lv' : List (Nat × Value)} {i : Nat} {v : Value} (hc : lv.all (fun q => q.2.category == 1) = true) (hl : lput lv i v = lv') (h : lv_has ls nL ((i, v) :: lv.filter (fun q => !(q.1 == i) && !(q.1 + 1 == i && q.2.category == 2)))) : lv_has ls nL lv' := by
  refine ⟨h.1, h.2.1, fun q hq => h.2.2 q ?_⟩
  rw [← hl] at hq
  rcases lput_mem hq with hq | ⟨hq, hne⟩
  · rw [hq]; exact List.mem_cons_self
  · refine List.mem_cons_of_mem _ (List.mem_filter.mpr ⟨hq, ?_⟩)
    have h1 : q.2.category = 1 := by simpa using List.all_eq_true.mp hc q hq
    simp [hne, h1]
def J (p : Program) (l : Launch) (e : Env) (R : Room) (s : State) (m : MethodId) (args : Array Value) (below : List Frame) (meth : Method) (c : Code) (Q : State → Prop) (nL : Nat) (D : va_G) (cl : List vw_C) (A : Nat → Prop) (pc : Nat) (lv : List (Nat × Value)) (st : List Value) (wd : va_W) (cells slots : Nat) : Prop := ∀ (H : Heap) (locs : List Loc) (ls : Array Slot), lv_has ls nL lv → va_P D cl wd H → va_D A wd → va_S A s.heap H locs → W p l e R s m args below meth c H locs cells slots Q (F0 m pc ls st)
/-- what stays the same through a method's walk -/
def JC (p : Program) (m : MethodId) (c : Code) (cc : ByteArray) (nL : Nat) (s : State) (args : Array Value) (Ts : List Cond) (own : String) (D : va_G) (cl : List vw_C) (tys : List (ClassId × FieldType)) (A : Nat → Prop) : Prop := CallFix p m c cc nL s args Ts own ∧ va_K D cl tys s ∧ ∀ q : Nat, s.heap.size ≤ q → A q
section JR
variable {p : Program} {l : Launch} {e : Env} {R : Room} {s : State} {m : MethodId} {args : Array Value} {below : List Frame} {meth : Method} {c : Code} {Q : State → Prop} {nL : Nat} {D : va_G} {cl : List vw_C} {tys : List (ClassId × FieldType)} {A : Nat → Prop} {cc : ByteArray} {Ts : List Cond} {own : String} {pc pc' : Nat} {lv lv' : List (Nat × Value)} {st : List Value} {wd wd' : va_W} {cells slots : Nat}
theorem j_iconst (C : JC p m c cc nL s args Ts own D cl tys A) {n : Int} (hd : dec cc pc (.iconst n) 1 pc')  (k : J p l e R s m args below meth c Q nL D cl A pc' lv (.int (zI n) :: st) wd cells slots) : J p l e R s m args below meth c Q nL D cl A pc lv st wd cells slots := fun H locs ls hl hP hD hS => lv_iconst C.1.1 C.1.2.1 hd.1 rfl (by exact hd.2 ▸ (k H locs ls hl hP hD hS))
theorem j_bipush (C : JC p m c cc nL s args Ts own D cl tys A) {n : Int} (hd : dec cc pc (.bipush n) 2 pc') (hv : (Int8.ofInt n).toInt32 = zI n) (k : J p l e R s m args below meth c Q nL D cl A pc' lv (.int (zI n) :: st) wd cells slots) : J p l e R s m args below meth c Q nL D cl A pc lv st wd cells slots := fun H locs ls hl hP hD hS => lv_bipush C.1.1 C.1.2.1 hd.1 hv (by exact hd.2 ▸ (k H locs ls hl hP hD hS))
theorem j_sipush (C : JC p m c cc nL s args Ts own D cl tys A) {n : Int} (hd : dec cc pc (.sipush n) 3 pc') (hv : (Int16.ofInt n).toInt32 = zI n) (k : J p l e R s m args below meth c Q nL D cl A pc' lv (.int (zI n) :: st) wd cells slots) : J p l e R s m args below meth c Q nL D cl A pc lv st wd cells slots := fun H locs ls hl hP hD hS => lv_sipush C.1.1 C.1.2.1 hd.1 hv (by exact hd.2 ▸ (k H locs ls hl hP hD hS))
theorem j_iload_n (C : JC p m c cc nL s args Ts own D cl tys A) {i : Fin 4} {x : Int32} (hd : dec cc pc (.iload_n i) 1 pc') (q : Nat) (hq : lv[q]? = some ((i : Nat), .int x)) (k : J p l e R s m args below meth c Q nL D cl A pc' lv (.int x :: st) wd cells slots) : J p l e R s m args below meth c Q nL D cl A pc lv st wd cells slots := fun H locs ls hl hP hD hS => lv_iload_n C.1.1 C.1.2.1 hd.1 rfl (lv_at hl q hq) (by exact hd.2 ▸ (k H locs ls hl hP hD hS))
theorem j_iload (C : JC p m c cc nL s args Ts own D cl tys A) {i : Nat} {x : Int32} (hd : dec cc pc (.iload i) 2 pc') (q : Nat) (hq : lv[q]? = some (i, .int x)) (k : J p l e R s m args below meth c Q nL D cl A pc' lv (.int x :: st) wd cells slots) : J p l e R s m args below meth c Q nL D cl A pc lv st wd cells slots := fun H locs ls hl hP hD hS => lv_iload C.1.1 C.1.2.1 hd.1 (lv_at hl q hq) (by exact hd.2 ▸ (k H locs ls hl hP hD hS))
theorem j_istore_n (C : JC p m c cc nL s args Ts own D cl tys A) {i : Fin 4} {x : Int32} (hd : dec cc pc (.istore_n i) 1 pc') (hc : lv.all (fun q => q.2.category == 1) = true) (hn : (i : Nat) < nL) (hv : lput lv (i : Nat) (.int x) = lv') (k : J p l e R s m args below meth c Q nL D cl A pc' lv' st wd cells slots) : J p l e R s m args below meth c Q nL D cl A pc lv (.int x :: st) wd cells slots := fun H locs ls hl hP hD hS => lv_istore_n C.1.1 C.1.2.1 hd.1 rfl hl hn rfl (fun ls' hl' => by exact hd.2 ▸ k H locs ls' (lput_has hc hv hl') hP hD hS)
theorem j_istore (C : JC p m c cc nL s args Ts own D cl tys A) {i : Nat} {x : Int32} (hd : dec cc pc (.istore i) 2 pc') (hc : lv.all (fun q => q.2.category == 1) = true) (hn : i < nL) (hv : lput lv i (.int x) = lv') (k : J p l e R s m args below meth c Q nL D cl A pc' lv' st wd cells slots) : J p l e R s m args below meth c Q nL D cl A pc lv (.int x :: st) wd cells slots := fun H locs ls hl hP hD hS => lv_istore C.1.1 C.1.2.1 hd.1 hl hn rfl (fun ls' hl' => by exact hd.2 ▸ k H locs ls' (lput_has hc hv hl') hP hD hS)
theorem j_aload_n (C : JC p m c cc nL s args Ts own D cl tys A) {i : Fin 4} {x : Nat} (hd : dec cc pc (.aload_n i) 1 pc') (q : Nat) (hq : lv[q]? = some ((i : Nat), .ref x)) (k : J p l e R s m args below meth c Q nL D cl A pc' lv (.ref x :: st) wd cells slots) : J p l e R s m args below meth c Q nL D cl A pc lv st wd cells slots := fun H locs ls hl hP hD hS => lv_aload_n C.1.1 C.1.2.1 hd.1 rfl (lv_at hl q hq) (by exact hd.2 ▸ (k H locs ls hl hP hD hS))
theorem j_aload (C : JC p m c cc nL s args Ts own D cl tys A) {i : Nat} {x : Nat} (hd : dec cc pc (.aload i) 2 pc') (q : Nat) (hq : lv[q]? = some (i, .ref x)) (k : J p l e R s m args below meth c Q nL D cl A pc' lv (.ref x :: st) wd cells slots) : J p l e R s m args below meth c Q nL D cl A pc lv st wd cells slots := fun H locs ls hl hP hD hS => lv_aload C.1.1 C.1.2.1 hd.1 (lv_at hl q hq) (by exact hd.2 ▸ (k H locs ls hl hP hD hS))
theorem j_astore_n (C : JC p m c cc nL s args Ts own D cl tys A) {i : Fin 4} {x : Nat} (hd : dec cc pc (.astore_n i) 1 pc') (hc : lv.all (fun q => q.2.category == 1) = true) (hn : (i : Nat) < nL) (hv : lput lv (i : Nat) (.ref x) = lv') (k : J p l e R s m args below meth c Q nL D cl A pc' lv' st wd cells slots) : J p l e R s m args below meth c Q nL D cl A pc lv (.ref x :: st) wd cells slots := fun H locs ls hl hP hD hS => lv_astore_n C.1.1 C.1.2.1 hd.1 rfl hl hn rfl (fun ls' hl' => by exact hd.2 ▸ k H locs ls' (lput_has hc hv hl') hP hD hS)
theorem j_astore (C : JC p m c cc nL s args Ts own D cl tys A) {i : Nat} {x : Nat} (hd : dec cc pc (.astore i) 2 pc') (hc : lv.all (fun q => q.2.category == 1) = true) (hn : i < nL) (hv : lput lv i (.ref x) = lv') (k : J p l e R s m args below meth c Q nL D cl A pc' lv' st wd cells slots) : J p l e R s m args below meth c Q nL D cl A pc lv (.ref x :: st) wd cells slots := fun H locs ls hl hP hD hS => lv_astore C.1.1 C.1.2.1 hd.1 hl hn rfl (fun ls' hl' => by exact hd.2 ▸ k H locs ls' (lput_has hc hv hl') hP hD hS)
theorem j_iinc (C : JC p m c cc nL s args Ts own D cl tys A) {i : Nat} {n x : Int} (hd : dec cc pc (.iinc i n) 3 pc') (q : Nat) (hq : lv[q]? = some (i, .int (zI x))) (hc : lv.all (fun q => q.2.category == 1) = true) (hn : i < nL) (hv : lput lv i (.int (zI (x + n))) = lv') (k : J p l e R s m args below meth c Q nL D cl A pc' lv' st wd cells slots) : J p l e R s m args below meth c Q nL D cl A pc lv st wd cells slots := fun H locs ls hl hP hD hS => lv_iinc (v := zI (x + n)) C.1.1 C.1.2.1 hd.1 hl hq (zI_add x n) hn rfl (fun ls' hl' => by exact hd.2 ▸ k H locs ls' (lput_has hc hv hl') hP hD hS)
theorem j_iadd (C : JC p m c cc nL s args Ts own D cl tys A) {a b : Int} (hd : dec cc pc .iadd 1 pc')  (k : J p l e R s m args below meth c Q nL D cl A pc' lv (.int (zI (a + b)) :: st) wd cells slots) : J p l e R s m args below meth c Q nL D cl A pc lv (.int (zI b) :: .int (zI a) :: st) wd cells slots := fun H locs ls hl hP hD hS => lv_iadd C.1.1 C.1.2.1 hd.1 (by rw [zI_add]; exact hd.2 ▸ (k H locs ls hl hP hD hS))
theorem j_isub (C : JC p m c cc nL s args Ts own D cl tys A) {a b : Int} (hd : dec cc pc .isub 1 pc')  (k : J p l e R s m args below meth c Q nL D cl A pc' lv (.int (zI (a - b)) :: st) wd cells slots) : J p l e R s m args below meth c Q nL D cl A pc lv (.int (zI b) :: .int (zI a) :: st) wd cells slots := fun H locs ls hl hP hD hS => lv_isub C.1.1 C.1.2.1 hd.1 (by rw [zI_sub]; exact hd.2 ▸ (k H locs ls hl hP hD hS))
theorem j_imul (C : JC p m c cc nL s args Ts own D cl tys A) {a b : Int} (hd : dec cc pc .imul 1 pc')  (k : J p l e R s m args below meth c Q nL D cl A pc' lv (.int (zI (a * b)) :: st) wd cells slots) : J p l e R s m args below meth c Q nL D cl A pc lv (.int (zI b) :: .int (zI a) :: st) wd cells slots := fun H locs ls hl hP hD hS => lv_imul C.1.1 C.1.2.1 hd.1 (by rw [zI_mul]; exact hd.2 ▸ (k H locs ls hl hP hD hS))
theorem j_ineg (C : JC p m c cc nL s args Ts own D cl tys A) {a : Int} (hd : dec cc pc .ineg 1 pc')  (k : J p l e R s m args below meth c Q nL D cl A pc' lv (.int (zI (-a)) :: st) wd cells slots) : J p l e R s m args below meth c Q nL D cl A pc lv (.int (zI a) :: st) wd cells slots := fun H locs ls hl hP hD hS => lv_ineg C.1.1 C.1.2.1 hd.1 (by rw [zI_neg]; exact hd.2 ▸ (k H locs ls hl hP hD hS))
theorem j_idiv (C : JC p m c cc nL s args Ts own D cl tys A) {a b : Int} (hd : dec cc pc .idiv 1 pc') (ha : (-2147483648 ≤ a ∧ a ≤ 2147483647)) (hb : 0 < b ∧ b ≤ 2147483647) (k : J p l e R s m args below meth c Q nL D cl A pc' lv (.int (zI (a.tdiv b)) :: st) wd cells slots) : J p l e R s m args below meth c Q nL D cl A pc lv (.int (zI b) :: .int (zI a) :: st) wd cells slots := fun H locs ls hl hP hD hS => lv_idiv C.1.1 C.1.2.1 hd.1 (fun z => absurd ((zI_inj (a := b) (b := 0) (by omega) (by omega)).mp (by rw [zI_0]; exact z)) (by omega)) (by rw [zI_div ha hb]; exact hd.2 ▸ (k H locs ls hl hP hD hS))
theorem j_irem (C : JC p m c cc nL s args Ts own D cl tys A) {a b : Int} (hd : dec cc pc .irem 1 pc') (ha : (-2147483648 ≤ a ∧ a ≤ 2147483647)) (hb : 0 < b ∧ b ≤ 2147483647) (k : J p l e R s m args below meth c Q nL D cl A pc' lv (.int (zI (a.tmod b)) :: st) wd cells slots) : J p l e R s m args below meth c Q nL D cl A pc lv (.int (zI b) :: .int (zI a) :: st) wd cells slots := fun H locs ls hl hP hD hS => lv_irem C.1.1 C.1.2.1 hd.1 (fun z => absurd ((zI_inj (a := b) (b := 0) (by omega) (by omega)).mp (by rw [zI_0]; exact z)) (by omega)) (by rw [zI_rem ha hb]; exact hd.2 ▸ (k H locs ls hl hP hD hS))
theorem j_iand (C : JC p m c cc nL s args Ts own D cl tys A) {x y : Int32} (hd : dec cc pc .iand 1 pc')  (k : J p l e R s m args below meth c Q nL D cl A pc' lv (.int (x &&& y) :: st) wd cells slots) : J p l e R s m args below meth c Q nL D cl A pc lv (.int y :: .int x :: st) wd cells slots := fun H locs ls hl hP hD hS => lv_iand C.1.1 C.1.2.1 hd.1 (by exact hd.2 ▸ (k H locs ls hl hP hD hS))
theorem j_ixor (C : JC p m c cc nL s args Ts own D cl tys A) {x y : Int32} (hd : dec cc pc .ixor 1 pc')  (k : J p l e R s m args below meth c Q nL D cl A pc' lv (.int (x ^^^ y) :: st) wd cells slots) : J p l e R s m args below meth c Q nL D cl A pc lv (.int y :: .int x :: st) wd cells slots := fun H locs ls hl hP hD hS => lv_ixor C.1.1 C.1.2.1 hd.1 (by exact hd.2 ▸ (k H locs ls hl hP hD hS))
theorem j_i2b (C : JC p m c cc nL s args Ts own D cl tys A) {x : Int32} (hd : dec cc pc .i2b 1 pc')  (k : J p l e R s m args below meth c Q nL D cl A pc' lv (.int x.toInt8.toInt32 :: st) wd cells slots) : J p l e R s m args below meth c Q nL D cl A pc lv (.int x :: st) wd cells slots := fun H locs ls hl hP hD hS => lv_i2b C.1.1 C.1.2.1 hd.1 rfl (by exact hd.2 ▸ (k H locs ls hl hP hD hS))
theorem j_i2bz (C : JC p m c cc nL s args Ts own D cl tys A) {a : Int} (hd : dec cc pc .i2b 1 pc')  (k : J p l e R s m args below meth c Q nL D cl A pc' lv (.int (zI (Int.bmod a 256)) :: st) wd cells slots) : J p l e R s m args below meth c Q nL D cl A pc lv (.int (zI a) :: st) wd cells slots := fun H locs ls hl hP hD hS => lv_i2b C.1.1 C.1.2.1 hd.1 (zI_i2b a) (by exact hd.2 ▸ (k H locs ls hl hP hD hS))
theorem j_and255 (C : JC p m c cc nL s args Ts own D cl tys A) {a : Int} (hd : dec cc pc .iand 1 pc')  (k : J p l e R s m args below meth c Q nL D cl A pc' lv (.int (zI (a % 256)) :: st) wd cells slots) : J p l e R s m args below meth c Q nL D cl A pc lv (.int (zI 255) :: .int (zI a) :: st) wd cells slots := fun H locs ls hl hP hD hS => lv_iand C.1.1 C.1.2.1 hd.1 (by rw [zI_and255]; exact hd.2 ▸ (k H locs ls hl hP hD hS))
theorem j_and15 (C : JC p m c cc nL s args Ts own D cl tys A) {a : Int} (hd : dec cc pc .iand 1 pc')  (k : J p l e R s m args below meth c Q nL D cl A pc' lv (.int (zI (a % 16)) :: st) wd cells slots) : J p l e R s m args below meth c Q nL D cl A pc lv (.int (zI 15) :: .int (zI a) :: st) wd cells slots := fun H locs ls hl hP hD hS => lv_iand C.1.1 C.1.2.1 hd.1 (by rw [zI_and15]; exact hd.2 ▸ (k H locs ls hl hP hD hS))
theorem j_shr5 (C : JC p m c cc nL s args Ts own D cl tys A) {z : Int} (hd : dec cc pc .ishr 1 pc') (ha : (-2147483648 ≤ z ∧ z ≤ 2147483647)) (k : J p l e R s m args below meth c Q nL D cl A pc' lv (.int (zI (z / 32)) :: st) wd cells slots) : J p l e R s m args below meth c Q nL D cl A pc lv (.int (zI 5) :: .int (zI z) :: st) wd cells slots := fun H locs ls hl hP hD hS => lv_ishr C.1.1 C.1.2.1 hd.1 (by rw [zI_shr5 ha]; exact hd.2 ▸ (k H locs ls hl hP hD hS))
theorem j_dup (C : JC p m c cc nL s args Ts own D cl tys A) {v : Value} (hd : dec cc pc .dup 1 pc') (hv : v.category = 1) (k : J p l e R s m args below meth c Q nL D cl A pc' lv (v :: v :: st) wd cells slots) : J p l e R s m args below meth c Q nL D cl A pc lv (v :: st) wd cells slots := fun H locs ls hl hP hD hS => lv_dup C.1.1 C.1.2.1 hd.1 hv (by exact hd.2 ▸ (k H locs ls hl hP hD hS))
theorem j_pop (C : JC p m c cc nL s args Ts own D cl tys A) {v : Value} (hd : dec cc pc .pop 1 pc') (hv : v.category = 1) (k : J p l e R s m args below meth c Q nL D cl A pc' lv st wd cells slots) : J p l e R s m args below meth c Q nL D cl A pc lv (v :: st) wd cells slots := fun H locs ls hl hP hD hS => lv_pop C.1.1 C.1.2.1 hd.1 hv (by exact hd.2 ▸ (k H locs ls hl hP hD hS))
theorem j_dup_x1 (C : JC p m c cc nL s args Ts own D cl tys A) {v w : Value} (hd : dec cc pc .dup_x1 1 pc') (hv : v.category = 1) (hw : w.category = 1) (k : J p l e R s m args below meth c Q nL D cl A pc' lv (v :: w :: v :: st) wd cells slots) : J p l e R s m args below meth c Q nL D cl A pc lv (v :: w :: st) wd cells slots := fun H locs ls hl hP hD hS => lv_dup_x1 C.1.1 C.1.2.1 hd.1 hv hw (by exact hd.2 ▸ (k H locs ls hl hP hD hS))
theorem j_dup2 (C : JC p m c cc nL s args Ts own D cl tys A) {v w : Value} (hd : dec cc pc .dup2 1 pc') (hv : v.category = 1) (hw : w.category = 1) (k : J p l e R s m args below meth c Q nL D cl A pc' lv (v :: w :: v :: w :: st) wd cells slots) : J p l e R s m args below meth c Q nL D cl A pc lv (v :: w :: st) wd cells slots := fun H locs ls hl hP hD hS => lv_dup2_11 C.1.1 C.1.2.1 hd.1 hv hw (by exact hd.2 ▸ (k H locs ls hl hP hD hS))
theorem j_top {x y : Int32} (h : x = y) (k : J p l e R s m args below meth c Q nL D cl A pc lv (.int y :: st) wd cells slots) : J p l e R s m args below meth c Q nL D cl A pc lv (.int x :: st) wd cells slots := h ▸ k
theorem j_loc (ks : List Nat) (h : lv_pick lv ks = lv') (k : J p l e R s m args below meth c Q nL D cl A pc lv' st wd cells slots) : J p l e R s m args below meth c Q nL D cl A pc lv st wd cells slots := fun H locs ls hl hP hD hS => k H locs ls (lv_sub hl ks h) hP hD hS
theorem j_wd (h : wd = wd') (k : J p l e R s m args below meth c Q nL D cl A pc lv st wd' cells slots) : J p l e R s m args below meth c Q nL D cl A pc lv st wd cells slots := h ▸ k
theorem j_widen {cells' slots' : Nat} (h1 : cells ≤ cells') (h2 : slots ≤ slots') (k : J p l e R s m args below meth c Q nL D cl A pc lv st wd cells' slots') : J p l e R s m args below meth c Q nL D cl A pc lv st wd cells slots := fun H locs ls hl hP hD hS => W.widen h1 h2 (k H locs ls hl hP hD hS)
theorem j_icmp_eq (C : JC p m c cc nL s args Ts own D cl tys A) {a b : Int} {off : Int} (tgt : Nat) (hd : dec cc pc (.if_icmp .eq off) 3 pc') (ht : (pc : Int) + off = (tgt : Int)) (ha : (-2147483648 ≤ a ∧ a ≤ 2147483647)) (hb : (-2147483648 ≤ b ∧ b ≤ 2147483647)) (kt : a = b → J p l e R s m args below meth c Q nL D cl A tgt lv st wd cells slots) (kf : a ≠ b → J p l e R s m args below meth c Q nL D cl A pc' lv st wd cells slots) : J p l e R s m args below meth c Q nL D cl A pc lv (.int (zI b) :: .int (zI a) :: st) wd cells slots := fun H locs ls hl hP hD hS => lv_icmp_eq C.1.1 C.1.2.1 hd.1 ht (fun z => kt ((zI_inj ha hb).mp z) H locs ls hl hP hD hS) (fun z => by exact hd.2 ▸ kf (fun q => z ((zI_inj ha hb).mpr q)) H locs ls hl hP hD hS)
theorem j_if_eq (C : JC p m c cc nL s args Ts own D cl tys A) {a : Int} {off : Int} (tgt : Nat) (hd : dec cc pc (.ifCond .eq off) 3 pc') (ht : (pc : Int) + off = (tgt : Int)) (ha : (-2147483648 ≤ a ∧ a ≤ 2147483647)) (kt : a = 0 → J p l e R s m args below meth c Q nL D cl A tgt lv st wd cells slots) (kf : a ≠ 0 → J p l e R s m args below meth c Q nL D cl A pc' lv st wd cells slots) : J p l e R s m args below meth c Q nL D cl A pc lv (.int (zI a) :: st) wd cells slots := fun H locs ls hl hP hD hS => lv_if_eq C.1.1 C.1.2.1 hd.1 ht (fun z => kt ((zI_inj ha r0).mp (by rw [zI_0]; exact z)) H locs ls hl hP hD hS) (fun z => by exact hd.2 ▸ kf (fun q => z (by rw [← zI_0]; exact (zI_inj ha r0).mpr q)) H locs ls hl hP hD hS)
theorem j_icmp_ne (C : JC p m c cc nL s args Ts own D cl tys A) {a b : Int} {off : Int} (tgt : Nat) (hd : dec cc pc (.if_icmp .ne off) 3 pc') (ht : (pc : Int) + off = (tgt : Int)) (ha : (-2147483648 ≤ a ∧ a ≤ 2147483647)) (hb : (-2147483648 ≤ b ∧ b ≤ 2147483647)) (kt : a ≠ b → J p l e R s m args below meth c Q nL D cl A tgt lv st wd cells slots) (kf : a = b → J p l e R s m args below meth c Q nL D cl A pc' lv st wd cells slots) : J p l e R s m args below meth c Q nL D cl A pc lv (.int (zI b) :: .int (zI a) :: st) wd cells slots := fun H locs ls hl hP hD hS => lv_icmp_ne C.1.1 C.1.2.1 hd.1 ht (fun z => kt (fun q => z ((zI_inj ha hb).mpr q)) H locs ls hl hP hD hS) (fun z => by exact hd.2 ▸ kf ((zI_inj ha hb).mp z) H locs ls hl hP hD hS)
theorem j_if_ne (C : JC p m c cc nL s args Ts own D cl tys A) {a : Int} {off : Int} (tgt : Nat) (hd : dec cc pc (.ifCond .ne off) 3 pc') (ht : (pc : Int) + off = (tgt : Int)) (ha : (-2147483648 ≤ a ∧ a ≤ 2147483647)) (kt : a ≠ 0 → J p l e R s m args below meth c Q nL D cl A tgt lv st wd cells slots) (kf : a = 0 → J p l e R s m args below meth c Q nL D cl A pc' lv st wd cells slots) : J p l e R s m args below meth c Q nL D cl A pc lv (.int (zI a) :: st) wd cells slots := fun H locs ls hl hP hD hS => lv_if_ne C.1.1 C.1.2.1 hd.1 ht (fun z => kt (fun q => z (by rw [← zI_0]; exact (zI_inj ha r0).mpr q)) H locs ls hl hP hD hS) (fun z => by exact hd.2 ▸ kf ((zI_inj ha r0).mp (by rw [zI_0]; exact z)) H locs ls hl hP hD hS)
theorem j_icmp_lt (C : JC p m c cc nL s args Ts own D cl tys A) {a b : Int} {off : Int} (tgt : Nat) (hd : dec cc pc (.if_icmp .lt off) 3 pc') (ht : (pc : Int) + off = (tgt : Int)) (ha : (-2147483648 ≤ a ∧ a ≤ 2147483647)) (hb : (-2147483648 ≤ b ∧ b ≤ 2147483647)) (kt : a < b → J p l e R s m args below meth c Q nL D cl A tgt lv st wd cells slots) (kf : b ≤ a → J p l e R s m args below meth c Q nL D cl A pc' lv st wd cells slots) : J p l e R s m args below meth c Q nL D cl A pc lv (.int (zI b) :: .int (zI a) :: st) wd cells slots := fun H locs ls hl hP hD hS => lv_icmp_lt C.1.1 C.1.2.1 hd.1 ht (fun z => kt ((zI_lt ha hb).mp z) H locs ls hl hP hD hS) (fun z => by exact hd.2 ▸ kf (by have := mt (zI_lt ha hb).mpr z; omega) H locs ls hl hP hD hS)
theorem j_if_lt (C : JC p m c cc nL s args Ts own D cl tys A) {a : Int} {off : Int} (tgt : Nat) (hd : dec cc pc (.ifCond .lt off) 3 pc') (ht : (pc : Int) + off = (tgt : Int)) (ha : (-2147483648 ≤ a ∧ a ≤ 2147483647)) (kt : a < 0 → J p l e R s m args below meth c Q nL D cl A tgt lv st wd cells slots) (kf : 0 ≤ a → J p l e R s m args below meth c Q nL D cl A pc' lv st wd cells slots) : J p l e R s m args below meth c Q nL D cl A pc lv (.int (zI a) :: st) wd cells slots := fun H locs ls hl hP hD hS => lv_if_lt C.1.1 C.1.2.1 hd.1 ht (fun z => kt ((zI_lt ha r0).mp (by rw [zI_0]; exact z)) H locs ls hl hP hD hS) (fun z => by exact hd.2 ▸ kf (by have := mt (zI_lt ha r0).mpr (by rw [zI_0]; exact z); omega) H locs ls hl hP hD hS)
theorem j_icmp_ge (C : JC p m c cc nL s args Ts own D cl tys A) {a b : Int} {off : Int} (tgt : Nat) (hd : dec cc pc (.if_icmp .ge off) 3 pc') (ht : (pc : Int) + off = (tgt : Int)) (ha : (-2147483648 ≤ a ∧ a ≤ 2147483647)) (hb : (-2147483648 ≤ b ∧ b ≤ 2147483647)) (kt : b ≤ a → J p l e R s m args below meth c Q nL D cl A tgt lv st wd cells slots) (kf : a < b → J p l e R s m args below meth c Q nL D cl A pc' lv st wd cells slots) : J p l e R s m args below meth c Q nL D cl A pc lv (.int (zI b) :: .int (zI a) :: st) wd cells slots := fun H locs ls hl hP hD hS => lv_icmp_ge C.1.1 C.1.2.1 hd.1 ht (fun z => kt ((zI_le hb ha).mp z) H locs ls hl hP hD hS) (fun z => by exact hd.2 ▸ kf (by have := mt (zI_le hb ha).mpr z; omega) H locs ls hl hP hD hS)
theorem j_if_ge (C : JC p m c cc nL s args Ts own D cl tys A) {a : Int} {off : Int} (tgt : Nat) (hd : dec cc pc (.ifCond .ge off) 3 pc') (ht : (pc : Int) + off = (tgt : Int)) (ha : (-2147483648 ≤ a ∧ a ≤ 2147483647)) (kt : 0 ≤ a → J p l e R s m args below meth c Q nL D cl A tgt lv st wd cells slots) (kf : a < 0 → J p l e R s m args below meth c Q nL D cl A pc' lv st wd cells slots) : J p l e R s m args below meth c Q nL D cl A pc lv (.int (zI a) :: st) wd cells slots := fun H locs ls hl hP hD hS => lv_if_ge C.1.1 C.1.2.1 hd.1 ht (fun z => kt ((zI_le r0 ha).mp (by rw [zI_0]; exact z)) H locs ls hl hP hD hS) (fun z => by exact hd.2 ▸ kf (by have := mt (zI_le r0 ha).mpr (by rw [zI_0]; exact z); omega) H locs ls hl hP hD hS)
theorem j_icmp_gt (C : JC p m c cc nL s args Ts own D cl tys A) {a b : Int} {off : Int} (tgt : Nat) (hd : dec cc pc (.if_icmp .gt off) 3 pc') (ht : (pc : Int) + off = (tgt : Int)) (ha : (-2147483648 ≤ a ∧ a ≤ 2147483647)) (hb : (-2147483648 ≤ b ∧ b ≤ 2147483647)) (kt : b < a → J p l e R s m args below meth c Q nL D cl A tgt lv st wd cells slots) (kf : a ≤ b → J p l e R s m args below meth c Q nL D cl A pc' lv st wd cells slots) : J p l e R s m args below meth c Q nL D cl A pc lv (.int (zI b) :: .int (zI a) :: st) wd cells slots := fun H locs ls hl hP hD hS => lv_icmp_gt C.1.1 C.1.2.1 hd.1 ht (fun z => kt ((zI_lt hb ha).mp z) H locs ls hl hP hD hS) (fun z => by exact hd.2 ▸ kf (by have := mt (zI_lt hb ha).mpr z; omega) H locs ls hl hP hD hS)
theorem j_if_gt (C : JC p m c cc nL s args Ts own D cl tys A) {a : Int} {off : Int} (tgt : Nat) (hd : dec cc pc (.ifCond .gt off) 3 pc') (ht : (pc : Int) + off = (tgt : Int)) (ha : (-2147483648 ≤ a ∧ a ≤ 2147483647)) (kt : 0 < a → J p l e R s m args below meth c Q nL D cl A tgt lv st wd cells slots) (kf : a ≤ 0 → J p l e R s m args below meth c Q nL D cl A pc' lv st wd cells slots) : J p l e R s m args below meth c Q nL D cl A pc lv (.int (zI a) :: st) wd cells slots := fun H locs ls hl hP hD hS => lv_if_gt C.1.1 C.1.2.1 hd.1 ht (fun z => kt ((zI_lt r0 ha).mp (by rw [zI_0]; exact z)) H locs ls hl hP hD hS) (fun z => by exact hd.2 ▸ kf (by have := mt (zI_lt r0 ha).mpr (by rw [zI_0]; exact z); omega) H locs ls hl hP hD hS)
theorem j_icmp_le (C : JC p m c cc nL s args Ts own D cl tys A) {a b : Int} {off : Int} (tgt : Nat) (hd : dec cc pc (.if_icmp .le off) 3 pc') (ht : (pc : Int) + off = (tgt : Int)) (ha : (-2147483648 ≤ a ∧ a ≤ 2147483647)) (hb : (-2147483648 ≤ b ∧ b ≤ 2147483647)) (kt : a ≤ b → J p l e R s m args below meth c Q nL D cl A tgt lv st wd cells slots) (kf : b < a → J p l e R s m args below meth c Q nL D cl A pc' lv st wd cells slots) : J p l e R s m args below meth c Q nL D cl A pc lv (.int (zI b) :: .int (zI a) :: st) wd cells slots := fun H locs ls hl hP hD hS => lv_icmp_le C.1.1 C.1.2.1 hd.1 ht (fun z => kt ((zI_le ha hb).mp z) H locs ls hl hP hD hS) (fun z => by exact hd.2 ▸ kf (by have := mt (zI_le ha hb).mpr z; omega) H locs ls hl hP hD hS)
theorem j_if_le (C : JC p m c cc nL s args Ts own D cl tys A) {a : Int} {off : Int} (tgt : Nat) (hd : dec cc pc (.ifCond .le off) 3 pc') (ht : (pc : Int) + off = (tgt : Int)) (ha : (-2147483648 ≤ a ∧ a ≤ 2147483647)) (kt : a ≤ 0 → J p l e R s m args below meth c Q nL D cl A tgt lv st wd cells slots) (kf : 0 < a → J p l e R s m args below meth c Q nL D cl A pc' lv st wd cells slots) : J p l e R s m args below meth c Q nL D cl A pc lv (.int (zI a) :: st) wd cells slots := fun H locs ls hl hP hD hS => lv_if_le C.1.1 C.1.2.1 hd.1 ht (fun z => kt ((zI_le ha r0).mp (by rw [zI_0]; exact z)) H locs ls hl hP hD hS) (fun z => by exact hd.2 ▸ kf (by have := mt (zI_le ha r0).mpr (by rw [zI_0]; exact z); omega) H locs ls hl hP hD hS)
theorem j_goto (C : JC p m c cc nL s args Ts own D cl tys A) {off : Int} (tgt : Nat) (hd : dec cc pc (.goto off) 3 pc') (ht : (pc : Int) + off = (tgt : Int)) (k : J p l e R s m args below meth c Q nL D cl A tgt lv st wd cells slots) : J p l e R s m args below meth c Q nL D cl A pc lv st wd cells slots := fun H locs ls hl hP hD hS => lv_goto C.1.1 C.1.2.1 hd.1 ht (k H locs ls hl hP hD hS)
theorem j_getf (C : JC p m c cc nL s args Ts own D cl tys A) {ref Cn : String} {T : u_T} {N ci index a : Nat} {fs : List Value} {v : Value} (hin : ∀ w ∈ u_ws Cn T N, w ∈ Ts) (q0 : Nat) (he : wd[q0]? = some (a, .inr (ci, fs))) (hc : cl[ci]? = some (Cn, T, N)) (f : Nat) (hf : f < N) (hlink : Cond.fieldLink own index ref (T f).2.1 (T f).2.2.1 ∈ Ts) (hsame : (T f).1 = ref) (hv : fs[f]? = some v) (hd : dec cc pc (.getfield index) 3 pc') (k : J p l e R s m args below meth c Q nL D cl A pc' lv (v :: st) wd cells slots) : J p l e R s m args below meth c Q nL D cl A pc lv (.ref a :: st) wd cells slots := fun H locs ls hl hP hD hS => va_get C.1.1 C.1.2.1 C.1.2.2.2.2 hin C.1.2.2.2.1 C.2.1 hP q0 he hc f hf (C.1.2.2.2.2 _ hlink) (fun _ h => by rw [← hsame]; exact h) hv hd.1 (by exact hd.2 ▸ k H locs ls hl hP hD hS)
theorem j_putf (C : JC p m c cc nL s args Ts own D cl tys A) {ref Cn : String} {T : u_T} {N ci index a : Nat} {fs : List Value} {v : Value} {ty : FieldType} (hin : ∀ w ∈ u_ws Cn T N, w ∈ Ts) (ty0 : Nat → FieldType) (hty : ∀ k, k < N → parseFieldDescriptor (T k).2.2.1 = some (ty0 k)) (hnm : ∀ a, a < N → ∀ b, b < N → a ≠ b → (T a).2.1 ≠ (T b).2.1) (q0 : Nat) (he : wd[q0]? = some (a, .inr (ci, fs))) (hc : cl[ci]? = some (Cn, T, N)) (f : Nat) (hf : f < N) (hlink : Cond.fieldLink own index ref (T f).2.1 (T f).2.2.1 ∈ Ts) (hsame : (T f).1 = ref) (hfin : (T f).2.2.2 = false) (hdsc : parseFieldDescriptor (T f).2.2.1 = some ty) (hn : narrow ty v = v) (hfit : fits ty v = true) (hlen : f < fs.length) (hd : dec cc pc (.putfield index) 3 pc') (hw : wd.set q0 (a, .inr (ci, fs.set f v)) = wd') (k : J p l e R s m args below meth c Q nL D cl A pc' lv st wd' cells slots) : J p l e R s m args below meth c Q nL D cl A pc lv (v :: .ref a :: st) wd cells slots := fun H locs ls hl hP hD hS => va_put C.1.1 C.1.2.1 C.1.2.2.2.2 hin ty0 hty hnm C.1.2.2.2.1 C.2.1 hP hD hS q0 he hc f hf (C.1.2.2.2.2 _ hlink) (fun _ h => by rw [← hsame]; exact h) hfin hdsc hn hfit hlen hd.1 (fun H1 locs1 hP1 hD1 hS1 => by rw [hw] at hP1 hD1; exact hd.2 ▸ k H1 locs1 ls hl hP1 hD1 hS1)
theorem j_putF (C : JC p m c cc nL s args Ts own D cl tys A) {ref Cn : String} {T : u_T} {N ci index a : Nat} {fs : List Value} {v : Value} {ty : FieldType} (hin : ∀ w ∈ u_ws Cn T N, w ∈ Ts) (ty0 : Nat → FieldType) (hty : ∀ k, k < N → parseFieldDescriptor (T k).2.2.1 = some (ty0 k)) (hnm : ∀ a, a < N → ∀ b, b < N → a ≠ b → (T a).2.1 ≠ (T b).2.1) (q0 : Nat) (he : wd[q0]? = some (a, .inr (ci, fs))) (hc : cl[ci]? = some (Cn, T, N)) (f : Nat) (hf : f < N) (hlink : Cond.fieldLink own index ref (T f).2.1 (T f).2.2.1 ∈ Ts) (hsame : (T f).1 = ref) (hfin : (T f).2.2.2 = true) (hin2 : meth.name = "<init>") (hdecl : (T f).1 = own) (hdsc : parseFieldDescriptor (T f).2.2.1 = some ty) (hn : narrow ty v = v) (hfit : fits ty v = true) (hlen : f < fs.length) (hd : dec cc pc (.putfield index) 3 pc') (hw : wd.set q0 (a, .inr (ci, fs.set f v)) = wd') (k : J p l e R s m args below meth c Q nL D cl A pc' lv st wd' cells slots) : J p l e R s m args below meth c Q nL D cl A pc lv (v :: .ref a :: st) wd cells slots := fun H locs ls hl hP hD hS => va_putF C.1.1 C.1.2.1 C.1.2.2.2.2 hin ty0 hty hnm C.1.2.2.2.1 C.2.1 hP hD hS q0 he hc f hf (C.1.2.2.2.2 _ hlink) (fun _ h => by rw [← hsame]; exact h) hfin hin2 hdecl hdsc hn hfit hlen hd.1 (fun H1 locs1 hP1 hD1 hS1 => by rw [hw] at hP1 hD1; exact hd.2 ▸ k H1 locs1 ls hl hP1 hD1 hS1)
/-- an array cell whose contents are read off a function to Int -/
abbrev zA (cA : ClassId) (n : Nat) (g : Nat → Int) : va_E := .inl (cA, n, .inl (fun k => zI (g k)))
def zup (g : Nat → Int) (k : Nat) (v : Int) : Nat → Int := fun j => if j = k then v else g j
theorem zup_s {g : Nat → Int} {k : Nat} {v : Int} : zup g k v k = v := if_pos rfl
theorem zup_n {g : Nat → Int} {k j : Nat} {v : Int} (h : j ≠ k) : zup g k v j = g j := if_neg h
theorem zup_upd (g : Nat → Int) (k : Nat) (v : Int) : upd (fun j => zI (g j)) k (zI v) = fun j => zI (zup g k v j) := by
  funext j
  by_cases h : j = k
  · subst h; simp [upd, zup]
  · simp [upd, zup, h]
theorem j_iald (C : JC p m c cc nL s args Ts own D cl tys A) {a n : Nat} {cA : ClassId} {g : Nat → Int} {z : Int} (q0 t0 : Nat) (ha : wd[q0]? = some (a, zA cA n g)) (ht : tys[t0]? = some (cA, .int)) (i : Nat) (hz : z = (i : Int)) (hi : i < n) (hn : n ≤ 2147483647) (hd : dec cc pc .iaload 1 pc') (k : J p l e R s m args below meth c Q nL D cl A pc' lv (.int (zI (g i)) :: st) wd cells slots) : J p l e R s m args below meth c Q nL D cl A pc lv (.int (zI z) :: .ref a :: st) wd cells slots := by
  subst hz
  intro H locs ls hl hP hD hS
  refine va_iald C.1.1 C.1.2.1 C.2.1 hP q0 t0 ha ht (zI_in hi hn) hd.1 ?_
  rw [zI_clamp (by omega)]
  exact hd.2 ▸ k H locs ls hl hP hD hS
theorem j_bald (C : JC p m c cc nL s args Ts own D cl tys A) {a n : Nat} {cA : ClassId} {g : Nat → Int} {z : Int} (q0 t0 : Nat) (ha : wd[q0]? = some (a, zA cA n g)) (ht : tys[t0]? = some (cA, .byte)) (i : Nat) (hz : z = (i : Int)) (hi : i < n) (hn : n ≤ 2147483647) (hd : dec cc pc .baload 1 pc') (k : J p l e R s m args below meth c Q nL D cl A pc' lv (.int (zI (g i)) :: st) wd cells slots) : J p l e R s m args below meth c Q nL D cl A pc lv (.int (zI z) :: .ref a :: st) wd cells slots := by
  subst hz
  intro H locs ls hl hP hD hS
  refine va_bald C.1.1 C.1.2.1 C.2.1 hP q0 t0 ha ht (zI_in hi hn) hd.1 ?_
  rw [zI_clamp (by omega)]
  exact hd.2 ▸ k H locs ls hl hP hD hS
theorem j_zald (C : JC p m c cc nL s args Ts own D cl tys A) {a n : Nat} {cA : ClassId} {g : Nat → Int} {z : Int} (q0 t0 : Nat) (ha : wd[q0]? = some (a, zA cA n g)) (ht : tys[t0]? = some (cA, .boolean)) (i : Nat) (hz : z = (i : Int)) (hi : i < n) (hn : n ≤ 2147483647) (hd : dec cc pc .baload 1 pc') (k : J p l e R s m args below meth c Q nL D cl A pc' lv (.int (zI (g i)) :: st) wd cells slots) : J p l e R s m args below meth c Q nL D cl A pc lv (.int (zI z) :: .ref a :: st) wd cells slots := by
  subst hz
  intro H locs ls hl hP hD hS
  refine va_zald C.1.1 C.1.2.1 C.2.1 hP q0 t0 ha ht (zI_in hi hn) hd.1 ?_
  rw [zI_clamp (by omega)]
  exact hd.2 ▸ k H locs ls hl hP hD hS
theorem j_iast (C : JC p m c cc nL s args Ts own D cl tys A) {a n : Nat} {cA : ClassId} {g : Nat → Int} {z v : Int} (q0 t0 : Nat) (ha : wd[q0]? = some (a, zA cA n g)) (ht : tys[t0]? = some (cA, .int)) (i : Nat) (hz : z = (i : Int)) (hi : i < n) (hn : n ≤ 2147483647) (hd : dec cc pc .iastore 1 pc') (hw : wd.set q0 (a, zA cA n (zup g i v)) = wd') (k : J p l e R s m args below meth c Q nL D cl A pc' lv st wd' cells slots) : J p l e R s m args below meth c Q nL D cl A pc lv (.int (zI v) :: .int (zI z) :: .ref a :: st) wd cells slots := by
  subst hz
  intro H locs ls hl hP hD hS
  refine va_iast C.1.1 C.1.2.1 C.2.1 hP hD hS q0 t0 ha ht (zI_in hi hn) hd.1 (fun H1 locs1 hP1 hD1 hS1 => ?_)
  rw [zI_clamp (by omega), zup_upd, hw] at hP1 hD1
  exact hd.2 ▸ k H1 locs1 ls hl hP1 hD1 hS1
theorem j_bast (C : JC p m c cc nL s args Ts own D cl tys A) {a n : Nat} {cA : ClassId} {g : Nat → Int} {z v : Int} (q0 t0 : Nat) (ha : wd[q0]? = some (a, zA cA n g)) (ht : tys[t0]? = some (cA, .byte)) (i : Nat) (hz : z = (i : Int)) (hi : i < n) (hn : n ≤ 2147483647) (hv : vp_nar .byte (zI v) = zI v) (hd : dec cc pc .bastore 1 pc') (hw : wd.set q0 (a, zA cA n (zup g i v)) = wd') (k : J p l e R s m args below meth c Q nL D cl A pc' lv st wd' cells slots) : J p l e R s m args below meth c Q nL D cl A pc lv (.int (zI v) :: .int (zI z) :: .ref a :: st) wd cells slots := by
  subst hz
  intro H locs ls hl hP hD hS
  refine va_bast C.1.1 C.1.2.1 C.2.1 hP hD hS q0 t0 ha ht (zI_in hi hn) hd.1 (fun H1 locs1 hP1 hD1 hS1 => ?_)
  rw [zI_clamp (by omega), hv, zup_upd, hw] at hP1 hD1
  exact hd.2 ▸ k H1 locs1 ls hl hP1 hD1 hS1
theorem j_zast (C : JC p m c cc nL s args Ts own D cl tys A) {a n : Nat} {cA : ClassId} {g : Nat → Int} {z v : Int} (q0 t0 : Nat) (ha : wd[q0]? = some (a, zA cA n g)) (ht : tys[t0]? = some (cA, .boolean)) (i : Nat) (hz : z = (i : Int)) (hi : i < n) (hn : n ≤ 2147483647) (hv : vp_nar .boolean (zI v) = zI v) (hd : dec cc pc .bastore 1 pc') (hw : wd.set q0 (a, zA cA n (zup g i v)) = wd') (k : J p l e R s m args below meth c Q nL D cl A pc' lv st wd' cells slots) : J p l e R s m args below meth c Q nL D cl A pc lv (.int (zI v) :: .int (zI z) :: .ref a :: st) wd cells slots := by
  subst hz
  intro H locs ls hl hP hD hS
  refine va_zast C.1.1 C.1.2.1 C.2.1 hP hD hS q0 t0 ha ht (zI_in hi hn) hd.1 (fun H1 locs1 hP1 hD1 hS1 => ?_)
  rw [zI_clamp (by omega), hv, zup_upd, hw] at hP1 hD1
  exact hd.2 ▸ k H1 locs1 ls hl hP1 hD1 hS1
theorem j_alen (C : JC p m c cc nL s args Ts own D cl tys A) {a n : Nat} {cA : ClassId} {g : Nat → Int} {ty : FieldType} (q0 t0 : Nat) (ha : wd[q0]? = some (a, zA cA n g)) (ht : tys[t0]? = some (cA, ty)) (hd : dec cc pc .arraylength 1 pc') (k : J p l e R s m args below meth c Q nL D cl A pc' lv (.int (zI (n : Int)) :: st) wd cells slots) : J p l e R s m args below meth c Q nL D cl A pc lv (.ref a :: st) wd cells slots := fun H locs ls hl hP hD hS => va_alen C.1.1 C.1.2.1 C.2.1 hP q0 t0 ha ht (zI_nat n).symm hd.1 (by exact hd.2 ▸ k H locs ls hl hP hD hS)
end JR
end
section
/-! contracts: from the world w0 with arguments av: the answer and the world behind it are as 'post' says -/
def mPre (D : va_G) (cl : List vw_C) (tys : List (ClassId × FieldType)) (av : List Value) (w0 : va_W) (sz : Nat) : Array Value → State → Prop := va_Pc av (fun U => U.heap.size = sz ∧ va_P D cl w0 U.heap ∧ va_K D cl tys U ∧ va_D (fun _ => True) w0)
def mEnd (D : va_G) (cl : List vw_C) (tys : List (ClassId × FieldType)) (w0 : va_W) (sz : Nat) (w1 : va_W) (t : State) : Prop := va_P D cl w1 t.heap ∧ va_K D cl tys t ∧ va_D (va_A w0 sz) w1
def mQI (D : va_G) (cl : List vw_C) (tys : List (ClassId × FieldType)) (w0 : va_W) (sz : Nat) (post : Int → va_W → Prop) : Array Value → State → Outcome → State → Prop := va_Qi (fun r w1 => ∃ z : Int, r = zI z ∧ post z w1) (fun w1 t => mEnd D cl tys w0 sz w1 t) (va_A w0 sz)
def mQV (D : va_G) (cl : List vw_C) (tys : List (ClassId × FieldType)) (w0 : va_W) (sz : Nat) (post : va_W → Prop) : Array Value → State → Outcome → State → Prop := va_Qv (fun w1 => post w1) (fun w1 t => mEnd D cl tys w0 sz w1 t) (va_A w0 sz)
def mI (l : Launch) (y : MethodName) (ws : List Cond) (rm : Room) (D : va_G) (cl : List vw_C) (tys : List (ClassId × FieldType)) (av : List Value) (w0 : va_W) (mc ms : Nat) (post : Int → va_W → Prop) : Prop := ∀ sz : Nat, Met l y ws rm (mPre D cl tys av w0 sz) (mQI D cl tys w0 sz post) mc ms (va_A w0 sz)
def mV (l : Launch) (y : MethodName) (ws : List Cond) (rm : Room) (D : va_G) (cl : List vw_C) (tys : List (ClassId × FieldType)) (av : List Value) (w0 : va_W) (mc ms : Nat) (post : va_W → Prop) : Prop := ∀ sz : Nat, Met l y ws rm (mPre D cl tys av w0 sz) (mQV D cl tys w0 sz post) mc ms (va_A w0 sz)
theorem mPre_blind {D : va_G} {cl : List vw_C} {tys : List (ClassId × FieldType)} {av : List Value} {w0 : va_W} {sz : Nat} : FrameBlind (mPre D cl tys av w0 sz) := fun a U g mk q => by
  obtain ⟨q0, q1, qP, qK, qD⟩ := q
  exact ⟨q0, q1, qP, va_K.moved (u := U) (U := U.calling g mk a) (Vm.Alike.refl U.vm) qK, qD⟩
theorem sub_fm {wd wc : va_W} {is : List Nat} (h : is.map (fun i => wd[i]?) = wc.map some) : is.filterMap (fun i => wd[i]?) = wc := by
  have h1 : is.filterMap (fun i => wd[i]?) = (is.map (fun i => wd[i]?)).filterMap id := by rw [List.filterMap_map]; rfl
  rw [h1, h, List.filterMap_map]
  simp
theorem mI_of {l : Launch} {D : va_G} {cl : List vw_C} {tys : List (ClassId × FieldType)} {y : MethodName} {ws ws' : List Cond} {rm : Room} {av : List Value} {w0 : va_W} {mc ms : Nat} {post : Int → va_W → Prop} {cc : ByteArray} {maxL : Nat} {rt : FieldType} (hy : plainName y.cls = true) (hw : ws = Cond.code y cc maxL (some rt) :: ws') (hlen : (lg_sl av).length ≤ maxL)
    (body : ∀ (p : Program) (e : Env) (s : State) (m : MethodId) (args : Array Value) (below : List Frame) (meth : Method) (c : Code), JC p m c cc maxL s args ws y.cls D cl tys (va_A w0 s.heap.size) → meth.sig.returnType = (some rt) → meth.locks = false → meth.name = y.name → J p l e (headSpec ws rm).room s m args below meth c (MQ below (mQI D cl tys w0 s.heap.size post) args s mc ms (va_A w0 s.heap.size)) maxL D cl (va_A w0 s.heap.size) 0 (lv_args 0 av) [] w0 0 0) : mI l y ws rm D cl tys av w0 mc ms post := by
  intro sz
  refine Met.ofW (cc := cc) (maxL := maxL) (ret := (some rt)) hy hw ?_
  intro p e s m args below meth c s₁ B hml hv
  obtain ⟨ha, hsz, hP, hK, hD0⟩ := hv
  subst hsz
  have hts := atoms_spec (ws := ws) B.pre
  have hown : s.vm.findClass y.cls = some m.cls := findClass_of_methodNamed B.named
  have hb := body p e s m args below meth c ⟨⟨B.exec, B.bytes, hml, hown, hts⟩, hK, fun q h => Or.inr h⟩ B.returns B.notSynchronized (name_of_methodNamed B.named B.method).1
  have hl := lv_entry av (n := maxL) hlen
  subst ha
  rw [lg_entry_eq]
  exact hb s.heap [] _ hl hP hD0.self va_S.rf
theorem mV_of {l : Launch} {D : va_G} {cl : List vw_C} {tys : List (ClassId × FieldType)} {y : MethodName} {ws ws' : List Cond} {rm : Room} {av : List Value} {w0 : va_W} {mc ms : Nat} {post : va_W → Prop} {cc : ByteArray} {maxL : Nat} (hy : plainName y.cls = true) (hw : ws = Cond.code y cc maxL none :: ws') (hlen : (lg_sl av).length ≤ maxL)
    (body : ∀ (p : Program) (e : Env) (s : State) (m : MethodId) (args : Array Value) (below : List Frame) (meth : Method) (c : Code), JC p m c cc maxL s args ws y.cls D cl tys (va_A w0 s.heap.size) → meth.sig.returnType = none → meth.locks = false → meth.name = y.name → J p l e (headSpec ws rm).room s m args below meth c (MQ below (mQV D cl tys w0 s.heap.size post) args s mc ms (va_A w0 s.heap.size)) maxL D cl (va_A w0 s.heap.size) 0 (lv_args 0 av) [] w0 0 0) : mV l y ws rm D cl tys av w0 mc ms post := by
  intro sz
  refine Met.ofW (cc := cc) (maxL := maxL) (ret := none) hy hw ?_
  intro p e s m args below meth c s₁ B hml hv
  obtain ⟨ha, hsz, hP, hK, hD0⟩ := hv
  subst hsz
  have hts := atoms_spec (ws := ws) B.pre
  have hown : s.vm.findClass y.cls = some m.cls := findClass_of_methodNamed B.named
  have hb := body p e s m args below meth c ⟨⟨B.exec, B.bytes, hml, hown, hts⟩, hK, fun q h => Or.inr h⟩ B.returns B.notSynchronized (name_of_methodNamed B.named B.method).1
  have hl := lv_entry av (n := maxL) hlen
  subst ha
  rw [lg_entry_eq]
  exact hb s.heap [] _ hl hP hD0.self va_S.rf
section JR2
variable {p : Program} {l : Launch} {e : Env} {R : Room} {s : State} {m : MethodId} {args : Array Value} {below : List Frame} {meth : Method} {c : Code} {Q : State → Prop} {nL : Nat} {D : va_G} {cl : List vw_C} {tys : List (ClassId × FieldType)} {A : Nat → Prop} {cc : ByteArray} {Ts : List Cond} {own : String} {pc pc' : Nat} {lv lv' : List (Nat × Value)} {st : List Value} {wd wd' : va_W} {cells slots : Nat}
theorem j_iret {w0 : va_W} {post : Int → va_W → Prop} (C : JC p m c cc nL s args Ts own D cl tys (va_A w0 s.heap.size)) {rt : FieldType} {z : Int} (hr : meth.sig.returnType = some rt) (hlocks : meth.locks = false) (hn : narrow rt (.int (zI z)) = .int (zI z)) (hd : dec cc pc .ireturn 1 pc') (hp : post z wd) : J p l e R s m args below meth c (MQ below (mQI D cl tys w0 s.heap.size post) args s cells slots (va_A w0 s.heap.size)) nL D cl (va_A w0 s.heap.size) pc lv ([.int (zI z)]) wd cells slots := fun H locs ls hl hP hD hS => W.zret C.1.1 C.1.2.1 hr hn (fun t ht hW => ⟨⟨zI z, wd, rfl, ⟨z, rfl, hp⟩, by rw [ht]; exact hP, va_K.moved hW.alike C.2.1, hD⟩, hS.F ht⟩) hS.2.2 hd.1 hlocks
theorem j_vret {w0 : va_W} {post : va_W → Prop} (C : JC p m c cc nL s args Ts own D cl tys (va_A w0 s.heap.size)) (hr : meth.sig.returnType = none) (hlocks : meth.locks = false) (hd : dec cc pc .return_ 1 pc') (hp : post wd) : J p l e R s m args below meth c (MQ below (mQV D cl tys w0 s.heap.size post) args s cells slots (va_A w0 s.heap.size)) nL D cl (va_A w0 s.heap.size) pc lv ([]) wd cells slots := fun H locs ls hl hP hD hS => W.vret C.1.1 C.1.2.1 hr (fun t ht hW => ⟨⟨wd, rfl, hp, by rw [ht]; exact hP, va_K.moved hW.alike C.2.1, hD⟩, hS.F ht⟩) hS.2.2 hd.1 hlocks
theorem j_perm (is : List Nat) (hn : va_nd is = true) (h : is.map (fun i => wd[i]?) = wd'.map some) (k : J p l e R s m args below meth c Q nL D cl A pc lv st wd' cells slots) : J p l e R s m args below meth c Q nL D cl A pc lv st wd cells slots := fun H locs ls hl hP hD hS => k H locs ls hl (hP.sub is (sub_fm h)) (hD.sub is hn h) hS
theorem j_eq {st' : List Value} (h1 : lv = lv') (h2 : st = st') (h3 : wd = wd') (k : J p l e R s m args below meth c Q nL D cl A pc lv' st' wd' cells slots) : J p l e R s m args below meth c Q nL D cl A pc lv st wd cells slots := by subst h1; subst h2; subst h3; exact k
theorem j_callVi (C : JC p m c cc nL s args Ts own D cl tys A) {y : MethodName} {ws : List Cond} {rm : Room} {bytes : ByteArray} {maxL mc ms n index : Nat} {ret : Option FieldType} {As rest stk : List Value} {wc : va_W} {post : Int → va_W → Prop} {b ci : Nat} {Cn : String} {T : u_T} {N : Nat} {fs : List Value}  (hM : mI l y ws rm D cl tys (.ref b :: As) wc mc ms post) (cw : CallW R s args own Cn index y bytes maxL ret ws rm mc ms n) (isC isR : List Nat) {wr : va_W} (hC : isC.map (fun i => wd[i]?) = wc.map some) (hnC : va_nd isC = true) (hR : isR.map (fun i => wd[i]?) = wr.map some) (hnR : va_nd isR = true) (hdis : ∀ i ∈ isR, i ∉ isC) (q0 : Nat) (he : wd[q0]? = some (b, .inr (ci, fs))) (hc : cl[ci]? = some (Cn, T, N)) (hlen : As.length = n) (hst : stk = As.reverse ++ .ref b :: rest) (hW : (rest.map fun v => v.category).sum ≤ 8) (hd : dec cc pc (.invokevirtual index) 3 pc') (hf : cells + mc ≤ R.cells ∧ slots + ms ≤ R.slots) (k : ∀ z w1, post z w1 → J p l e R s m args below meth c Q nL D cl A pc' lv (.int (zI z) :: rest) (wr ++ w1) (cells + mc) (slots + ms)) : J p l e R s m args below meth c Q nL D cl A pc lv stk wd cells slots := by
  intro H locs ls hl hP hD hS
  have hPc : va_P D cl wc H := hP.sub isC (sub_fm hC)
  have hDc := hD.sub isC hnC hC
  have hFc := va_free (wc := wc) hD hS C.2.2 isC hC
  refine va_calli (va_runV (As := As) (rest := rest) C.1 (hM H.size) cw ⟨mPre_blind, va_recv C.2.1 hP hc he, fun U hU hW => ⟨rfl, by rw [hU], by rw [hU]; exact hPc, va_K.moved hW.alike C.2.1, hDc.weaken (fun _ _ _ _ => trivial)⟩⟩ rfl hlen hl.1 hst (lv_room hW) hd.1 hf) hS (fun q _ h => hFc q h) hFc (fun r u t H1 locs1 ht hvm hw hB hz1 hk1 hS1 => ?_)
  obtain ⟨z, rfl, hp⟩ := hw
  obtain ⟨hP1, hK1, hD1⟩ := hB
  rw [ht] at hP1
  obtain ⟨hPj, hDj⟩ := va_join hP hD isC isR hC hR hnR hdis hk1 hFc hP1 hD1
  exact hd.2 ▸ k z u hp H1 locs1 ls hl hPj hDj hS1
theorem j_callVv (C : JC p m c cc nL s args Ts own D cl tys A) {y : MethodName} {ws : List Cond} {rm : Room} {bytes : ByteArray} {maxL mc ms n index : Nat} {ret : Option FieldType} {As rest stk : List Value} {wc : va_W} {post : va_W → Prop} {b ci : Nat} {Cn : String} {T : u_T} {N : Nat} {fs : List Value}  (hM : mV l y ws rm D cl tys (.ref b :: As) wc mc ms post) (cw : CallW R s args own Cn index y bytes maxL ret ws rm mc ms n) (isC isR : List Nat) {wr : va_W} (hC : isC.map (fun i => wd[i]?) = wc.map some) (hnC : va_nd isC = true) (hR : isR.map (fun i => wd[i]?) = wr.map some) (hnR : va_nd isR = true) (hdis : ∀ i ∈ isR, i ∉ isC) (q0 : Nat) (he : wd[q0]? = some (b, .inr (ci, fs))) (hc : cl[ci]? = some (Cn, T, N)) (hlen : As.length = n) (hst : stk = As.reverse ++ .ref b :: rest) (hW : (rest.map fun v => v.category).sum ≤ 8) (hd : dec cc pc (.invokevirtual index) 3 pc') (hf : cells + mc ≤ R.cells ∧ slots + ms ≤ R.slots) (k : ∀ w1, post w1 → J p l e R s m args below meth c Q nL D cl A pc' lv rest (wr ++ w1) (cells + mc) (slots + ms)) : J p l e R s m args below meth c Q nL D cl A pc lv stk wd cells slots := by
  intro H locs ls hl hP hD hS
  have hPc : va_P D cl wc H := hP.sub isC (sub_fm hC)
  have hDc := hD.sub isC hnC hC
  have hFc := va_free (wc := wc) hD hS C.2.2 isC hC
  refine va_callv (va_runV (As := As) (rest := rest) C.1 (hM H.size) cw ⟨mPre_blind, va_recv C.2.1 hP hc he, fun U hU hW => ⟨rfl, by rw [hU], by rw [hU]; exact hPc, va_K.moved hW.alike C.2.1, hDc.weaken (fun _ _ _ _ => trivial)⟩⟩ rfl hlen hl.1 hst (lv_room hW) hd.1 hf) hS (fun q _ h => hFc q h) hFc (fun u t H1 locs1 ht hvm hw hB hz1 hk1 hS1 => ?_)
  obtain ⟨hP1, hK1, hD1⟩ := hB
  rw [ht] at hP1
  obtain ⟨hPj, hDj⟩ := va_join hP hD isC isR hC hR hnR hdis hk1 hFc hP1 hD1
  exact hd.2 ▸ k u hw H1 locs1 ls hl hPj hDj hS1
theorem j_callSi (C : JC p m c cc nL s args Ts own D cl tys A) {y : MethodName} {ws : List Cond} {rm : Room} {bytes : ByteArray} {maxL mc ms n index : Nat} {ret : Option FieldType} {As rest stk : List Value} {wc : va_W} {post : Int → va_W → Prop}  (hM : mI l y ws rm D cl tys As wc mc ms post) (cw : CallB R s args own index y bytes maxL ret ws rm mc ms n ∧ (Cond.static y).before args s = true) (isC isR : List Nat) {wr : va_W} (hC : isC.map (fun i => wd[i]?) = wc.map some) (hnC : va_nd isC = true) (hR : isR.map (fun i => wd[i]?) = wr.map some) (hnR : va_nd isR = true) (hdis : ∀ i ∈ isR, i ∉ isC)  (hlen : As.length = n) (hst : stk = As.reverse ++ rest) (hW : (rest.map fun v => v.category).sum ≤ 8) (hd : dec cc pc (.invokestatic index) 3 pc') (hf : cells + mc ≤ R.cells ∧ slots + ms ≤ R.slots) (k : ∀ z w1, post z w1 → J p l e R s m args below meth c Q nL D cl A pc' lv (.int (zI z) :: rest) (wr ++ w1) (cells + mc) (slots + ms)) : J p l e R s m args below meth c Q nL D cl A pc lv stk wd cells slots := by
  intro H locs ls hl hP hD hS
  have hPc : va_P D cl wc H := hP.sub isC (sub_fm hC)
  have hDc := hD.sub isC hnC hC
  have hFc := va_free (wc := wc) hD hS C.2.2 isC hC
  refine va_calli (va_runS (As := As) (rest := rest) C.1 (hM H.size) cw ⟨mPre_blind, fun U hU hW => ⟨rfl, by rw [hU], by rw [hU]; exact hPc, va_K.moved hW.alike C.2.1, hDc.weaken (fun _ _ _ _ => trivial)⟩⟩ rfl hlen hl.1 hst (lv_room hW) hd.1 hf) hS (fun q _ h => hFc q h) hFc (fun r u t H1 locs1 ht hvm hw hB hz1 hk1 hS1 => ?_)
  obtain ⟨z, rfl, hp⟩ := hw
  obtain ⟨hP1, hK1, hD1⟩ := hB
  rw [ht] at hP1
  obtain ⟨hPj, hDj⟩ := va_join hP hD isC isR hC hR hnR hdis hk1 hFc hP1 hD1
  exact hd.2 ▸ k z u hp H1 locs1 ls hl hPj hDj hS1
theorem j_callSv (C : JC p m c cc nL s args Ts own D cl tys A) {y : MethodName} {ws : List Cond} {rm : Room} {bytes : ByteArray} {maxL mc ms n index : Nat} {ret : Option FieldType} {As rest stk : List Value} {wc : va_W} {post : va_W → Prop}  (hM : mV l y ws rm D cl tys As wc mc ms post) (cw : CallB R s args own index y bytes maxL ret ws rm mc ms n ∧ (Cond.static y).before args s = true) (isC isR : List Nat) {wr : va_W} (hC : isC.map (fun i => wd[i]?) = wc.map some) (hnC : va_nd isC = true) (hR : isR.map (fun i => wd[i]?) = wr.map some) (hnR : va_nd isR = true) (hdis : ∀ i ∈ isR, i ∉ isC)  (hlen : As.length = n) (hst : stk = As.reverse ++ rest) (hW : (rest.map fun v => v.category).sum ≤ 8) (hd : dec cc pc (.invokestatic index) 3 pc') (hf : cells + mc ≤ R.cells ∧ slots + ms ≤ R.slots) (k : ∀ w1, post w1 → J p l e R s m args below meth c Q nL D cl A pc' lv rest (wr ++ w1) (cells + mc) (slots + ms)) : J p l e R s m args below meth c Q nL D cl A pc lv stk wd cells slots := by
  intro H locs ls hl hP hD hS
  have hPc : va_P D cl wc H := hP.sub isC (sub_fm hC)
  have hDc := hD.sub isC hnC hC
  have hFc := va_free (wc := wc) hD hS C.2.2 isC hC
  refine va_callv (va_runS (As := As) (rest := rest) C.1 (hM H.size) cw ⟨mPre_blind, fun U hU hW => ⟨rfl, by rw [hU], by rw [hU]; exact hPc, va_K.moved hW.alike C.2.1, hDc.weaken (fun _ _ _ _ => trivial)⟩⟩ rfl hlen hl.1 hst (lv_room hW) hd.1 hf) hS (fun q _ h => hFc q h) hFc (fun u t H1 locs1 ht hvm hw hB hz1 hk1 hS1 => ?_)
  obtain ⟨hP1, hK1, hD1⟩ := hB
  rw [ht] at hP1
  obtain ⟨hPj, hDj⟩ := va_join hP hD isC isR hC hR hnR hdis hk1 hFc hP1 hD1
  exact hd.2 ▸ k u hw H1 locs1 ls hl hPj hDj hS1
theorem j_callIv (C : JC p m c cc nL s args Ts own D cl tys A) {y : MethodName} {ws : List Cond} {rm : Room} {bytes : ByteArray} {maxL mc ms n index : Nat} {As rest stk : List Value} {wc : va_W} {post : va_W → Prop} {b : Nat} (hM : mV l y ws rm D cl tys (.ref b :: As) wc mc ms post) (cw : CallB R s args own index y bytes maxL none ws rm mc ms n ∧ y.name = "<init>" ∧ (Cond.instanceMethod y).before args s = true) (isC isR : List Nat) {wr : va_W} (hC : isC.map (fun i => wd[i]?) = wc.map some) (hnC : va_nd isC = true) (hR : isR.map (fun i => wd[i]?) = wr.map some) (hnR : va_nd isR = true) (hdis : ∀ i ∈ isR, i ∉ isC)  (hlen : As.length = n) (hst : stk = As.reverse ++ .ref b :: rest) (hW : (rest.map fun v => v.category).sum ≤ 8) (hd : dec cc pc (.invokespecial index) 3 pc') (hf : cells + mc ≤ R.cells ∧ slots + ms ≤ R.slots) (k : ∀ w1, post w1 → J p l e R s m args below meth c Q nL D cl A pc' lv rest (wr ++ w1) (cells + mc) (slots + ms)) : J p l e R s m args below meth c Q nL D cl A pc lv stk wd cells slots := by
  intro H locs ls hl hP hD hS
  have hPc : va_P D cl wc H := hP.sub isC (sub_fm hC)
  have hDc := hD.sub isC hnC hC
  have hFc := va_free (wc := wc) hD hS C.2.2 isC hC
  refine va_callv (va_runI (As := As) (rest := rest) C.1 (hM H.size) cw ⟨mPre_blind, fun U hU hW => ⟨rfl, by rw [hU], by rw [hU]; exact hPc, va_K.moved hW.alike C.2.1, hDc.weaken (fun _ _ _ _ => trivial)⟩⟩ rfl hlen hl.1 hst (lv_room hW) hd.1 hf) hS (fun q _ h => hFc q h) hFc (fun u t H1 locs1 ht hvm hw hB hz1 hk1 hS1 => ?_)
  obtain ⟨hP1, hK1, hD1⟩ := hB
  rw [ht] at hP1
  obtain ⟨hPj, hDj⟩ := va_join hP hD isC isR hC hR hnR hdis hk1 hFc hP1 hD1
  exact hd.2 ▸ k u hw H1 locs1 ls hl hPj hDj hS1
theorem j_mmax (C : JC p m c cc nL s args Ts own D cl tys A) {index : Nat} {a b : Int} (hlink : Cond.methodLink own index Lib.Math.max.name ∈ Ts) (hstat : Cond.static Lib.Math.max.name ∈ Ts) (hini : Cond.initialized "java/lang/Math" ∈ Ts) (hcode : Cond.code Lib.Math.max.name Lib.Math.max.code 2 (some .int) ∈ Ts) (hframes : 1 ≤ R.frames) (hlocals : (st.map fun v => v.category).sum + 13 ≤ R.locals) (hcs : cells ≤ R.cells ∧ slots ≤ R.slots) (ha : (-2147483648 ≤ a ∧ a ≤ 2147483647)) (hb : (-2147483648 ≤ b ∧ b ≤ 2147483647)) (hd : dec cc pc (.invokestatic index) 3 pc') (k : J p l e R s m args below meth c Q nL D cl A pc' lv (.int (zI (max a b)) :: st) wd cells slots) : J p l e R s m args below meth c Q nL D cl A pc lv (.int (zI b) :: .int (zI a) :: st) wd cells slots := by
  intro H locs ls hl hP hD hS
  have C5 := C.1.2.2.2.2
  refine va_mmax C.1.1 C.1.2.1 (C.1.2.2.1.trans hl.1.symm) C.1.2.2.2.1 (C5 _ hlink) (C5 _ hstat) (C5 _ hini) (C5 _ hcode) hframes hlocals hcs.1 hcs.2 hd.1 ?_
  have he : (if zI a < zI b then zI b else zI a) = zI (max a b) := by
    by_cases h : a < b
    · rw [if_pos ((zI_lt ha hb).mpr h)]; congr 1; omega
    · rw [if_neg (fun q => h ((zI_lt ha hb).mp q))]; congr 1; omega
  rw [he]
  exact hd.2 ▸ k H locs ls hl hP hD hS
theorem j_mmin (C : JC p m c cc nL s args Ts own D cl tys A) {index : Nat} {a b : Int} (hlink : Cond.methodLink own index Lib.Math.min.name ∈ Ts) (hstat : Cond.static Lib.Math.min.name ∈ Ts) (hini : Cond.initialized "java/lang/Math" ∈ Ts) (hcode : Cond.code Lib.Math.min.name Lib.Math.min.code 2 (some .int) ∈ Ts) (hframes : 1 ≤ R.frames) (hlocals : (st.map fun v => v.category).sum + 13 ≤ R.locals) (hcs : cells ≤ R.cells ∧ slots ≤ R.slots) (ha : (-2147483648 ≤ a ∧ a ≤ 2147483647)) (hb : (-2147483648 ≤ b ∧ b ≤ 2147483647)) (hd : dec cc pc (.invokestatic index) 3 pc') (k : J p l e R s m args below meth c Q nL D cl A pc' lv (.int (zI (min a b)) :: st) wd cells slots) : J p l e R s m args below meth c Q nL D cl A pc lv (.int (zI b) :: .int (zI a) :: st) wd cells slots := by
  intro H locs ls hl hP hD hS
  have C5 := C.1.2.2.2.2
  refine va_mmin C.1.1 C.1.2.1 (C.1.2.2.1.trans hl.1.symm) C.1.2.2.2.1 (C5 _ hlink) (C5 _ hstat) (C5 _ hini) (C5 _ hcode) hframes hlocals hcs.1 hcs.2 hd.1 ?_
  have he : (if zI b < zI a then zI b else zI a) = zI (min a b) := by
    by_cases h : b < a
    · rw [if_pos ((zI_lt hb ha).mpr h)]; congr 1; omega
    · rw [if_neg (fun q => h ((zI_lt hb ha).mp q))]; congr 1; omega
  rw [he]
  exact hd.2 ▸ k H locs ls hl hP hD hS
end JR2
end
