/-! THROWING: what the machine's own classes need of a state, and that it stays -/
def xN : String := "java/lang/ArrayIndexOutOfBoundsException"
def xUp : List String := ["java/lang/IndexOutOfBoundsException", "java/lang/RuntimeException", "java/lang/Exception"]
def xAll : List Cond := Bundle.ownAtoms RX0 72 xN xUp
abbrev thN : String := "java/lang/Throwable"
abbrev stD : String := "[Ljava/lang/StackTraceElement;"
abbrev lsD : String := "Ljava/util/List;"
def xKind : Cond → Nat
  | .declares _ => 1
  | .castable _ _ => 2
  | _ => 0
theorem xKind_1 {w : Cond} (h : xKind w = 1) : ∃ x, w = .declares x := by
  cases w <;> first | exact ⟨_, rfl⟩ | (simp [xKind] at h)
theorem xKind_2 {w : Cond} (h : xKind w = 2) : ∃ a b, w = .castable a b := by
  cases w <;> first | exact ⟨_, _, rfl⟩ | (simp [xKind] at h)
abbrev xFour : List Cond := [.laysStatic thN "UNASSIGNED_STACK" stD, .laysStatic thN "SUPPRESSED_SENTINEL" lsD, .isRef (.static thN "UNASSIGNED_STACK" stD), .isRef (.static thN "SUPPRESSED_SENTINEL" lsD)]
set_option maxRecDepth 20000 in
theorem xAll_kind : xAll.all (fun w => goodWord w || decide (xKind w = 1) || decide (xKind w = 2) || decide (w ∈ xFour)) = true := by decide +kernel
set_option maxRecDepth 20000 in
theorem xAll_in : xAll.all (fun w => decide (w ∈ lw_tbl) || decide (w ∈ xFour)) = true := by decide +kernel
theorem xFour_in : (Cond.laysStatic thN "UNASSIGNED_STACK" stD) ∈ lw_tbl ∧ (Cond.laysStatic thN "SUPPRESSED_SENTINEL" lsD) ∈ lw_tbl ∧ (Cond.initialized thN) ∈ lw_tbl := by decide +kernel
theorem xFour_all : ∀ w ∈ xFour, w ∈ xAll := by decide +kernel
theorem xIni : Cond.initialized thN ∈ xAll := by decide +kernel
theorem xAll_fit : Bundle.fit xN = true ∧ ∀ n ∈ xUp, Bundle.fit n = true := by decide +kernel
/-- all that a throw asks, at a state -/
def XP (s : State) : Prop := (∀ w ∈ xAll, w.before #[] s = true) ∧ (∃ a, vk_R RX0 70 "the place is not on the sheet" a s) ∧ ∃ a, vk_R RX0 115 "no such byte was packed" a s
theorem ls_kept {C n d : String} {s U : State} (hW : s.WarmedH U.vm) (hq : ∀ q, q < s.heap.size → U.heap[q]? = s.heap[q]?) (h : (Cond.laysStatic C n d).before #[] s = true) : (Cond.laysStatic C n d).before #[] U = true := by
  have h1 := Cond.laysStatic_setVm (args := #[]) hW.alike h
  obtain ⟨c, k, i, f, a, cell, a1, a2, a3, a4, a5, a6, a7, a8, a9⟩ := Cond.laysStatic_spec h1
  have hl : a < s.heap.size := (Array.getElem?_eq_some_iff.mp a5).1
  exact Cond.laysStatic_of (s := U) a1 a2 a3 a4 (by rw [hq a hl]; exact a5) a6 a7 a8 a9
theorem rf_of {C n d : String} {v : Value} {A : Nat → Prop} {U : State} (h : va_Z C n d v A U U.heap) (hv : v = .null ∨ ∃ t, v = .ref t) : (Cond.isRef (.static C n d)).before #[] U = true := by
  obtain ⟨cf, kf, fi, f, a, cell, h1, h2, h3, h4, h5, h6, h7, -⟩ := h
  have he : (Term.static C n d).eval #[] U none [] U = some v := by simp [Term.eval, State.fieldNamed?, h1, h2, h4, h5, h6, h7]
  simp only [Cond.before, Cond.holds, Cond.value, he]
  rcases hv with rfl | ⟨t, rfl⟩ <;> rfl
theorem rf_kept {C n d : String} {s U : State} (hW : s.WarmedH U.vm) (hq : ∀ q, q < s.heap.size → U.heap[q]? = s.heap[q]?) (hl : (Cond.laysStatic C n d).before #[] s = true) (hi : (Cond.initialized C).before #[] s = true) (h : (Cond.isRef (.static C n d)).before #[] s = true) : (Cond.isRef (.static C n d)).before #[] U = true := by
  have hz := va_Zqof (A := fun q => s.heap.size ≤ q) hl hi h (fun a ha => by omega)
  have hz2 := (va_Zq.moved hW.alike hz).kept (H1 := U.heap) (fun a ha _ => hq a ha)
  rcases hz2 with z | ⟨t, z⟩
  · exact rf_of z (Or.inl rfl)
  · exact rf_of z (Or.inr ⟨t, rfl⟩)
theorem XP.kept {s U : State} (hW : s.WarmedH U.vm) (hq : ∀ q, q < s.heap.size → U.heap[q]? = s.heap[q]?) (h : XP s) : XP U := by
  obtain ⟨h1, ⟨a, h2⟩, ⟨b, h3⟩⟩ := h
  refine ⟨fun w hw => ?_, ⟨a, vk_R.warm hW h2⟩, ⟨b, vk_R.warm hW h3⟩⟩
  have hk := List.all_eq_true.mp xAll_kind w hw
  simp only [Bool.or_eq_true, decide_eq_true_eq] at hk
  rcases hk with ((hk | hk) | hk) | hk
  · exact word_at hW (good_of_word hk) (h1 w hw)
  · obtain ⟨x, rfl⟩ := xKind_1 hk
    exact va_Nw.warmD hW (h1 _ hw)
  · obtain ⟨x, y, rfl⟩ := xKind_2 hk
    exact va_Nw.warmC hW (h1 _ hw)
  · simp only [xFour, List.mem_cons, List.not_mem_nil, or_false] at hk
    have l1 := h1 _ (xFour_all _ (show Cond.laysStatic thN "UNASSIGNED_STACK" stD ∈ xFour by simp [xFour]))
    have l2 := h1 _ (xFour_all _ (show Cond.laysStatic thN "SUPPRESSED_SENTINEL" lsD ∈ xFour by simp [xFour]))
    have l3 := h1 _ xIni
    rcases hk with rfl | rfl | rfl | rfl
    · exact ls_kept hW hq l1
    · exact ls_kept hW hq l2
    · exact rf_kept hW hq l1 l3 (h1 _ hw)
    · exact rf_kept hW hq l2 l3 (h1 _ hw)
/-- it holds at the law's entry -/
theorem XP.start {s : State} {args : Array Value} (hts : ∀ w ∈ lw_tbl, w.before args s = true) (h1 : (Cond.isRef (.static thN "UNASSIGNED_STACK" stD)).before args s = true) (h2 : (Cond.isRef (.static thN "SUPPRESSED_SENTINEL" lsD)).before args s = true)
    (h3 : (Cond.exactly (.string "SheetRows" 70) "java/lang/String").before args s = true) (h4 : (Cond.exactly (.string "SheetRows" 115) "java/lang/String").before args s = true)
    (h5 : (Cond.stringRef "SheetRows" 70 "the place is not on the sheet").before args s = true) (h6 : (Cond.stringRef "SheetRows" 115 "no such byte was packed").before args s = true) : XP s := by
  obtain ⟨f1, f2, f3⟩ := xFour_in
  have l1 : (Cond.laysStatic thN "UNASSIGNED_STACK" stD).before args s = true := hts _ f1
  have l2 : (Cond.laysStatic thN "SUPPRESSED_SENTINEL" lsD).before args s = true := hts _ f2
  have l3 : (Cond.initialized thN).before args s = true := hts _ f3
  have ls : ∀ {C n d : String}, (Cond.laysStatic C n d).before args s = true → (Cond.laysStatic C n d).before #[] s = true := fun {C n d} h => by
    obtain ⟨c, k, i, f, a, cell, a1, a2, a3, a4, a5, a6, a7, a8, a9⟩ := Cond.laysStatic_spec h
    exact Cond.laysStatic_of (s := s) a1 a2 a3 a4 a5 a6 a7 a8 a9
  have rf : ∀ {C n d : String}, (Cond.laysStatic C n d).before args s = true → (Cond.initialized C).before args s = true → (Cond.isRef (.static C n d)).before args s = true → (Cond.isRef (.static C n d)).before #[] s = true := fun {C n d} a b c => by
    have hz := va_Zqof (A := fun q => s.heap.size ≤ q) a b c (fun a ha => by omega)
    rcases hz with z | ⟨t, z⟩
    · exact rf_of z (Or.inl rfl)
    · exact rf_of z (Or.inr ⟨t, rfl⟩)
  refine ⟨fun w hw => ?_, ?_, ?_⟩
  · have hk := List.all_eq_true.mp xAll_kind w hw
    have hi := List.all_eq_true.mp xAll_in w hw
    simp only [Bool.or_eq_true, decide_eq_true_eq] at hk hi
    by_cases h9 : w ∈ xFour
    · simp only [xFour, List.mem_cons, List.not_mem_nil, or_false] at h9
      rcases h9 with rfl | rfl | rfl | rfl
      · exact ls l1
      · exact ls l2
      · exact rf l1 l3 h1
      · exact rf l2 l3 h2
    · have hb := hts w (hi.resolve_right h9)
      rcases hk with ((hk | hk) | hk) | hk
      · exact word_at (State.WarmedH.refl s) (good_of_word hk) hb
      · obtain ⟨x, rfl⟩ := xKind_1 hk
        exact va_Nw.of rfl hb
      · obtain ⟨x, y, rfl⟩ := xKind_2 hk
        exact va_Nw.of rfl hb
      · exact absurd hk h9
  · obtain ⟨a, c, cA, kA, q1, -⟩ := Cond.exactly_spec (args := args) (first := s) (o := none) (s := s) (idx := []) h3
    exact ⟨a, vk_R.of h5 q1⟩
  · obtain ⟨a, c, cA, kA, q1, -⟩ := Cond.exactly_spec (args := args) (first := s) (o := none) (s := s) (idx := []) h4
    exact ⟨a, vk_R.of h6 q1⟩
