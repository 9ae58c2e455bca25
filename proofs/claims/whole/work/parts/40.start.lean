/-! THE START: what the tables know of the classes and arrays; the walk from the entry -/
theorem ws_arr {s : State} {args : Array Value} {ty : FieldType} (hp : ty = .byte ∨ ty = .int ∨ ty = .boolean ∨ ty = .long) (h : (Cond.arrayClass ty).before args s = true) : ∃ cA, ArrOfT s cA ty ∧ va_RA s cA ty := by
  obtain ⟨cA, kA, comp, h1, h2, h3⟩ := Cond.arrayClass_spec (args := args) (first := s) (o := none) (s := s) (idx := []) h
  refine ⟨cA, fun n z => ⟨fun k h => (by cases h), kA, h2, comp, h3⟩, ?_⟩
  rcases hp with rfl | rfl | rfl | rfl <;> exact h1
theorem ws_K {s : State} {args : Array Value} (hts : ∀ w ∈ lw_tbl, w.before args s = true) : ∃ (D : va_G) (cB cI cZ cL : ClassId), va_K D vwCl (tyl cB cI cZ cL) s := by
  have hw : ∀ w ∈ wsL_law, w.before args s = true := fun w h => hts w (wsL_law_in w h)
  obtain ⟨c0, i0, k0⟩ := u_known hts inJx00060 (hw _ (List.mem_of_getElem? (i := 66) rfl : Cond.instantiable RJx00060 6 ∈ wsL_law))
  obtain ⟨c1, i1, k1⟩ := u_known hts inX0 (hw _ bg_m0.2.1)
  obtain ⟨c2, i2, k2⟩ := u_known hts inX1 (hw _ bg_m1.2.1)
  obtain ⟨cB, a1⟩ := ws_arr (Or.inl rfl) (hw _ (List.mem_of_getElem? (i := 26) rfl : Cond.arrayClass .byte ∈ wsL_law))
  obtain ⟨cI, a2⟩ := ws_arr (Or.inr (Or.inl rfl)) (hw _ (List.mem_of_getElem? (i := 29) rfl : Cond.arrayClass .int ∈ wsL_law))
  obtain ⟨cZ, a3⟩ := ws_arr (Or.inr (Or.inr (Or.inl rfl))) (hw _ (List.mem_of_getElem? (i := 32) rfl : Cond.arrayClass .boolean ∈ wsL_law))
  obtain ⟨cL, a4⟩ := ws_arr (Or.inr (Or.inr (Or.inr rfl))) (hw _ bg_m2.1)
  refine ⟨(fun k => if k = 0 then c0 else if k = 1 then c1 else c2, fun k => if k = 0 then i0 else if k = 1 then i1 else i2), cB, cI, cZ, cL, fun c q hq => ?_, fun k q hq => ?_⟩
  · match c, hq with
    | 0, hq => cases hq; exact k0
    | 1, hq => cases hq; exact k1
    | 2, hq => cases hq; exact k2
    | c + 3, hq => simp at hq
  · match k, hq with
    | 0, hq => cases hq; exact a1
    | 1, hq => cases hq; exact a2
    | 2, hq => cases hq; exact a3
    | 3, hq => cases hq; exact a4
    | k + 4, hq => simp at hq
theorem ws_str : Cond.stringRef "SheetRows" 70 "the place is not on the sheet" ∈ lw_tbl ∧ Cond.stringRef "SheetRows" 115 "no such byte was packed" ∈ lw_tbl ∧ Cond.classLink RL 13 xN ∈ lw_tbl := by decide +kernel
theorem ws_XC {s : State} {args : Array Value} (hts : ∀ w ∈ lw_tbl, w.before args s = true) (hg : (Jvm.Cond.and given_1 narrow_1).before args s = true) : XC s := by
  have hs := flat_of_before _ hg
  exact ⟨XP.start hts (hs _ (by decide +kernel)) (hs _ (by decide +kernel)) (hs _ (by decide +kernel)) (hs _ (by decide +kernel)) (hts _ ws_str.1) (hts _ ws_str.2.1), xc_good (State.WarmedH.refl s) (hts _ ws_str.2.2)⟩
/-- from the entry, for every script of at most 2050 ints, the law comes to its end with true -/
theorem whole_start {p : Program} {e : Env} {s : State} {m : MethodId} {below : List Frame} {meth : Method} {c : Code} (l : Launch) (hl9 : l.stackTraces = false) {b L : Nat} {xs : Nat → Int32} (hL : L ≤ 2050) (C0 : lw_At p s m meth c b L xs) : W p l e room_1 s m #[Value.ref b] below meth c s.heap [] 0 0 (lw_Z below #[Value.ref b] s) (entryFrame m ([Value.ref b] : List Value).toArray 7) := by
  obtain ⟨hx, hb, hr, hml, hown, hts, hX, hbl, hlocks, hg⟩ := C0
  obtain ⟨D, cB, cI, cZ, cL, hK⟩ := ws_K hts
  have C : JC p m c cL_law 7 s #[Value.ref b] wsL_law RL D vwCl (tyl cB cI cZ cL) (va_A [] s.heap.size) := ⟨⟨hx, hb, hml, hown, fun w h => hts w (wsL_law_in w h)⟩, hK, fun q h => Or.inr h⟩
  have Cx : LC p l s m c b L xs D cB cI cZ cL := ⟨C, hX, hbl, hL, ws_XC hts hg, hl9⟩
  have hb9 := lw_begin (e := e) (below := below) Cx hr hlocks
  have hl := lv_entry [Value.ref b] (n := 7) (Nat.le_of_ble_eq_true rfl)
  rw [lg_entry_eq]
  exact hb9 s.heap [] _ hl (fun k q hk => by simp at hk) ⟨fun i j p q hi => by simp at hi, fun k q hk => by simp at hk⟩ va_S.rf
