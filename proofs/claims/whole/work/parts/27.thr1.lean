/-! THROWING: read-only walks, the throw itself, the class's put, grey, octet off the sheet -/
/-- none of them speaks of arguments -/
theorem xArgs {s : State} {args : Array Value} {w : Cond} (hw : w ∈ xAll) (h : w.before #[] s = true) : w.before args s = true := by
  have hk := List.all_eq_true.mp xAll_kind w hw
  simp only [Bool.or_eq_true, decide_eq_true_eq] at hk
  rcases hk with ((hk | hk) | hk) | hk
  · exact word_at (State.WarmedH.refl s) (good_of_word hk) h
  · obtain ⟨x, rfl⟩ := xKind_1 hk
    exact va_Nw.use rfl h
  · obtain ⟨x, y, rfl⟩ := xKind_2 hk
    exact va_Nw.use rfl h
  · simp only [xFour, List.mem_cons, List.not_mem_nil, or_false] at hk
    rcases hk with rfl | rfl | rfl | rfl
    · obtain ⟨c, k, i, f, a, cell, a1, a2, a3, a4, a5, a6, a7, a8, a9⟩ := Cond.laysStatic_spec h
      exact Cond.laysStatic_of (s := s) a1 a2 a3 a4 a5 a6 a7 a8 a9
    · obtain ⟨c, k, i, f, a, cell, a1, a2, a3, a4, a5, a6, a7, a8, a9⟩ := Cond.laysStatic_spec h
      exact Cond.laysStatic_of (s := s) a1 a2 a3 a4 a5 a6 a7 a8 a9
    · exact h
    · exact h
def JR (p : Program) (l : Launch) (e : Env) (R : Room) (s : State) (m : MethodId) (args : Array Value) (below : List Frame) (meth : Method) (c : Code) (Q : State → Prop) (nL : Nat) (pc : Nat) (lv : List (Nat × Value)) (st : List Value) : Prop := ∀ ls : Array Slot, lv_has ls nL lv → W p l e R s m args below meth c s.heap [] 0 0 Q (F0 m pc ls st)
def JCR (p : Program) (m : MethodId) (c : Code) (cc : ByteArray) (nL : Nat) (s : State) (args : Array Value) (Ts : List Cond) (own : String) (D : va_G) (cl : List vw_C) (tys : List (ClassId × FieldType)) (wd : va_W) : Prop := CallFix p m c cc nL s args Ts own ∧ va_K D cl tys s ∧ va_P D cl wd s.heap
section RR
variable {p : Program} {l : Launch} {e : Env} {R : Room} {s : State} {m : MethodId} {args : Array Value} {below : List Frame} {meth : Method} {c : Code} {Q : State → Prop} {nL : Nat} {D : va_G} {cl : List vw_C} {tys : List (ClassId × FieldType)} {cc : ByteArray} {Ts : List Cond} {own : String} {pc pc' : Nat} {lv : List (Nat × Value)} {st : List Value} {wd : va_W}
theorem r_iconst (C : JCR p m c cc nL s args Ts own D cl tys wd) {n : Int} (hd : dec cc pc (.iconst n) 1 pc') (k : JR p l e R s m args below meth c Q nL pc' lv (.int (zI n) :: st)) : JR p l e R s m args below meth c Q nL pc lv (st) := fun ls hl => lv_iconst C.1.1 C.1.2.1 hd.1 rfl (by exact hd.2 ▸ k ls hl)
theorem r_iload_n (C : JCR p m c cc nL s args Ts own D cl tys wd) {i : Fin 4} {x : Int32} (hd : dec cc pc (.iload_n i) 1 pc') (q : Nat) (hq : lv[q]? = some ((i : Nat), .int x)) (k : JR p l e R s m args below meth c Q nL pc' lv (.int x :: st)) : JR p l e R s m args below meth c Q nL pc lv (st) := fun ls hl => lv_iload_n C.1.1 C.1.2.1 hd.1 rfl (lv_at hl q hq) (by exact hd.2 ▸ k ls hl)
theorem r_aload_n (C : JCR p m c cc nL s args Ts own D cl tys wd) {i : Fin 4} {x : Nat} (hd : dec cc pc (.aload_n i) 1 pc') (q : Nat) (hq : lv[q]? = some ((i : Nat), .ref x)) (k : JR p l e R s m args below meth c Q nL pc' lv (.ref x :: st)) : JR p l e R s m args below meth c Q nL pc lv (st) := fun ls hl => lv_aload_n C.1.1 C.1.2.1 hd.1 rfl (lv_at hl q hq) (by exact hd.2 ▸ k ls hl)
theorem r_icmp_eq (C : JCR p m c cc nL s args Ts own D cl tys wd) {a b : Int} {off : Int} (tgt : Nat) (hd : dec cc pc (.if_icmp .eq off) 3 pc') (ht : (pc : Int) + off = (tgt : Int)) (ha : (-2147483648 ≤ a ∧ a ≤ 2147483647)) (hb : (-2147483648 ≤ b ∧ b ≤ 2147483647)) (kt : a = b → JR p l e R s m args below meth c Q nL tgt lv (st)) (kf : a ≠ b → JR p l e R s m args below meth c Q nL pc' lv (st)) : JR p l e R s m args below meth c Q nL pc lv (.int (zI b) :: .int (zI a) :: st) := fun ls hl => lv_icmp_eq C.1.1 C.1.2.1 hd.1 ht (fun z => kt ((zI_inj ha hb).mp z) ls hl) (fun z => by exact hd.2 ▸ kf (fun q => z ((zI_inj ha hb).mpr q)) ls hl)
theorem r_if_eq (C : JCR p m c cc nL s args Ts own D cl tys wd) {a : Int} {off : Int} (tgt : Nat) (hd : dec cc pc (.ifCond .eq off) 3 pc') (ht : (pc : Int) + off = (tgt : Int)) (ha : (-2147483648 ≤ a ∧ a ≤ 2147483647)) (kt : a = 0 → JR p l e R s m args below meth c Q nL tgt lv (st)) (kf : a ≠ 0 → JR p l e R s m args below meth c Q nL pc' lv (st)) : JR p l e R s m args below meth c Q nL pc lv (.int (zI a) :: st) := fun ls hl => lv_if_eq C.1.1 C.1.2.1 hd.1 ht (fun z => kt ((zI_inj ha r0).mp (by rw [zI_0]; exact z)) ls hl) (fun z => by exact hd.2 ▸ kf (fun q => z (by rw [← zI_0]; exact (zI_inj ha r0).mpr q)) ls hl)
theorem r_icmp_ne (C : JCR p m c cc nL s args Ts own D cl tys wd) {a b : Int} {off : Int} (tgt : Nat) (hd : dec cc pc (.if_icmp .ne off) 3 pc') (ht : (pc : Int) + off = (tgt : Int)) (ha : (-2147483648 ≤ a ∧ a ≤ 2147483647)) (hb : (-2147483648 ≤ b ∧ b ≤ 2147483647)) (kt : a ≠ b → JR p l e R s m args below meth c Q nL tgt lv (st)) (kf : a = b → JR p l e R s m args below meth c Q nL pc' lv (st)) : JR p l e R s m args below meth c Q nL pc lv (.int (zI b) :: .int (zI a) :: st) := fun ls hl => lv_icmp_ne C.1.1 C.1.2.1 hd.1 ht (fun z => kt (fun q => z ((zI_inj ha hb).mpr q)) ls hl) (fun z => by exact hd.2 ▸ kf ((zI_inj ha hb).mp z) ls hl)
theorem r_if_ne (C : JCR p m c cc nL s args Ts own D cl tys wd) {a : Int} {off : Int} (tgt : Nat) (hd : dec cc pc (.ifCond .ne off) 3 pc') (ht : (pc : Int) + off = (tgt : Int)) (ha : (-2147483648 ≤ a ∧ a ≤ 2147483647)) (kt : a ≠ 0 → JR p l e R s m args below meth c Q nL tgt lv (st)) (kf : a = 0 → JR p l e R s m args below meth c Q nL pc' lv (st)) : JR p l e R s m args below meth c Q nL pc lv (.int (zI a) :: st) := fun ls hl => lv_if_ne C.1.1 C.1.2.1 hd.1 ht (fun z => kt (fun q => z (by rw [← zI_0]; exact (zI_inj ha r0).mpr q)) ls hl) (fun z => by exact hd.2 ▸ kf ((zI_inj ha r0).mp (by rw [zI_0]; exact z)) ls hl)
theorem r_icmp_lt (C : JCR p m c cc nL s args Ts own D cl tys wd) {a b : Int} {off : Int} (tgt : Nat) (hd : dec cc pc (.if_icmp .lt off) 3 pc') (ht : (pc : Int) + off = (tgt : Int)) (ha : (-2147483648 ≤ a ∧ a ≤ 2147483647)) (hb : (-2147483648 ≤ b ∧ b ≤ 2147483647)) (kt : a < b → JR p l e R s m args below meth c Q nL tgt lv (st)) (kf : b ≤ a → JR p l e R s m args below meth c Q nL pc' lv (st)) : JR p l e R s m args below meth c Q nL pc lv (.int (zI b) :: .int (zI a) :: st) := fun ls hl => lv_icmp_lt C.1.1 C.1.2.1 hd.1 ht (fun z => kt ((zI_lt ha hb).mp z) ls hl) (fun z => by exact hd.2 ▸ kf (by have := mt (zI_lt ha hb).mpr z; omega) ls hl)
theorem r_if_lt (C : JCR p m c cc nL s args Ts own D cl tys wd) {a : Int} {off : Int} (tgt : Nat) (hd : dec cc pc (.ifCond .lt off) 3 pc') (ht : (pc : Int) + off = (tgt : Int)) (ha : (-2147483648 ≤ a ∧ a ≤ 2147483647)) (kt : a < 0 → JR p l e R s m args below meth c Q nL tgt lv (st)) (kf : 0 ≤ a → JR p l e R s m args below meth c Q nL pc' lv (st)) : JR p l e R s m args below meth c Q nL pc lv (.int (zI a) :: st) := fun ls hl => lv_if_lt C.1.1 C.1.2.1 hd.1 ht (fun z => kt ((zI_lt ha r0).mp (by rw [zI_0]; exact z)) ls hl) (fun z => by exact hd.2 ▸ kf (by have := mt (zI_lt ha r0).mpr (by rw [zI_0]; exact z); omega) ls hl)
theorem r_icmp_ge (C : JCR p m c cc nL s args Ts own D cl tys wd) {a b : Int} {off : Int} (tgt : Nat) (hd : dec cc pc (.if_icmp .ge off) 3 pc') (ht : (pc : Int) + off = (tgt : Int)) (ha : (-2147483648 ≤ a ∧ a ≤ 2147483647)) (hb : (-2147483648 ≤ b ∧ b ≤ 2147483647)) (kt : b ≤ a → JR p l e R s m args below meth c Q nL tgt lv (st)) (kf : a < b → JR p l e R s m args below meth c Q nL pc' lv (st)) : JR p l e R s m args below meth c Q nL pc lv (.int (zI b) :: .int (zI a) :: st) := fun ls hl => lv_icmp_ge C.1.1 C.1.2.1 hd.1 ht (fun z => kt ((zI_le hb ha).mp z) ls hl) (fun z => by exact hd.2 ▸ kf (by have := mt (zI_le hb ha).mpr z; omega) ls hl)
theorem r_if_ge (C : JCR p m c cc nL s args Ts own D cl tys wd) {a : Int} {off : Int} (tgt : Nat) (hd : dec cc pc (.ifCond .ge off) 3 pc') (ht : (pc : Int) + off = (tgt : Int)) (ha : (-2147483648 ≤ a ∧ a ≤ 2147483647)) (kt : 0 ≤ a → JR p l e R s m args below meth c Q nL tgt lv (st)) (kf : a < 0 → JR p l e R s m args below meth c Q nL pc' lv (st)) : JR p l e R s m args below meth c Q nL pc lv (.int (zI a) :: st) := fun ls hl => lv_if_ge C.1.1 C.1.2.1 hd.1 ht (fun z => kt ((zI_le r0 ha).mp (by rw [zI_0]; exact z)) ls hl) (fun z => by exact hd.2 ▸ kf (by have := mt (zI_le r0 ha).mpr (by rw [zI_0]; exact z); omega) ls hl)
theorem r_goto (C : JCR p m c cc nL s args Ts own D cl tys wd) {off : Int} (tgt : Nat) (hd : dec cc pc (.goto off) 3 pc') (ht : (pc : Int) + off = (tgt : Int)) (k : JR p l e R s m args below meth c Q nL tgt lv (st)) : JR p l e R s m args below meth c Q nL pc lv (st) := fun ls hl => lv_goto C.1.1 C.1.2.1 hd.1 ht (k ls hl)
theorem r_getf (C : JCR p m c cc nL s args Ts own D cl tys wd) {ref Cn : String} {T : u_T} {N ci index a : Nat} {fs : List Value} {v : Value} (hin : ∀ w ∈ u_ws Cn T N, w ∈ Ts) (q0 : Nat) (he : wd[q0]? = some (a, .inr (ci, fs))) (hc : cl[ci]? = some (Cn, T, N)) (f : Nat) (hf : f < N) (hlink : Cond.fieldLink own index ref (T f).2.1 (T f).2.2.1 ∈ Ts) (hsame : (T f).1 = ref) (hv : fs[f]? = some v) (hd : dec cc pc (.getfield index) 3 pc') (k : JR p l e R s m args below meth c Q nL pc' lv (v :: st)) : JR p l e R s m args below meth c Q nL pc lv (.ref a :: st) := fun ls hl => va_get C.1.1 C.1.2.1 C.1.2.2.2.2 hin C.1.2.2.2.1 C.2.1 C.2.2 q0 he hc f hf (C.1.2.2.2.2 _ hlink) (fun _ h => by rw [← hsame]; exact h) hv hd.1 (by exact hd.2 ▸ k ls hl)
end RR
/-- a contract of a method that only reads -/
def mR (l : Launch) (y : MethodName) (ws : List Cond) (rm : Room) (D : va_G) (cl : List vw_C) (tys : List (ClassId × FieldType)) (av : List Value) (w0 : va_W) (post : Int → Prop) : Prop := ∀ sz : Nat, Met l y ws rm (mPre D cl tys av w0 sz) (fun _ st oc t => (∃ z : Int, oc = .returned (some (.int (zI z))) ∧ post z) ∧ t.heap = st.heap) 0 0 (fun _ => False)
theorem mR_of {l : Launch} {D : va_G} {cl : List vw_C} {tys : List (ClassId × FieldType)} {y : MethodName} {ws ws' : List Cond} {rm : Room} {av : List Value} {w0 : va_W} {post : Int → Prop} {cc : ByteArray} {maxL : Nat} {rt : FieldType} {own : String} (hyo : y.cls = own) (hy : plainName y.cls = true) (hw : ws = Cond.code y cc maxL (some rt) :: ws') (hlen : (lg_sl av).length ≤ maxL)
    (body : ∀ (p : Program) (e : Env) (s : State) (m : MethodId) (args : Array Value) (below : List Frame) (meth : Method) (c : Code), JCR p m c cc maxL s args ws own D cl tys w0 → meth.sig.returnType = (some rt) → meth.locks = false → JR p l e rm s m args below meth c (MQ below (fun _ st oc t => (∃ z : Int, oc = .returned (some (.int (zI z))) ∧ post z) ∧ t.heap = st.heap) args s 0 0 (fun _ => False)) maxL 0 (lv_args 0 av) []) : mR l y ws rm D cl tys av w0 post := by
  intro sz
  refine Met.ofW (cc := cc) (maxL := maxL) (ret := (some rt)) hy hw ?_
  intro p e s m args below meth c s₁ B hml hv
  obtain ⟨ha, hsz, hP, hK, hD0⟩ := hv
  subst hsz
  have hts := atoms_spec (ws := ws) B.pre
  have hown : s.vm.findClass own = some m.cls := hyo ▸ findClass_of_methodNamed B.named
  have hb := body p e s m args below meth c ⟨⟨B.exec, B.bytes, hml, hown, hts⟩, hK, hP⟩ B.returns B.notSynchronized
  have hl := lv_entry av (n := maxL) hlen
  subst ha
  rw [lg_entry_eq]
  exact hb _ hl
section RR2
variable {p : Program} {l : Launch} {e : Env} {R : Room} {s : State} {m : MethodId} {args : Array Value} {below : List Frame} {meth : Method} {c : Code} {Q : State → Prop} {nL : Nat} {D : va_G} {cl : List vw_C} {tys : List (ClassId × FieldType)} {cc : ByteArray} {Ts : List Cond} {own : String} {pc pc' : Nat} {lv : List (Nat × Value)} {st : List Value} {wd : va_W}
theorem r_iret (C : JCR p m c cc nL s args Ts own D cl tys wd) {post : Int → Prop} {rt : FieldType} {z : Int} (hr : meth.sig.returnType = some rt) (hlocks : meth.locks = false) (hn : narrow rt (.int (zI z)) = .int (zI z)) (hd : dec cc pc .ireturn 1 pc') (hp : post z) : JR p l e R s m args below meth c (MQ below (fun _ st oc t => (∃ z : Int, oc = .returned (some (.int (zI z))) ∧ post z) ∧ t.heap = st.heap) args s 0 0 (fun _ => False)) nL pc lv [.int (zI z)] := fun ls hl => W.zret C.1.1 C.1.2.1 hr hn (fun t ht hW => ⟨⟨z, rfl, hp⟩, ht⟩) (fun q hq => by cases hq) hd.1 hlocks
theorem r_callV (C : JCR p m c cc nL s args Ts own D cl tys wd) {y : MethodName} {ws : List Cond} {rm : Room} {bytes : ByteArray} {maxL n index : Nat} {ret : Option FieldType} {As rest stk : List Value} {post : Int → Prop} {b ci : Nat} {Cn : String} {T : u_T} {N : Nat} {fs : List Value} (hD : va_D (fun _ => True) wd) (hM : mR l y ws rm D cl tys (.ref b :: As) wd post) (cw : CallW R s args own Cn index y bytes maxL ret ws rm 0 0 n) (q0 : Nat) (he : wd[q0]? = some (b, .inr (ci, fs))) (hc : cl[ci]? = some (Cn, T, N)) (hlen : As.length = n) (hst : stk = As.reverse ++ .ref b :: rest) (hW : (rest.map fun v => v.category).sum ≤ 8) (hd : dec cc pc (.invokevirtual index) 3 pc') (k : ∀ z, post z → JR p l e R s m args below meth c Q nL pc' lv (.int (zI z) :: rest)) : JR p l e R s m args below meth c Q nL pc lv (stk) := by
  intro ls hl
  have hrun := va_runV (p := p) (l := l) (e := e) (R := R) (m := m) (below := below) (meth := meth) (locs := []) (cells := 0) (slots := 0) (g := F0 m pc ls stk) (As := As) (rest := rest) C.1 (hM s.heap.size) cw ⟨mPre_blind, va_recv C.2.1 C.2.2 hc he, fun U hU hW => ⟨rfl, by rw [hU], by rw [hU]; exact C.2.2, va_K.moved hW.alike C.2.1, hD⟩⟩ rfl hlen hl.1 hst (lv_room hW) hd.1 ⟨Nat.zero_le _, Nat.zero_le _⟩
  intro T hT X
  obtain ⟨v, st₀, t, T', L, h0, X', hL, e1, e2, ⟨⟨z, hv, hp⟩, hh⟩, stp⟩ := hrun T hT X
  cases hv
  have hL0 : L = [] := by
    cases L with
    | nil => rfl
    | cons a r => exact absurd (hL a List.mem_cons_self) id
  subst hL0
  obtain ⟨t2, a1, b1⟩ := k z hp ls hl T' (by rw [e1, hh, h0]) X'
  refine ⟨t2, stp t2 ?_, b1⟩
  rw [← hd.2] at a1
  exact a1
end RR2
/-- what is thrown, and that nothing old has changed -/
def XQ (st : State) (o : Outcome) (t : State) : Prop := ∃ (ax : Nat) (ce : Cell), o = .threw ax ∧ t.heap[ax]? = some ce ∧ ce.vm = .none ∧ st.vm.findClass xN = some ce.cls ∧ st.WarmedH t.vm ∧ st.sameButNew ({ t with vm := st.vm } : State) [] 1 6
def XZ (below : List Frame) (s : State) : State → Prop := fun t => ∃ o, t.status = .running ∧ Ended t below o ∧ XQ s o t
def mT (l : Launch) (y : MethodName) (ws : List Cond) (rm : Room) (D : va_G) (cl : List vw_C) (tys : List (ClassId × FieldType)) (av : List Value) (w0 : va_W) : Prop := ∀ sz : Nat, MetFree l y (headSpec ws rm) (fun a U => mPre D cl tys av w0 sz a U ∧ XP U) (fun _ _ _ _ _ => True) (fun _ st o t => XQ st o t)
theorem mT_of {l : Launch} {D : va_G} {cl : List vw_C} {tys : List (ClassId × FieldType)} {y : MethodName} {ws ws' : List Cond} {rm : Room} {av : List Value} {w0 : va_W} {cc : ByteArray} {maxL : Nat} {ret : Option FieldType} {own : String} (hyo : y.cls = own) (hy : plainName y.cls = true) (hw : ws = Cond.code y cc maxL ret :: ws') (hlen : (lg_sl av).length ≤ maxL)
    (body : ∀ (p : Program) (e : Env) (s : State) (m : MethodId) (args : Array Value) (below : List Frame) (meth : Method) (c : Code), JCR p m c cc maxL s args ws own D cl tys w0 → va_D (fun _ => True) w0 → meth.locks = false → c.exceptionTable.isEmpty = true → XP s → JR p l e rm s m args below meth c (XZ below s) maxL 0 (lv_args 0 av) []) : mT l y ws rm D cl tys av w0 := by
  intro sz
  refine MetFree.of_bodyS (code := cc) (maxLocals := maxL) (ret := ret) hy ?_ ?_
  · intro args s m h hn
    obtain ⟨meth, c, h1, h2, h3, h4, h5, h6, -, -⟩ := Cond.code_spec hn (atoms_spec (ws := ws) h _ (by rw [hw]; exact List.mem_cons_self))
    exact ⟨meth, c, h1, h2, h3, h4, h5, h6⟩
  · intro p e s m args below meth c s₁ B hml hP _
    obtain ⟨⟨ha, hsz, hPw, hK, hD0⟩, hXP⟩ := hP
    subst hsz
    have hts := atoms_spec (ws := ws) B.pre
    have hown : s.vm.findClass own = some m.cls := hyo ▸ findClass_of_methodNamed B.named
    have hem := B.noHandlers (hts _ (by rw [hw]; exact List.mem_cons_self))
    have hb := body p e s m args below meth c ⟨⟨B.exec, B.bytes, hml, hown, hts⟩, hK, hPw⟩ hD0 B.notSynchronized hem hXP
    have hl := lv_entry av (n := maxL) hlen
    have hh0 : s₁.heap = s.heap := by rw [B.state]; rfl
    subst ha
    have hb2 := hb _ hl
    rw [← lg_entry_eq] at hb2
    obtain ⟨t, a1, o, b1, b2, b3⟩ := hb2 s₁ hh0 (Stand.of_body B)
    exact ⟨t, o, a1, b1, b2, b3⟩
section RR3
variable {p : Program} {l : Launch} {e : Env} {R : Room} {s : State} {m : MethodId} {args : Array Value} {below : List Frame} {meth : Method} {c : Code} {Q : State → Prop} {nL : Nat} {D : va_G} {cl : List vw_C} {tys : List (ClassId × FieldType)} {cc : ByteArray} {Ts : List Cond} {own : String} {pc pc' : Nat} {lv : List (Nat × Value)} {st : List Value} {wd : va_W}
set_option maxHeartbeats 1000000 in
theorem r_throw (C : JCR p m c cc nL s args Ts own D cl tys wd) (ho : own = RX0) (hl9 : l.stackTraces = false) (hXP : XP s) (hem : c.exceptionTable.isEmpty = true) (hlocks : meth.locks = false) {is : Nat} {tx : String} (hs : ∃ a, vk_R own is tx a s) (hk : Cond.classLink own 68 xN ∈ Ts) (hi : Cond.initialized xN ∈ Ts) (hn : Cond.instantiable xN 6 ∈ Ts) {p1 p2 p3 p4 p5 : Nat} (d0 : dec cc pc (.new 68) 3 p1) (d1 : dec cc p1 .dup 1 p2) (d2 : dec cc p2 (.ldc is) 2 p3) (d3 : dec cc p3 (.invokespecial 72) 3 p4) (d4 : dec cc p4 .athrow 1 p5)
    (hRf : 6 < R.frames) (hRl : (st.map fun v => v.category).sum + 97 ≤ R.locals) (hRc : 1 ≤ R.cells) (hRs : 6 ≤ R.slots) : JR p l e R s m args below meth c (XZ below s) nL pc lv st := by
  intro ls hl
  obtain ⟨sa, hs⟩ := hs
  have hts := C.1.2.2.2.2
  obtain ⟨cX, kX0, hfX, hkX0, -⟩ := Cond.instantiable_spec (hts _ hn)
  refine W.newcK C.1.1 C.1.2.1 C.1.2.2.2.1 (hts _ hk) (hts _ hn) (hts _ hi) rfl d0.1 (by omega) (by omega) hfX rfl (fun H1 kX hkX e1 z1 o1 => ?_)
  have q1 := d0.2
  have q2 := d1.2
  have q3 := d2.2
  have q4 := d3.2
  subst q1; subst q2; subst q3; subst q4
  refine lv_dup (va := .ref s.heap.size) C.1.1 C.1.2.1 d1.1 rfl ?_
  refine va_ldcS C.1.1 C.1.2.1 C.1.2.2.2.1 hs d2.1 ?_
  intro T hT X9
  have htr : e.platform.stackTraces = false := (show e.platform.stackTraces = l.stackTraces by rw [X9.admits.platform]).trans hl9
  have hall : ∀ w ∈ Bundle.ownAtoms own 72 xN xUp, w.before args s = true := fun w hw => by
    rw [ho] at hw
    have h1 := hXP.1 w hw
    exact xArgs hw h1
  obtain ⟨U, hsteps, hrun, hend, hW, hsame, ce, hce, hO⟩ := X9.ctorThrowS C.1.1 htr (own := own) (cls := xN) (names := xUp) (ic := 72) C.1.2.2.2.1 xAll_fit.1 xAll_fit.2 hall (fun x hx => by cases hx) hfX hkX (by rw [hT]; exact e1) (Nat.le_refl _) (msg := .ref sa) rfl
    (g := F0 m (pc + 3 + 1 + 2) ls (.ref sa :: .ref s.heap.size :: .ref s.heap.size :: st)) rfl (hl.1.trans C.1.2.2.1.symm) rfl rfl (rest := st) rfl (by rw [C.1.2.1]; exact d3.1) (by rw [C.1.2.1]; exact d4.1) (fun x hx => by
      have : c.exceptionTable.toList = [] := by simpa using hem
      rw [this] at hx; cases hx) hRf (by simp only [List.map_cons, List.sum_cons]; show 2 * 0 + (1 + _) + (13 * (3 + 1) + 42) ≤ _; omega) hlocks
  exact ⟨U, hsteps, .threw s.heap.size, hrun, hend, s.heap.size, ce, rfl, hce, hO.vm, hO.cls, hW, hsame.mono (by omega) (by omega)⟩
end RR3
