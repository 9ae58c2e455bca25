/-! contracts of methods with a handler, and calls of them -/
def mIX (l : Launch) (y : MethodName) (ws : List Cond) (rm : Room) (D : va_G) (cl : List vw_C) (tys : List (ClassId × FieldType)) (av : List Value) (w0 : va_W) (mc ms : Nat) (post : Int → va_W → Prop) : Prop := ∀ sz : Nat, Met l y ws rm (fun a U => mPre D cl tys av w0 sz a U ∧ XC U) (mQI D cl tys w0 sz post) mc ms (va_A w0 sz)
theorem mIX_blind {D : va_G} {cl : List vw_C} {tys : List (ClassId × FieldType)} {av : List Value} {w0 : va_W} {sz : Nat} : FrameBlind (fun a U => mPre D cl tys av w0 sz a U ∧ XC U) := fun a U g mk q => ⟨mPre_blind a U g mk q.1, q.2.kept (s := U) (U := U.calling g mk a) (State.WarmedH.refl U) (fun _ _ => rfl)⟩
theorem mIX_of {l : Launch} {D : va_G} {cl : List vw_C} {tys : List (ClassId × FieldType)} {y : MethodName} {ws ws' : List Cond} {rm : Room} {av : List Value} {w0 : va_W} {mc ms : Nat} {post : Int → va_W → Prop} {cc : ByteArray} {maxL : Nat} {rt : FieldType} {hh : List (Nat × Nat × Nat × Nat)} {own : String} (hyo : y.cls = own) (hy : plainName y.cls = true) (hw : ws = Cond.codeWith y cc maxL (some rt) hh :: ws') (hlen : (lg_sl av).length ≤ maxL)
    (body : ∀ (p : Program) (e : Env) (s : State) (m : MethodId) (args : Array Value) (below : List Frame) (meth : Method) (c : Code), JC p m c cc maxL s args ws own D cl tys (va_A w0 s.heap.size) → JCR p m c cc maxL s args ws own D cl tys w0 → va_D (fun _ => True) w0 → XC s → meth.sig.returnType = some rt → meth.locks = false → c.exceptionTable.toList.map (fun h => (h.startPc, h.endPc, h.handlerPc, h.catchType)) = hh → JR p l e rm s m args below meth c (MQ below (mQI D cl tys w0 s.heap.size post) args s mc ms (va_A w0 s.heap.size)) maxL 0 (lv_args 0 av) []) : mIX l y ws rm D cl tys av w0 mc ms post := by
  intro sz
  refine va_MetW (cc := cc) (maxL := maxL) (ret := some rt) (hh := hh) hy hw ?_
  intro p e s m args below meth c s₁ B hml hv
  obtain ⟨⟨ha, hsz, hP, hK, hD0⟩, hXC⟩ := hv
  subst hsz
  have hts := atoms_spec (ws := ws) B.pre
  have hown : s.vm.findClass own = some m.cls := hyo ▸ findClass_of_methodNamed B.named
  obtain ⟨m9, meth9, c9, hn9, hm9, hc9, -, -, htab, -⟩ := Cond.codeWith_spec (hts _ (by rw [hw]; exact List.mem_cons_self))
  cases B.named.symm.trans hn9
  cases B.method.symm.trans hm9
  cases (Stand.of_body B).code.symm.trans hc9
  have hb := body p e s m args below meth c ⟨⟨B.exec, B.bytes, hml, hown, hts⟩, hK, fun q h => Or.inr h⟩ ⟨⟨B.exec, B.bytes, hml, hown, hts⟩, hK, hP⟩ hD0 hXC B.returns B.notSynchronized htab
  have hl := lv_entry av (n := maxL) hlen
  subst ha
  rw [lg_entry_eq]
  exact hb _ hl
section MX
variable {p : Program} {l : Launch} {e : Env} {R : Room} {s : State} {m : MethodId} {args : Array Value} {below : List Frame} {meth : Method} {c : Code} {Q : State → Prop} {nL : Nat} {D : va_G} {cl : List vw_C} {tys : List (ClassId × FieldType)} {A : Nat → Prop} {cc : ByteArray} {Ts : List Cond} {own : String} {pc pc' : Nat} {lv lv' : List (Nat × Value)} {st : List Value} {wd wd' : va_W} {cells slots : Nat}
theorem jr_j {w0 : va_W} (C : JCR p m c cc nL s args Ts own D cl tys w0) (hD : va_D (fun _ => True) w0) (k : J p l e R s m args below meth c Q nL D cl (va_A w0 s.heap.size) pc lv st w0 0 0) : JR p l e R s m args below meth c Q nL pc lv st := fun ls hl => k s.heap [] ls hl C.2.2 hD.self va_S.rf
abbrev CallX (R : Room) (s : State) (args : Array Value) (own : String) (index : Nat) (y : MethodName) (bytes : ByteArray) (maxL : Nat) (ret : Option FieldType) (hh : List (Nat × Nat × Nat × Nat)) (ws : List Cond) (rm : Room) (mc ms n : Nat) : Prop :=
  (rm.cells = mc ∧ rm.slots = ms ∧ rm.frames + 1 ≤ R.frames ∧ 8 + (maxL + 11) + rm.locals ≤ R.locals) ∧ (∀ w ∈ ws, ∀ (a' : Array Value) (U : State), s.WarmedH U.vm → w.before a' U = true) ∧ Cond.codeWith y bytes maxL ret hh ∈ ws ∧ (Cond.codeWith y bytes maxL ret hh).before args s = true ∧ (Cond.initialized y.cls).before args s = true ∧ (y.cls ≠ "java/lang/invoke/MethodHandle" ∧ y.cls ≠ "java/lang/invoke/VarHandle") ∧ (∀ sig, parseMethodDescriptor y.desc = some sig → n = sig.parameters.length) ∧ (Cond.methodLink own index y).before args s = true ∧ (Cond.static y).before args s = true
theorem cwX {index : Nat} {y : MethodName} {bytes : ByteArray} {maxL mc ms : Nat} {ret : Option FieldType} {hh : List (Nat × Nat × Nat × Nat)} {ws ws' : List Cond} {rm : Room} (n : Nat) (ht : ∀ w ∈ Ts, w.before args s = true) (hT : GoodIn Ts (va_wsS own index y ws)) (hw : ws = Cond.codeWith y bytes maxL ret hh :: ws') (hrc : rm.cells = mc) (hrs : rm.slots = ms)
    (hd : y.cls ≠ "java/lang/invoke/MethodHandle" ∧ y.cls ≠ "java/lang/invoke/VarHandle" ∧ (parseMethodDescriptor y.desc).map (fun d => d.parameters.length) = some n) (hR : rm.frames + 1 ≤ R.frames ∧ 8 + (maxL + 11) + rm.locals ≤ R.locals) : CallX R s args own index y bytes maxL ret hh ws rm mc ms n := by
  have ok : ∀ w ∈ va_wsS own index y ws, w.before args s = true := fun w h => ht w (hT w h).1
  have hG : GoodIn Ts ws := fun w h => hT w (by unfold va_wsS; exact List.mem_append_right _ h)
  have hc : Cond.codeWith y bytes maxL ret hh ∈ ws := by rw [hw]; exact List.mem_cons_self
  refine ⟨⟨hrc, hrs, hR.1, hR.2⟩, pay_in ht hG, hc, ht _ (hG _ hc).1, ok _ (by simp [va_wsS]), ⟨hd.1, hd.2.1⟩, fun sig h => ?_, ok _ (by simp [va_wsS]), ok _ (by simp [va_wsS])⟩
  have h2 := hd.2.2
  rw [h] at h2
  exact (Option.some.inj h2).symm
theorem run_X {H : Heap} {locs : List Loc} {y : MethodName} {ws : List Cond} {rm : Room} {bytes : ByteArray} {maxL mc ms n index : Nat} {ret : Option FieldType} {hh : List (Nat × Nat × Nat × Nat)} {Pc : Array Value → State → Prop} {Qc : Array Value → State → Outcome → State → Prop} {free : Addr → Prop} {As rest : List Value} {g : JFrame} (S : CallFix p m c cc nL s args Ts own) (hM : Met l y ws rm Pc Qc mc ms free) (cw : CallX R s args own index y bytes maxL ret hh ws rm mc ms n) (hp : PreS s H Pc As)
    (hg : g.method = m) (hn : As.length = n) (hsize : g.locals.size = nL) (hstack : g.stack = As.reverse ++ rest) (hW : 2 * g.monitorRoom + (rest.map fun v => v.category).sum ≤ 8) (hdg : decode cc g.pc = .ok (.invokestatic index, 3)) (hf : cells + mc ≤ R.cells ∧ slots + ms ≤ R.slots) :
    va_Run p l e R s m args below meth c H locs cells slots mc ms g rest (Qc As.toArray) (free) := by
  obtain ⟨⟨hrc, hrs, hfr, hlo⟩, hws, hcw, hcode, hini, hy, hlen, hl, hstt⟩ := cw
  have hK : Back l R p e below s args y 3 8 (PreOf R mc ms Pc) (PostOf Qc mc ms free) := va_backW (hh := hh) (bytes := bytes) (maxL := maxL) (ret := ret) hM hp.1 hrc hrs hfr hlo hws hcw (fun a' U hW => word_at hW (good_of_word rfl) hini)
  obtain ⟨hx, hb, hml, ho, -⟩ := S
  obtain ⟨mk, methM, cM, hnamed, hmethM, -, -, -, -, -, -, hsigM⟩ := Cond.codeWith_spec hcode
  have hstatic : methM.isStatic = true := Cond.static_spec hnamed hmethM hstt
  obtain ⟨kP, hkP, -⟩ := className_of_methodNamed hnamed
  have hinitP : kP.init = .initialized := Cond.initialized_spec (findClass_of_methodNamed hnamed) hkP hini
  intro T hT X
  have hdc : decode c.code g.pc = .ok (.invokestatic index, 3) := by rw [hb]; exact hdg
  obtain ⟨vm₁, X₁, hstep₁⟩ := X.invokestatic hx ho hl hnamed hmethM hstatic hkP hinitP hy (g := g) hg (argsL := As) (rest := rest) (hn.trans (hlen _ hsigM)) hstack hdc
  obtain ⟨v, B, X', hpost, hsteps⟩ := hK m meth c ⟨T.setVm vm₁, locs, cells, slots⟩ { g with stack := rest } (.invokestatic index) mk As.toArray X₁ hg (hsize.trans hml.symm) hdc hW (X₁.named hnamed) ⟨hf.1, hf.2, hp.2 (T.setVm vm₁) hT X₁.warmed⟩
  obtain ⟨U', l2, c2, s2⟩ := B
  obtain ⟨g', mk', t, L, e1, e2, hq, h1, hL, h2, h3⟩ := hpost
  dsimp only [Pt.U, Pt.locs, Pt.cells, Pt.slots] at X' e1 e2 h1 h2 h3 hsteps
  subst h1; subst h2; subst h3
  exact ⟨v, (T.setVm vm₁).calling g' mk' As.toArray, t, U', L, hT, X', hL, e1, e2, hq, fun target h => hstep₁ _ fun acts => by rw [doInvoke_state]; exact hsteps.trans h⟩
theorem j_callX (C : JC p m c cc nL s args Ts own D cl tys A) {y : MethodName} {ws : List Cond} {rm : Room} {bytes : ByteArray} {maxL mc ms n index : Nat} {ret : Option FieldType} {hh : List (Nat × Nat × Nat × Nat)} {As rest stk : List Value} {wc : va_W} {post : Int → va_W → Prop} (hM : mIX l y ws rm D cl tys As wc mc ms post) (hXC : XC s) (hA0 : ∀ q, q < s.heap.size → ¬ A q) (cw : CallX R s args own index y bytes maxL ret hh ws rm mc ms n) (isC isR : List Nat) {wr : va_W} (hC : isC.map (fun i => wd[i]?) = wc.map some) (hnC : va_nd isC = true) (hR : isR.map (fun i => wd[i]?) = wr.map some) (hnR : va_nd isR = true) (hdis : ∀ i ∈ isR, i ∉ isC) (hlen : As.length = n) (hst : stk = As.reverse ++ rest) (hW : (rest.map fun v => v.category).sum ≤ 8) (hd : dec cc pc (.invokestatic index) 3 pc') (hf : cells + mc ≤ R.cells ∧ slots + ms ≤ R.slots) (k : ∀ z w1, post z w1 → J p l e R s m args below meth c Q nL D cl A pc' lv (.int (zI z) :: rest) (wr ++ w1) (cells + mc) (slots + ms)) : J p l e R s m args below meth c Q nL D cl A pc lv stk wd cells slots := by
  intro H locs ls hl hP hD hS
  have hPc : va_P D cl wc H := hP.sub isC (sub_fm hC)
  have hDc := hD.sub isC hnC hC
  have hFc := va_free (wc := wc) hD hS C.2.2 isC hC
  refine va_calli (run_X (As := As) (rest := rest) C.1 (hM H.size) cw ⟨mIX_blind, fun U hU hW => ⟨⟨rfl, by rw [hU], by rw [hU]; exact hPc, va_K.moved hW.alike C.2.1, hDc.weaken (fun _ _ _ _ => trivial)⟩, hXC.kept hW (fun q hq => by rw [hU]; exact hS.2.1 q hq (hA0 q hq))⟩⟩ rfl hlen hl.1 hst (lv_room hW) hd.1 hf) hS (fun q _ h => hFc q h) hFc (fun r u t H1 locs1 ht hvm hw hB hz1 hk1 hS1 => ?_)
  obtain ⟨z, rfl, hp⟩ := hw
  obtain ⟨hP1, hK1, hD1⟩ := hB
  rw [ht] at hP1
  obtain ⟨hPj, hDj⟩ := va_join hP hD isC isR hC hR hnR hdis hk1 hFc hP1 hD1
  exact hd.2 ▸ k z u hp H1 locs1 ls hl hPj hDj hS1
end MX
