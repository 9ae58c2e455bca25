/-! CATCHING: the search's step where the catch type may be cold; a call that throws and is caught; contracts and calls of methods with a handler -/
theorem ct_find {e : Env} {s : State} {f : JFrame} {a : Addr} {meth : Method} {code : Code} (hm : s.vm.method? f.method = some meth) (hc : meth.code = some code) {x : ExceptionTableEntry} (h1 : code.exceptionTable.toList = [x]) (hx : (decide (x.startPc ≤ f.pc) && decide (f.pc < x.endPc)) = true) (h0 : x.catchType ≠ 0) {c : ClassId} {cell : Cell} (hl : s.vm.ClassLinks e.platform f.method.cls x.catchType c) (hcell : s.heap[a]? = some cell) (hobj : ∀ k, cell.vm ≠ .statics k) {k1 k2 : Class} (hk1 : s.vm.classes[cell.cls]? = some k1) (hk2 : s.vm.classes[c]? = some k2) (hfit : s.vm.assignable cell.cls c = true) (Q : Handler → Pre) (E : CtlPost) (d : Bool) (acts : List Action) : wp (findHandler f a) Q E e d acts s ↔ Q (.found x.handlerPc) d acts (s.setVm (s.vm.noted f.method.cls x.catchType (.cls c))) := by
  have hg := (resolveClass_links e.toSetting hl).op (op := VmOp.resolveClass f.method.cls x.catchType) rfl
  have hal : s.vm.Alike (s.vm.noted f.method.cls x.catchType (.cls c)) := (Vm.Alike.refl s.vm).noted _ _ _
  have hf9 := (hal.assignable cell.cls c).trans hfit
  obtain ⟨k3, hk3, -⟩ := hal.2.2 _ _ hk1
  obtain ⟨k4, hk4, -⟩ := hal.2.2 _ _ hk2
  rw [_root_.Jvm.W.findHandler_eq hm hc, h1]
  simp [findHandler.go, hx, h0, hg.1, hg.2, hcell, hobj, hk3, hk4, hf9, VmOp.dirties, VmOp.acts]
theorem ct_step {tb : Tables} {e : Env} {s target : State} {g : JFrame} {c : Code} {below : List Frame} {a : Addr} (h : At s g.method c below) {pc : Nat} {vm' : Vm}
    (hfind : ∀ (Q : Handler → Pre) (E : CtlPost) (d : Bool) (acts : List Action), wp (findHandler g a) Q E e d acts ((s.setTop g).pushFrame (.throwing a)) ↔ Q (.found pc) d acts (((s.setTop g).pushFrame (.throwing a)).setVm vm'))
    (hrest : Steps tb e below ((s.setVm vm').setTop { g with pc := pc, stack := [.ref a] }) target) : Steps tb e below ((s.setTop g).pushFrame (.throwing a)) target := by
  obtain ⟨hgo, hw⟩ := h.throwing a
  obtain ⟨g₀, hg⟩ := Option.isSome_iff_exists.mp h.top
  obtain ⟨r, hr⟩ := State.topJava?_eq_some.mp hg
  have hone : (stepThrowing e ((s.setTop g).pushFrame (.throwing a)) a (.java g :: s.frames.tail)).1 = ((((s.setTop g).pushFrame (.throwing a)).setVm vm').setFrames (.java { g with pc := pc, stack := [.ref a] } :: s.frames.tail)) := by
    simp only [stepThrowing, searchFrame, vmDo]
    generalize hz : Sem.go _ e false [] ((s.setTop g).pushFrame (.throwing a)) = res
    obtain ⟨as, rfl, ha⟩ := Sem.eq_ok_of hz (a := Handler.found pc) (s' := ((s.setTop g).pushFrame (.throwing a)).setVm vm') (acts' := []) (by simp [hfind _ _ _ _])
    rfl
  refine Steps.head hgo hw ?_
  rw [stepThread_throwing (frames_entered h.top _), hone]
  have hr2 : (s.setVm vm').frames = .java g₀ :: r := hr
  have e1 : (((s.setTop g).pushFrame (.throwing a)).setVm vm').setFrames (.java { g with pc := pc, stack := [.ref a] } :: s.frames.tail) = (s.setVm vm').setTop { g with pc := pc, stack := [.ref a] } := by
    rw [State.setTop_of_frames _ hr2, State.setTop_of_frames _ hr, hr]
    show (((s.setVm vm').setFrames _).setFrames _).setFrames _ = _
    rw [State.setFrames_setFrames, State.setFrames_setFrames]
    rfl
  rw [e1]
  exact hrest
/-- the words that a catch asks, beside those of a throw -/
def XC (U : State) : Prop := XP U ∧ (Cond.classLink RL 13 xN).before #[] U = true
theorem xc_good {s U : State} {A B : Array Value} (hW : s.WarmedH U.vm) (h : (Cond.classLink RL 13 xN).before A s = true) : (Cond.classLink RL 13 xN).before B U = true := word_at hW (good_of_word (by decide +kernel)) h
theorem XC.kept {s U : State} (hW : s.WarmedH U.vm) (hq : ∀ q, q < s.heap.size → U.heap[q]? = s.heap[q]?) (h : XC s) : XC U := ⟨h.1.kept hW hq, xc_good hW h.2⟩
theorem sb_kept {s t : State} {cells slots : Nat} (h : s.sameButNew t [] cells slots) : ∀ q, q < s.heap.size → t.heap[q]? = s.heap[q]? := by
  intro q hq
  have hs : s.heap[q]? = some s.heap[q] := Array.getElem?_eq_getElem hq
  obtain ⟨c', h1, h2, h3, h4⟩ := h.2.2.2.2.2 q _ hs
  rw [h1, hs]
  have h5 : c'.slots = (s.heap[q]).slots := Array.ext_getElem? (fun i => h4 i (by simp))
  rw [h2, h5]
section CC
variable {p : Program} {l : Launch} {e : Env} {R : Room} {s : State} {m : MethodId} {args : Array Value} {below : List Frame} {meth : Method} {c : Code} {Q : State → Prop} {nL : Nat} {D : va_G} {cl : List vw_C} {tys : List (ClassId × FieldType)} {cc : ByteArray} {Ts : List Cond} {own : String} {pc pc' : Nat} {lv : List (Nat × Value)} {st : List Value} {wd : va_W}
set_option maxHeartbeats 1000000 in
theorem r_callT (C : JCR p m c cc nL s args Ts own D cl tys wd) {y : MethodName} {ws : List Cond} {rm : Room} {bytes : ByteArray} {maxL n index : Nat} {ret : Option FieldType} {As rest stk : List Value} {b ci : Nat} {Cn : String} {T : u_T} {N : Nat} {fs : List Value} {wc : va_W} (hPc : va_P D cl wc s.heap) (hD : va_D (fun _ => True) wc) (hM : mT l y ws rm D cl tys (.ref b :: As) wc) (cw : CallW R s args own Cn index y bytes maxL ret ws rm 1 6 n) (q0 : Nat) (he : wc[q0]? = some (b, .inr (ci, fs))) (hc : cl[ci]? = some (Cn, T, N)) (hlen : As.length = n) (hst : stk = As.reverse ++ .ref b :: rest) (hW : (rest.map fun v => v.category).sum ≤ 8) (hd : dec cc pc (.invokevirtual index) 3 pc')
    (hXP : XP s) {sp ep hp ct : Nat} (htab : c.exceptionTable.toList.map (fun h => (h.startPc, h.endPc, h.handlerPc, h.catchType)) = [(sp, ep, hp, ct)]) (hcov : (decide (sp ≤ pc) && decide (pc < ep)) = true) (hct : ct ≠ 0) (hlk : (Cond.classLink own ct xN).before args s = true) (hf : 1 ≤ R.cells ∧ 6 ≤ R.slots) {A : Nat → Prop} (hDA : va_D A wd)
    (k : ∀ ax, J p l e R s m args below meth c Q nL D cl A hp lv [.ref ax] wd 1 6) : JR p l e R s m args below meth c Q nL pc lv stk := by
  intro ls hl T0 hT X
  obtain ⟨⟨hrc, hrs, hfr, hlo, hws, hcw, hcode, hini, hy, hlenS, hlink⟩, hin, hsel⟩ := cw
  obtain ⟨mk, methM, hnamed, hmethM, hstM, habM⟩ := Cond.instanceMethod_spec hin
  obtain ⟨methM', cM, hmethM', hcM, -, hmlM, -, -, -, hsigM⟩ := Cond.code_spec hnamed hcode
  cases hmethM.symm.trans hmethM'
  obtain ⟨c2, r2, m2, q1, q2, q3, q4, kP, hkP, hkPi⟩ := Cond.selects_spec hsel
  obtain ⟨cellB, hcB, hoB, hclB⟩ := va_recv C.2.1 hPc hc he
  cases hclB.symm.trans q1
  cases (State.methodFound?_of_named hnamed hy).symm.trans q2
  cases hnamed.symm.trans q3
  have hselP : selectMethod e.platform s.vm cellB.cls mk = .method mk := by rw [Launch.admits_selectMethod X.admits]; exact q4
  have hdg : decode c.code pc = .ok (.invokevirtual index, 3) := by rw [C.1.2.1]; exact hd.1
  obtain ⟨vm₁, X₁, hstep₁⟩ := X.invokevirtual C.1.1 C.1.2.2.2.1 hlink hnamed hmethM hstM hkP hkPi hy (a := b) (cell := cellB) (by rw [hT]; exact hcB)
    (fun z h => by rw [h] at hoB; cases hoB) hselP hmethM habM hkP hkPi (g := F0 m pc ls stk) rfl (argsL := As) (rest := rest) (hlen.trans (hlenS _ hsigM)) hst hdg
  have hz : ((T0.setVm vm₁).heap = s.heap) := hT
  generalize hU : T0.setVm vm₁ = U at X₁ hstep₁ hz
  have h : At U m c below := X₁.here
  have hWU : s.WarmedH U.vm := X₁.warmed
  have hmY : U.vm.method? mk = some methM := by rw [hWU.alike.method?]; exact hmethM
  obtain ⟨kY, hkY, -⟩ := className_of_methodNamed (X₁.named hnamed)
  have hinitY : kY.init = .initialized := Cond.initialized_spec (findClass_of_methodNamed (X₁.named hnamed)) hkY (word_at (a' := args) hWU (good_of_word rfl) hini)
  have happ : (headSpec ws rm).appliesLoose y e.platform (U.calling (F0 m pc ls rest) mk (Value.ref b :: As).toArray) = true :=
    Spec.appliesLoose_calling (g := F0 m pc ls rest) h hdg (X₁.named hnamed) hkY hinitY
      (X₁.room_calling (g := F0 m pc ls rest) (R' := rm) (hl.1.trans C.1.2.2.1.symm) hmY hcM hfr (by rw [hmlM]; show 2 * 0 + (rest.map fun v => v.category).sum + (maxL + 11) + rm.locals ≤ R.locals; omega) (by omega) (by omega)) (atoms_intro fun w hw => hws w hw _ _ hWU)
  obtain ⟨mid, hmid⟩ := h.above
  have hfrm : (U.setTop (F0 m pc ls rest)).frames = (.java (F0 m pc ls rest) :: mid) ++ below := by rw [State.frames_setTop' _ h.top, hmid]; rfl
  have hblind : ∀ V : State, V.heap = s.heap → s.WarmedH V.vm → mPre D cl tys (.ref b :: As) wc s.heap.size (Value.ref b :: As).toArray V ∧ XP V := fun V h1 h2 => ⟨⟨rfl, by rw [h1], by rw [h1]; exact hPc, va_K.moved h2.alike C.2.1, hD⟩, hXP.kept h2 (fun q _ => by rw [h1])⟩
  obtain ⟨o, s₂, hsteps, -, hend, hq⟩ := Steps.callFree (hM s.heap.size) p X₁.admits X₁.cas X₁.clock (acts := []) hfrm happ (hblind _ hz hWU) trivial
  obtain ⟨ax, ce, rfl, hce, hcv, hfc, hWx, hsame⟩ := hq
  have hfr2 : s₂.frames = .throwing ax :: (U.setTop (F0 m pc ls rest)).frames := hend
  have hWx' : U.WarmedH s₂.vm := hWx
  have hW2 : s.WarmedH s₂.vm := State.WarmedH.trans hWU hWx'
  obtain ⟨g₀, hg0⟩ := Option.isSome_iff_exists.mp h.top
  obtain ⟨r, hr⟩ := State.topJava?_eq_some.mp hg0
  have hs₂ : s₂ = ((({ U with heap := s₂.heap, slotsUsed := s₂.slotsUsed } : State).setVm s₂.vm).setTop (F0 m pc ls rest)).pushFrame (.throwing ax) := by
    have e3 : s₂ = ({ (U.calling (F0 m pc ls rest) mk (Value.ref b :: As).toArray).setFrames s₂.frames with heap := s₂.heap, slotsUsed := s₂.slotsUsed } : State).setVm s₂.vm := by
      have h9 : s₂ = ({ s₂ with vm := (U.calling (F0 m pc ls rest) mk (Value.ref b :: As).toArray).vm } : State).setVm s₂.vm := rfl
      have h8 := hsame.1
      rw [show ((U.setTop (F0 m pc ls rest)).pushFrame (.invoking mk (Value.ref b :: As).toArray)) = U.calling (F0 m pc ls rest) mk (Value.ref b :: As).toArray from rfl] at h8
      rw [h8] at h9
      exact h9
    have hr' : (({ U with heap := s₂.heap, slotsUsed := s₂.slotsUsed } : State).setVm s₂.vm).frames = .java g₀ :: r := hr
    refine e3.trans ?_
    rw [hfr2, State.frames_setTop' _ h.top, State.calling_eq h.top, State.setFrames_setFrames, State.pushFrame, State.frames_setTop _ hr', State.setTop_of_frames _ hr', State.setFrames_setFrames, hr]
    rfl
  have hsame2 : U.sameButNew ({ U with heap := s₂.heap, slotsUsed := s₂.slotsUsed } : State) [] 1 6 := by
    obtain ⟨-, y2, y3, y4, y5, y6⟩ := hsame
    refine ⟨?_, y2, y3, y4, y5, y6⟩
    obtain ⟨t, ht, -⟩ := State.frames_cons hr
    show ({ U with heap := s₂.heap, slotsUsed := s₂.slotsUsed } : State) = { U.setFrames U.frames with heap := s₂.heap, slotsUsed := s₂.slotsUsed }
    rw [State.setFrames_self ht]
  have X' : Stand p l e R s m args below meth c (({ U with heap := s₂.heap, slotsUsed := s₂.slotsUsed } : State).setVm s₂.vm) [] 1 6 := by
    have h9 := X₁.same.trans (hsame2.setVm s.vm)
    rw [Nat.zero_add, Nat.zero_add] at h9
    exact ⟨X₁.admits, X₁.cas, X₁.clock, X₁.frames, X₁.room, X₁.hears, X₁.method, X₁.code, (X₁.here.setHeapUsed s₂.heap s₂.slotsUsed).setVm hWx'.alike, X₁.tail, hW2, X₁.limits, X₁.bytes, h9⟩
  have hpl : e.platform.magicAccessors = ({} : Platform).magicAccessors := by rw [X.admits.platform]
  obtain ⟨cX, hcX, hcl⟩ := Cond.classLink_spec C.1.2.2.2.1 hlk e.platform hpl
  have hfc1 : s.vm.findClass xN = some ce.cls := by
    have h9 : U.vm.findClass xN = some ce.cls := hfc
    rw [hWU.alike.findClass] at h9
    exact h9
  cases hcX.symm.trans hfc1
  obtain ⟨dk, cfx, nmx, kt, hdk, hcfx, hlox, hnmx, hfx, hkt, haccx, hopen⟩ := hcl.here
  have hWn : s.WarmedH (s₂.vm.noted m.cls ct (.cls ce.cls)) := hW2.noted hdk hopen (State.rightAt_cls hcl)
  obtain ⟨kt2, hkt2, -⟩ := hW2.alike.2.2 _ _ hkt
  obtain ⟨x, hx1⟩ : ∃ x, c.exceptionTable.toList = [x] := by
    have h9 := congrArg List.length htab
    rw [List.length_map] at h9
    exact List.length_eq_one_iff.mp h9
  rw [hx1] at htab
  simp only [List.map_cons, List.map_nil, List.cons.injEq, Prod.mk.injEq, and_true] at htab
  obtain ⟨t1, t2, t3, t4⟩ := htab
  subst t1; subst t2; subst t3; subst t4
  have hfit : s₂.vm.assignable ce.cls ce.cls = true := by
    show s₂.vm.assignableAux (255 + 1) ce.cls ce.cls = true
    rw [Vm.assignableAux]
    simp
  have hheap : ∀ q, q < s.heap.size → s₂.heap[q]? = s.heap[q]? := fun q hq => by
    have h9 := sb_kept hsame2 q (by rw [hz]; exact hq)
    rw [hz] at h9
    exact h9
  have hszh : s.heap.size ≤ s₂.heap.size := by
    have h9 := hsame2.2.1
    rw [hz] at h9
    exact h9
  obtain ⟨t, k1, k2⟩ := k ax s₂.heap [] ls hl (C.2.2.kept (fun i q hi => hheap q.1 (C.2.2 i q hi).lt)) hDA ⟨hszh, fun q hq _ => hheap q hq, fun l hl => by cases hl⟩ ((({ U with heap := s₂.heap, slotsUsed := s₂.slotsUsed } : State).setVm s₂.vm).setVm (s₂.vm.noted m.cls x.catchType (.cls ce.cls))) rfl (X'.noted hWn)
  refine ⟨t, hstep₁ _ fun acts => ?_, k2⟩
  rw [doInvoke_state]
  refine hsteps.trans ?_
  rw [hs₂]
  refine ct_step (s := ({ U with heap := s₂.heap, slotsUsed := s₂.slotsUsed } : State).setVm s₂.vm) (g := F0 m pc ls rest) (pc := x.handlerPc) (vm' := s₂.vm.noted m.cls x.catchType (.cls ce.cls)) X'.here ?_ k1
  exact ct_find (s := ((({ U with heap := s₂.heap, slotsUsed := s₂.slotsUsed } : State).setVm s₂.vm).setTop (F0 m pc ls rest)).pushFrame (.throwing ax)) (f := F0 m pc ls rest) (meth := meth) (code := c) X'.method' X'.code hx1 hcov hct (c := ce.cls) (cell := ce) (hW2.classLinks hcl) hce (fun k h9 => by rw [hcv] at h9; cases h9) hkt2 hkt2 hfit
end CC
