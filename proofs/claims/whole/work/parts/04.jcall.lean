/-! contracts: from the world w0 with arguments av: the answer and the world behind it are as 'post' says -/
def mPre (D : va_G) (cl : List vw_C) (tys : List (ClassId × FieldType)) (av : List Value) (w0 : va_W) (sz : Nat) : Array Value → State → Prop := va_Pc av (fun U => U.heap.size = sz ∧ va_P D cl w0 U.heap ∧ va_K D cl tys U ∧ va_D (fun _ => True) w0)
def mEnd (D : va_G) (cl : List vw_C) (tys : List (ClassId × FieldType)) (w0 : va_W) (sz : Nat) (w1 : va_W) (t : State) : Prop := va_P D cl w1 t.heap ∧ va_K D cl tys t ∧ va_D (va_A w0 sz) w1
def mQI (D : va_G) (cl : List vw_C) (tys : List (ClassId × FieldType)) (w0 : va_W) (sz : Nat) (post : Int → va_W → Prop) : Array Value → State → Outcome → State → Prop := va_Qi (fun r w1 => ∃ z : Int, r = zI z ∧ post z w1) (fun w1 t => mEnd D cl tys w0 sz w1 t) (va_A w0 sz)
def mQV (D : va_G) (cl : List vw_C) (tys : List (ClassId × FieldType)) (w0 : va_W) (sz : Nat) (post : va_W → Prop) : Array Value → State → Outcome → State → Prop := va_Qv (fun w1 => post w1) (fun w1 t => mEnd D cl tys w0 sz w1 t) (va_A w0 sz)
def mI (l : Launch) (y : MethodName) (ws : List Cond) (rm : Room) (D : va_G) (cl : List vw_C) (tys : List (ClassId × FieldType)) (av : List Value) (w0 : va_W) (mc ms : Nat) (post : Int → va_W → Prop) : Prop := ∀ sz : Nat, Met l y ws rm (mPre D cl tys av w0 sz) (mQI D cl tys w0 sz post) mc ms (va_A w0 sz)
def mV (l : Launch) (y : MethodName) (ws : List Cond) (rm : Room) (D : va_G) (cl : List vw_C) (tys : List (ClassId × FieldType)) (av : List Value) (w0 : va_W) (mc ms : Nat) (post : va_W → Prop) : Prop := ∀ sz : Nat, Met l y ws rm (mPre D cl tys av w0 sz) (mQV D cl tys w0 sz post) mc ms (va_A w0 sz)
theorem mPre_blind {D : va_G} {cl : List vw_C} {tys : List (ClassId × FieldType)} {av : List Value} {w0 : va_W} {sz : Nat} : FrameBlind (mPre D cl tys av w0 sz) := fun a U g mk q => by
  obtain ⟨q0, q1, qP, qK, qD⟩ := q
  exact ⟨q0, q1, qP, va_K.moved (u := U) (U := U.calling g mk a) (Vm.Alike.refl U.vm) qK, qD⟩
theorem sub_fm {wd wc : va_W} {is : List Nat} (h : is.map (fun i => wd[i]?) = wc.map some) : is.filterMap (fun i => wd[i]?) = wc := by
  have h1 : is.filterMap (fun i => wd[i]?) = (is.map (fun i => wd[i]?)).filterMap id := by rw [List.filterMap_map]; rfl
  rw [h1, h, List.filterMap_map]
  simp
theorem mI_of {l : Launch} {D : va_G} {cl : List vw_C} {tys : List (ClassId × FieldType)} {y : MethodName} {ws ws' : List Cond} {rm : Room} {av : List Value} {w0 : va_W} {mc ms : Nat} {post : Int → va_W → Prop} {cc : ByteArray} {maxL : Nat} {rt : FieldType} {own : String} (hyo : y.cls = own) (hy : plainName y.cls = true) (hw : ws = Cond.code y cc maxL (some rt) :: ws') (hlen : (lg_sl av).length ≤ maxL)
    (body : ∀ (p : Program) (e : Env) (s : State) (m : MethodId) (args : Array Value) (below : List Frame) (meth : Method) (c : Code), JC p m c cc maxL s args ws own D cl tys (va_A w0 s.heap.size) → meth.sig.returnType = (some rt) → meth.locks = false → meth.name = y.name → J p l e rm s m args below meth c (MQ below (mQI D cl tys w0 s.heap.size post) args s mc ms (va_A w0 s.heap.size)) maxL D cl (va_A w0 s.heap.size) 0 (lv_args 0 av) [] w0 0 0) : mI l y ws rm D cl tys av w0 mc ms post := by
  intro sz
  refine Met.ofW (cc := cc) (maxL := maxL) (ret := (some rt)) hy hw ?_
  intro p e s m args below meth c s₁ B hml hv
  obtain ⟨ha, hsz, hP, hK, hD0⟩ := hv
  subst hsz
  have hts := atoms_spec (ws := ws) B.pre
  have hown : s.vm.findClass own = some m.cls := hyo ▸ findClass_of_methodNamed B.named
  have hb := body p e s m args below meth c ⟨⟨B.exec, B.bytes, hml, hown, hts⟩, hK, fun q h => Or.inr h⟩ B.returns B.notSynchronized (name_of_methodNamed B.named B.method).1
  have hl := lv_entry av (n := maxL) hlen
  subst ha
  rw [lg_entry_eq]
  exact hb s.heap [] _ hl hP hD0.self va_S.rf
theorem mV_of {l : Launch} {D : va_G} {cl : List vw_C} {tys : List (ClassId × FieldType)} {y : MethodName} {ws ws' : List Cond} {rm : Room} {av : List Value} {w0 : va_W} {mc ms : Nat} {post : va_W → Prop} {cc : ByteArray} {maxL : Nat} {own : String} (hyo : y.cls = own) (hy : plainName y.cls = true) (hw : ws = Cond.code y cc maxL none :: ws') (hlen : (lg_sl av).length ≤ maxL)
    (body : ∀ (p : Program) (e : Env) (s : State) (m : MethodId) (args : Array Value) (below : List Frame) (meth : Method) (c : Code), JC p m c cc maxL s args ws own D cl tys (va_A w0 s.heap.size) → meth.sig.returnType = none → meth.locks = false → meth.name = y.name → J p l e rm s m args below meth c (MQ below (mQV D cl tys w0 s.heap.size post) args s mc ms (va_A w0 s.heap.size)) maxL D cl (va_A w0 s.heap.size) 0 (lv_args 0 av) [] w0 0 0) : mV l y ws rm D cl tys av w0 mc ms post := by
  intro sz
  refine Met.ofW (cc := cc) (maxL := maxL) (ret := none) hy hw ?_
  intro p e s m args below meth c s₁ B hml hv
  obtain ⟨ha, hsz, hP, hK, hD0⟩ := hv
  subst hsz
  have hts := atoms_spec (ws := ws) B.pre
  have hown : s.vm.findClass own = some m.cls := hyo ▸ findClass_of_methodNamed B.named
  have hb := body p e s m args below meth c ⟨⟨B.exec, B.bytes, hml, hown, hts⟩, hK, fun q h => Or.inr h⟩ B.returns B.notSynchronized (name_of_methodNamed B.named B.method).1
  have hl := lv_entry av (n := maxL) hlen
  subst ha
  rw [lg_entry_eq]
  exact hb s.heap [] _ hl hP hD0.self va_S.rf
section JR2
variable {p : Program} {l : Launch} {e : Env} {R : Room} {s : State} {m : MethodId} {args : Array Value} {below : List Frame} {meth : Method} {c : Code} {Q : State → Prop} {nL : Nat} {D : va_G} {cl : List vw_C} {tys : List (ClassId × FieldType)} {A : Nat → Prop} {cc : ByteArray} {Ts : List Cond} {own : String} {pc pc' : Nat} {lv lv' : List (Nat × Value)} {st : List Value} {wd wd' : va_W} {cells slots : Nat}
theorem j_iret {w0 : va_W} {post : Int → va_W → Prop} (C : JC p m c cc nL s args Ts own D cl tys (va_A w0 s.heap.size)) {rt : FieldType} {z : Int} (hr : meth.sig.returnType = some rt) (hlocks : meth.locks = false) (hn : narrow rt (.int (zI z)) = .int (zI z)) (hd : dec cc pc .ireturn 1 pc') (hp : post z wd) : J p l e R s m args below meth c (MQ below (mQI D cl tys w0 s.heap.size post) args s cells slots (va_A w0 s.heap.size)) nL D cl (va_A w0 s.heap.size) pc lv ([.int (zI z)]) wd cells slots := fun H locs ls hl hP hD hS => W.zret C.1.1 C.1.2.1 hr hn (fun t ht hW => ⟨⟨zI z, wd, rfl, ⟨z, rfl, hp⟩, by rw [ht]; exact hP, va_K.moved hW.alike C.2.1, hD⟩, hS.F ht⟩) hS.2.2 hd.1 hlocks
theorem j_vret {w0 : va_W} {post : va_W → Prop} (C : JC p m c cc nL s args Ts own D cl tys (va_A w0 s.heap.size)) (hr : meth.sig.returnType = none) (hlocks : meth.locks = false) (hd : dec cc pc .return_ 1 pc') (hp : post wd) : J p l e R s m args below meth c (MQ below (mQV D cl tys w0 s.heap.size post) args s cells slots (va_A w0 s.heap.size)) nL D cl (va_A w0 s.heap.size) pc lv ([]) wd cells slots := fun H locs ls hl hP hD hS => W.vret C.1.1 C.1.2.1 hr (fun t ht hW => ⟨⟨wd, rfl, hp, by rw [ht]; exact hP, va_K.moved hW.alike C.2.1, hD⟩, hS.F ht⟩) hS.2.2 hd.1 hlocks
theorem j_perm (is : List Nat) (hn : va_nd is = true) (h : is.map (fun i => wd[i]?) = wd'.map some) (k : J p l e R s m args below meth c Q nL D cl A pc lv st wd' cells slots) : J p l e R s m args below meth c Q nL D cl A pc lv st wd cells slots := fun H locs ls hl hP hD hS => k H locs ls hl (hP.sub is (sub_fm h)) (hD.sub is hn h) hS
theorem j_eq {st' : List Value} (h1 : lv = lv') (h2 : st = st') (h3 : wd = wd') (k : J p l e R s m args below meth c Q nL D cl A pc lv' st' wd' cells slots) : J p l e R s m args below meth c Q nL D cl A pc lv st wd cells slots := by subst h1; subst h2; subst h3; exact k
theorem j_callVi (C : JC p m c cc nL s args Ts own D cl tys A) {y : MethodName} {ws : List Cond} {rm : Room} {bytes : ByteArray} {maxL mc ms n index : Nat} {ret : Option FieldType} {As rest stk : List Value} {wc : va_W} {post : Int → va_W → Prop} {b ci : Nat} {Cn : String} {T : u_T} {N : Nat} {fs : List Value}  (hM : mI l y ws rm D cl tys (.ref b :: As) wc mc ms post) (cw : CallW R s args own Cn index y bytes maxL ret ws rm mc ms n) (isC isR : List Nat) {wr : va_W} (hC : isC.map (fun i => wd[i]?) = wc.map some) (hnC : va_nd isC = true) (hR : isR.map (fun i => wd[i]?) = wr.map some) (hnR : va_nd isR = true) (hdis : ∀ i ∈ isR, i ∉ isC) (q0 : Nat) (he : wd[q0]? = some (b, .inr (ci, fs))) (hc : cl[ci]? = some (Cn, T, N)) (hlen : As.length = n) (hst : stk = As.reverse ++ .ref b :: rest) (hW : (rest.map fun v => v.category).sum ≤ 8) (hd : dec cc pc (.invokevirtual index) 3 pc') (hf : cells + mc ≤ R.cells ∧ slots + ms ≤ R.slots) (k : ∀ z w1, post z w1 → J p l e R s m args below meth c Q nL D cl A pc' lv (.int (zI z) :: rest) (wr ++ w1) (cells + mc) (slots + ms)) : J p l e R s m args below meth c Q nL D cl A pc lv stk wd cells slots := by
  intro H locs ls hl hP hD hS
  have hPc : va_P D cl wc H := hP.sub isC (sub_fm hC)
  have hDc := hD.sub isC hnC hC
  have hFc := va_free (wc := wc) hD hS C.2.2 isC hC
  refine va_calli (va_runV (As := As) (rest := rest) C.1 (hM H.size) cw ⟨mPre_blind, va_recv C.2.1 hP hc he, fun U hU hW => ⟨rfl, by rw [hU], by rw [hU]; exact hPc, va_K.moved hW.alike C.2.1, hDc.weaken (fun _ _ _ _ => trivial)⟩⟩ rfl hlen hl.1 hst (lv_room hW) hd.1 hf) hS (fun q _ h => hFc q h) hFc (fun r u t H1 locs1 ht hvm hw hB hz1 hk1 hS1 => ?_)
  obtain ⟨z, rfl, hp⟩ := hw
  obtain ⟨hP1, hK1, hD1⟩ := hB
  rw [ht] at hP1
  obtain ⟨hPj, hDj⟩ := va_join hP hD isC isR hC hR hnR hdis hk1 hFc hP1 hD1
  exact hd.2 ▸ k z u hp H1 locs1 ls hl hPj hDj hS1
theorem j_callVv (C : JC p m c cc nL s args Ts own D cl tys A) {y : MethodName} {ws : List Cond} {rm : Room} {bytes : ByteArray} {maxL mc ms n index : Nat} {ret : Option FieldType} {As rest stk : List Value} {wc : va_W} {post : va_W → Prop} {b ci : Nat} {Cn : String} {T : u_T} {N : Nat} {fs : List Value}  (hM : mV l y ws rm D cl tys (.ref b :: As) wc mc ms post) (cw : CallW R s args own Cn index y bytes maxL ret ws rm mc ms n) (isC isR : List Nat) {wr : va_W} (hC : isC.map (fun i => wd[i]?) = wc.map some) (hnC : va_nd isC = true) (hR : isR.map (fun i => wd[i]?) = wr.map some) (hnR : va_nd isR = true) (hdis : ∀ i ∈ isR, i ∉ isC) (q0 : Nat) (he : wd[q0]? = some (b, .inr (ci, fs))) (hc : cl[ci]? = some (Cn, T, N)) (hlen : As.length = n) (hst : stk = As.reverse ++ .ref b :: rest) (hW : (rest.map fun v => v.category).sum ≤ 8) (hd : dec cc pc (.invokevirtual index) 3 pc') (hf : cells + mc ≤ R.cells ∧ slots + ms ≤ R.slots) (k : ∀ w1, post w1 → J p l e R s m args below meth c Q nL D cl A pc' lv rest (wr ++ w1) (cells + mc) (slots + ms)) : J p l e R s m args below meth c Q nL D cl A pc lv stk wd cells slots := by
  intro H locs ls hl hP hD hS
  have hPc : va_P D cl wc H := hP.sub isC (sub_fm hC)
  have hDc := hD.sub isC hnC hC
  have hFc := va_free (wc := wc) hD hS C.2.2 isC hC
  refine va_callv (va_runV (As := As) (rest := rest) C.1 (hM H.size) cw ⟨mPre_blind, va_recv C.2.1 hP hc he, fun U hU hW => ⟨rfl, by rw [hU], by rw [hU]; exact hPc, va_K.moved hW.alike C.2.1, hDc.weaken (fun _ _ _ _ => trivial)⟩⟩ rfl hlen hl.1 hst (lv_room hW) hd.1 hf) hS (fun q _ h => hFc q h) hFc (fun u t H1 locs1 ht hvm hw hB hz1 hk1 hS1 => ?_)
  obtain ⟨hP1, hK1, hD1⟩ := hB
  rw [ht] at hP1
  obtain ⟨hPj, hDj⟩ := va_join hP hD isC isR hC hR hnR hdis hk1 hFc hP1 hD1
  exact hd.2 ▸ k u hw H1 locs1 ls hl hPj hDj hS1
theorem j_callSi (C : JC p m c cc nL s args Ts own D cl tys A) {y : MethodName} {ws : List Cond} {rm : Room} {bytes : ByteArray} {maxL mc ms n index : Nat} {ret : Option FieldType} {As rest stk : List Value} {wc : va_W} {post : Int → va_W → Prop}  (hM : mI l y ws rm D cl tys As wc mc ms post) (cw : CallB R s args own index y bytes maxL ret ws rm mc ms n ∧ (Cond.static y).before args s = true) (isC isR : List Nat) {wr : va_W} (hC : isC.map (fun i => wd[i]?) = wc.map some) (hnC : va_nd isC = true) (hR : isR.map (fun i => wd[i]?) = wr.map some) (hnR : va_nd isR = true) (hdis : ∀ i ∈ isR, i ∉ isC)  (hlen : As.length = n) (hst : stk = As.reverse ++ rest) (hW : (rest.map fun v => v.category).sum ≤ 8) (hd : dec cc pc (.invokestatic index) 3 pc') (hf : cells + mc ≤ R.cells ∧ slots + ms ≤ R.slots) (k : ∀ z w1, post z w1 → J p l e R s m args below meth c Q nL D cl A pc' lv (.int (zI z) :: rest) (wr ++ w1) (cells + mc) (slots + ms)) : J p l e R s m args below meth c Q nL D cl A pc lv stk wd cells slots := by
  intro H locs ls hl hP hD hS
  have hPc : va_P D cl wc H := hP.sub isC (sub_fm hC)
  have hDc := hD.sub isC hnC hC
  have hFc := va_free (wc := wc) hD hS C.2.2 isC hC
  refine va_calli (va_runS (As := As) (rest := rest) C.1 (hM H.size) cw ⟨mPre_blind, fun U hU hW => ⟨rfl, by rw [hU], by rw [hU]; exact hPc, va_K.moved hW.alike C.2.1, hDc.weaken (fun _ _ _ _ => trivial)⟩⟩ rfl hlen hl.1 hst (lv_room hW) hd.1 hf) hS (fun q _ h => hFc q h) hFc (fun r u t H1 locs1 ht hvm hw hB hz1 hk1 hS1 => ?_)
  obtain ⟨z, rfl, hp⟩ := hw
  obtain ⟨hP1, hK1, hD1⟩ := hB
  rw [ht] at hP1
  obtain ⟨hPj, hDj⟩ := va_join hP hD isC isR hC hR hnR hdis hk1 hFc hP1 hD1
  exact hd.2 ▸ k z u hp H1 locs1 ls hl hPj hDj hS1
theorem j_callSv (C : JC p m c cc nL s args Ts own D cl tys A) {y : MethodName} {ws : List Cond} {rm : Room} {bytes : ByteArray} {maxL mc ms n index : Nat} {ret : Option FieldType} {As rest stk : List Value} {wc : va_W} {post : va_W → Prop}  (hM : mV l y ws rm D cl tys As wc mc ms post) (cw : CallB R s args own index y bytes maxL ret ws rm mc ms n ∧ (Cond.static y).before args s = true) (isC isR : List Nat) {wr : va_W} (hC : isC.map (fun i => wd[i]?) = wc.map some) (hnC : va_nd isC = true) (hR : isR.map (fun i => wd[i]?) = wr.map some) (hnR : va_nd isR = true) (hdis : ∀ i ∈ isR, i ∉ isC)  (hlen : As.length = n) (hst : stk = As.reverse ++ rest) (hW : (rest.map fun v => v.category).sum ≤ 8) (hd : dec cc pc (.invokestatic index) 3 pc') (hf : cells + mc ≤ R.cells ∧ slots + ms ≤ R.slots) (k : ∀ w1, post w1 → J p l e R s m args below meth c Q nL D cl A pc' lv rest (wr ++ w1) (cells + mc) (slots + ms)) : J p l e R s m args below meth c Q nL D cl A pc lv stk wd cells slots := by
  intro H locs ls hl hP hD hS
  have hPc : va_P D cl wc H := hP.sub isC (sub_fm hC)
  have hDc := hD.sub isC hnC hC
  have hFc := va_free (wc := wc) hD hS C.2.2 isC hC
  refine va_callv (va_runS (As := As) (rest := rest) C.1 (hM H.size) cw ⟨mPre_blind, fun U hU hW => ⟨rfl, by rw [hU], by rw [hU]; exact hPc, va_K.moved hW.alike C.2.1, hDc.weaken (fun _ _ _ _ => trivial)⟩⟩ rfl hlen hl.1 hst (lv_room hW) hd.1 hf) hS (fun q _ h => hFc q h) hFc (fun u t H1 locs1 ht hvm hw hB hz1 hk1 hS1 => ?_)
  obtain ⟨hP1, hK1, hD1⟩ := hB
  rw [ht] at hP1
  obtain ⟨hPj, hDj⟩ := va_join hP hD isC isR hC hR hnR hdis hk1 hFc hP1 hD1
  exact hd.2 ▸ k u hw H1 locs1 ls hl hPj hDj hS1
theorem j_callIv (C : JC p m c cc nL s args Ts own D cl tys A) {y : MethodName} {ws : List Cond} {rm : Room} {bytes : ByteArray} {maxL mc ms n index : Nat} {As rest stk : List Value} {wc : va_W} {post : va_W → Prop} {b : Nat} (hM : mV l y ws rm D cl tys (.ref b :: As) wc mc ms post) (cw : CallB R s args own index y bytes maxL none ws rm mc ms n ∧ y.name = "<init>" ∧ (Cond.instanceMethod y).before args s = true) (isC isR : List Nat) {wr : va_W} (hC : isC.map (fun i => wd[i]?) = wc.map some) (hnC : va_nd isC = true) (hR : isR.map (fun i => wd[i]?) = wr.map some) (hnR : va_nd isR = true) (hdis : ∀ i ∈ isR, i ∉ isC)  (hlen : As.length = n) (hst : stk = As.reverse ++ .ref b :: rest) (hW : (rest.map fun v => v.category).sum ≤ 8) (hd : dec cc pc (.invokespecial index) 3 pc') (hf : cells + mc ≤ R.cells ∧ slots + ms ≤ R.slots) (k : ∀ w1, post w1 → J p l e R s m args below meth c Q nL D cl A pc' lv rest (wr ++ w1) (cells + mc) (slots + ms)) : J p l e R s m args below meth c Q nL D cl A pc lv stk wd cells slots := by
  intro H locs ls hl hP hD hS
  have hPc : va_P D cl wc H := hP.sub isC (sub_fm hC)
  have hDc := hD.sub isC hnC hC
  have hFc := va_free (wc := wc) hD hS C.2.2 isC hC
  refine va_callv (va_runI (As := As) (rest := rest) C.1 (hM H.size) cw ⟨mPre_blind, fun U hU hW => ⟨rfl, by rw [hU], by rw [hU]; exact hPc, va_K.moved hW.alike C.2.1, hDc.weaken (fun _ _ _ _ => trivial)⟩⟩ rfl hlen hl.1 hst (lv_room hW) hd.1 hf) hS (fun q _ h => hFc q h) hFc (fun u t H1 locs1 ht hvm hw hB hz1 hk1 hS1 => ?_)
  obtain ⟨hP1, hK1, hD1⟩ := hB
  rw [ht] at hP1
  obtain ⟨hPj, hDj⟩ := va_join hP hD isC isR hC hR hnR hdis hk1 hFc hP1 hD1
  exact hd.2 ▸ k u hw H1 locs1 ls hl hPj hDj hS1
theorem j_mmax (C : JC p m c cc nL s args Ts own D cl tys A) {index : Nat} {a b : Int} (hlink : Cond.methodLink own index Lib.Math.max.name ∈ Ts) (hstat : Cond.static Lib.Math.max.name ∈ Ts) (hini : Cond.initialized "java/lang/Math" ∈ Ts) (hcode : Cond.code Lib.Math.max.name Lib.Math.max.code 2 (some .int) ∈ Ts) (hframes : 1 ≤ R.frames) (hlocals : (st.map fun v => v.category).sum + 13 ≤ R.locals) (hcs : cells ≤ R.cells ∧ slots ≤ R.slots) (ha : (-2147483648 ≤ a ∧ a ≤ 2147483647)) (hb : (-2147483648 ≤ b ∧ b ≤ 2147483647)) (hd : dec cc pc (.invokestatic index) 3 pc') (k : J p l e R s m args below meth c Q nL D cl A pc' lv (.int (zI (max a b)) :: st) wd cells slots) : J p l e R s m args below meth c Q nL D cl A pc lv (.int (zI b) :: .int (zI a) :: st) wd cells slots := by
  intro H locs ls hl hP hD hS
  have C5 := C.1.2.2.2.2
  refine va_mmax C.1.1 C.1.2.1 (C.1.2.2.1.trans hl.1.symm) C.1.2.2.2.1 (C5 _ hlink) (C5 _ hstat) (C5 _ hini) (C5 _ hcode) hframes hlocals hcs.1 hcs.2 hd.1 ?_
  have he : (if zI a < zI b then zI b else zI a) = zI (max a b) := by
    by_cases h : a < b
    · rw [if_pos ((zI_lt ha hb).mpr h)]; congr 1; omega
    · rw [if_neg (fun q => h ((zI_lt ha hb).mp q))]; congr 1; omega
  rw [he]
  exact hd.2 ▸ k H locs ls hl hP hD hS
theorem j_mmin (C : JC p m c cc nL s args Ts own D cl tys A) {index : Nat} {a b : Int} (hlink : Cond.methodLink own index Lib.Math.min.name ∈ Ts) (hstat : Cond.static Lib.Math.min.name ∈ Ts) (hini : Cond.initialized "java/lang/Math" ∈ Ts) (hcode : Cond.code Lib.Math.min.name Lib.Math.min.code 2 (some .int) ∈ Ts) (hframes : 1 ≤ R.frames) (hlocals : (st.map fun v => v.category).sum + 13 ≤ R.locals) (hcs : cells ≤ R.cells ∧ slots ≤ R.slots) (ha : (-2147483648 ≤ a ∧ a ≤ 2147483647)) (hb : (-2147483648 ≤ b ∧ b ≤ 2147483647)) (hd : dec cc pc (.invokestatic index) 3 pc') (k : J p l e R s m args below meth c Q nL D cl A pc' lv (.int (zI (min a b)) :: st) wd cells slots) : J p l e R s m args below meth c Q nL D cl A pc lv (.int (zI b) :: .int (zI a) :: st) wd cells slots := by
  intro H locs ls hl hP hD hS
  have C5 := C.1.2.2.2.2
  refine va_mmin C.1.1 C.1.2.1 (C.1.2.2.1.trans hl.1.symm) C.1.2.2.2.1 (C5 _ hlink) (C5 _ hstat) (C5 _ hini) (C5 _ hcode) hframes hlocals hcs.1 hcs.2 hd.1 ?_
  have he : (if zI b < zI a then zI b else zI a) = zI (min a b) := by
    by_cases h : b < a
    · rw [if_pos ((zI_lt hb ha).mpr h)]; congr 1; omega
    · rw [if_neg (fun q => h ((zI_lt hb ha).mp q))]; congr 1; omega
  rw [he]
  exact hd.2 ▸ k H locs ls hl hP hD hS
end JR2
