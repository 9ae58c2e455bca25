/-! THE LAW's OWN METHODS: put, octet, grey (each catches), cell -/
/-- the law's 'out': an array of one long -/
abbrev oL (cA : ClassId) (f : Nat → Int64) : va_E := .inl (cA, 1, .inr (.inl f))
section JL9
variable {p : Program} {l : Launch} {e : Env} {R : Room} {s : State} {m : MethodId} {args : Array Value} {below : List Frame} {meth : Method} {c : Code} {Q : State → Prop} {nL : Nat} {D : va_G} {cl : List vw_C} {tys : List (ClassId × FieldType)} {A : Nat → Prop} {cc : ByteArray} {Ts : List Cond} {own : String} {pc pc' : Nat} {lv lv' : List (Nat × Value)} {st : List Value} {wd wd' : va_W} {cells slots : Nat}
theorem j_i2l (C : JC p m c cc nL s args Ts own D cl tys A) {x : Int32} (hd : dec cc pc .i2l 1 pc') (k : J p l e R s m args below meth c Q nL D cl A pc' lv (.long x.toInt64 :: st) wd cells slots) : J p l e R s m args below meth c Q nL D cl A pc lv (.int x :: st) wd cells slots := fun H locs ls hl hP hD hS => lv_i2l C.1.1 C.1.2.1 hd.1 rfl (by exact hd.2 ▸ k H locs ls hl hP hD hS)
theorem j_last (C : JC p m c cc nL s args Ts own D cl tys A) {a : Nat} {cA : ClassId} {f : Nat → Int64} {x : Int64} (q0 t0 : Nat) (ha : wd[q0]? = some (a, oL cA f)) (ht : tys[t0]? = some (cA, .long)) (hd : dec cc pc .lastore 1 pc') (k : ∀ f' : Nat → Int64, f' 0 = x → J p l e R s m args below meth c Q nL D cl A pc' lv st (wd.set q0 (a, oL cA f')) cells slots) : J p l e R s m args below meth c Q nL D cl A pc lv (.long x :: .int (zI 0) :: .ref a :: st) wd cells slots := by
  intro H locs ls hl hP hD hS
  refine va_last C.1.1 C.1.2.1 C.2.1 hP hD hS q0 t0 ha ht (zI_in (k := 0) (by omega) (by omega)) hd.1 (fun H1 locs1 hP1 hD1 hS1 => ?_)
  exact hd.2 ▸ k _ (by show vp_updL f (zI ((0 : Nat) : Int)).toNatClampNeg x 0 = x; rw [zI_clamp (by omega)]; simp [vp_updL]) H1 locs1 ls hl hP1 hD1 hS1
theorem j_lald (C : JC p m c cc nL s args Ts own D cl tys A) {a : Nat} {cA : ClassId} {f : Nat → Int64} (q0 t0 : Nat) (ha : wd[q0]? = some (a, oL cA f)) (ht : tys[t0]? = some (cA, .long)) (hd : dec cc pc .laload 1 pc') (k : J p l e R s m args below meth c Q nL D cl A pc' lv (.long (f 0) :: st) wd cells slots) : J p l e R s m args below meth c Q nL D cl A pc lv (.int (zI 0) :: .ref a :: st) wd cells slots := by
  intro H locs ls hl hP hD hS
  refine va_lald C.1.1 C.1.2.1 C.2.1 hP q0 t0 ha ht (zI_in (k := 0) (by omega) (by omega)) hd.1 ?_
  rw [show (zI 0).toNatClampNeg = 0 from zI_clamp (k := 0) (by omega)]
  exact hd.2 ▸ k H locs ls hl hP hD hS
theorem j_lcmpE (C : JC p m c cc nL s args Ts own D cl tys A) {x y : Int64} (hxy : x = y) (hd : dec cc pc .lcmp 1 pc') (k : J p l e R s m args below meth c Q nL D cl A pc' lv (.int (zI 0) :: st) wd cells slots) : J p l e R s m args below meth c Q nL D cl A pc lv (.long y :: .long x :: st) wd cells slots := by
  intro H locs ls hl hP hD hS
  refine W.lcmp C.1.1 C.1.2.1 hd.1 ?_
  rw [show lg_cmp x y = zI 0 by subst hxy; rw [zI_0]; simp [lg_cmp]]
  exact hd.2 ▸ k H locs ls hl hP hD hS
/-- the script: read, and its length -/
theorem j_sld (C : JC p m c cc nL s args Ts own D cl tys A) {b L : Nat} {xs : Nat → Int32} (hX : va_X b L xs s s.heap) (hbl : b < s.heap.size) (hbA : ¬ A b) {z : Int} (i : Nat) (hz : z = (i : Int)) (hi : i < L) (hL : L ≤ 2050) (hd : dec cc pc .iaload 1 pc') (k : J p l e R s m args below meth c Q nL D cl A pc' lv (.int (zI (xs i).toInt) :: st) wd cells slots) : J p l e R s m args below meth c Q nL D cl A pc lv (.int (zI z) :: .ref b :: st) wd cells slots := by
  subst hz
  intro H locs ls hl hP hD hS
  refine va_sld C.1.1 C.1.2.1 hX hbl hbA hS (zI_in hi (by omega)) hd.1 ?_
  rw [zI_clamp (by omega)]
  have k9 := k H locs ls hl hP hD hS
  rw [show zI (xs i).toInt = xs i from Int32.ofInt_toInt _] at k9
  exact hd.2 ▸ k9
theorem j_slen (C : JC p m c cc nL s args Ts own D cl tys A) {b L : Nat} {xs : Nat → Int32} (hX : va_X b L xs s s.heap) (hbl : b < s.heap.size) (hbA : ¬ A b) (hd : dec cc pc .arraylength 1 pc') (k : J p l e R s m args below meth c Q nL D cl A pc' lv (.int (zI (L : Int)) :: st) wd cells slots) : J p l e R s m args below meth c Q nL D cl A pc lv (.ref b :: st) wd cells slots := by
  intro H locs ls hl hP hD hS
  refine va_slen C.1.1 C.1.2.1 hX hbl hbA hS hd.1 ?_
  rw [← zI_nat]
  exact hd.2 ▸ k H locs ls hl hP hD hS
end JL9
abbrev rmL_put : Room := { frames := 8, cells := 1, slots := 6, locals := 145 }
set_option maxHeartbeats 4000000 in
set_option maxRecDepth 100000 in
theorem ctL_put_off (l : Launch) (D : va_G) (cB cI cZ cL : ClassId) (ad : Nat → Nat) (w h : Nat) (hs : Sz w h) (aG aS : Nat) (G S CB SB DK DR RE PF PK CO : Nat → Int) (rc pn kn cn : Int) (hl9 : l.stackTraces = false) (x y v : Int) (hx : -2147483648 ≤ x ∧ x ≤ 2147483647) (hy : -2147483648 ≤ y ∧ y ≤ 2147483647) (hon : ¬ (0 ≤ x ∧ x < (w : Int) ∧ 0 ≤ y ∧ y < (h : Int))) : mIX l yL_put wsL_put rmL_put D vwCl (tyl cB cI cZ cL) [.ref (ad 0), .int (zI x), .int (zI y), .int (zI v)] (wX cB cI cZ ad w h aG aS G S CB SB DK DR RE PF PK CO rc pn kn cn) 1 6 (fun z w1 => z = 1 ∧ w1 = wX cB cI cZ ad w h aG aS G S CB SB DK DR RE PF PK CO rc pn kn cn) := by
  have hm := hs.mul
  refine mIX_of (own := RL) rfl (by decide) rfl (Nat.le_of_ble_eq_true rfl) ?_
  intro p e s m args below meth c C CR hD hXC hr hlocks htab
  show JR p l e rmL_put s m args below meth c _ 5 0 [(0, .ref (ad 0)), (1, .int (zI x)), (2, .int (zI y)), (3, .int (zI v))] []
  refine r_aload_n CR eL_put_0 0 rfl ?_
  refine r_iload_n CR eL_put_1 1 rfl ?_
  refine r_iload_n CR eL_put_2 2 rfl ?_
  refine r_iload_n CR eL_put_3 3 rfl ?_
  have hPc : va_P D vwCl (wX cB cI cZ ad w h aG aS G S CB SB DK DR RE PF PK CO rc pn kn cn) s.heap := CR.2.2.sub [0, 1, 2, 3, 4, 5, 6, 7, 8, 9, 10] rfl
  have hDc : va_D (fun _ => True) (wX cB cI cZ ad w h aG aS G S CB SB DK DR RE PF PK CO rc pn kn cn) := hD.sub [0, 1, 2, 3, 4, 5, 6, 7, 8, 9, 10] (by decide) rfl
  refine r_callT CR (As := [.int (zI x), .int (zI y), .int (zI v)]) (rest := []) hPc hDc (ctX0_put_T l D cB cI cZ cL ad w h hs aG aS G S CB SB DK DR RE PF PK CO rc pn kn cn hl9 x y v hx hy hon) (cwV 3 C.1.2.2.2.2 gL_put_X0_put rfl rfl rfl (by decide +kernel) ⟨Nat.le_of_ble_eq_true rfl, Nat.le_of_ble_eq_true rfl⟩) 0 rfl rfl rfl rfl (Nat.le_of_ble_eq_true rfl) eL_put_4 hXC.1 htab (by decide) (by decide) (xc_good (State.WarmedH.refl s) hXC.2) ⟨Nat.le_of_ble_eq_true rfl, Nat.le_of_ble_eq_true rfl⟩ (hD.self (sz := s.heap.size)) (fun ax => ?_)
  refine j_astore C eL_put_10 rfl (by decide) (lv' := [(0, .ref (ad 0)), (1, .int (zI x)), (2, .int (zI y)), (3, .int (zI v)), (4, .ref ax)]) rfl ?_
  refine j_iconst C eL_put_12 ?_
  exact j_iret C hr hlocks rfl eL_put_13 ⟨rfl, rfl⟩
set_option maxHeartbeats 4000000 in
set_option maxRecDepth 100000 in
theorem ctL_put_on (l : Launch) (D : va_G) (cB cI cZ cL : ClassId) (ad : Nat → Nat) (w h : Nat) (hs : Sz w h) (aG aS : Nat) (G S CB SB DK DR RE PF PK CO : Nat → Int) (rc pn kn cn : Int) (x y : Nat) (hx : x < w) (hy : y < h) (v : Int) (hv : -128 ≤ v ∧ v ≤ 127) : mIX l yL_put wsL_put rmL_put D vwCl (tyl cB cI cZ cL) [.ref (ad 0), .int (zI (x : Int)), .int (zI (y : Int)), .int (zI v)] (wX cB cI cZ ad w h aG aS G S CB SB DK DR RE PF PK CO rc pn kn cn) 1 6 (fun z w1 => z = 0 ∧ w1 = wX cB cI cZ ad w h aG aS (zup G (y * w + x) v) S CB SB DK DR RE PF PK CO rc pn kn cn) := by
  have hm := hs.mul
  refine mIX_of (own := RL) rfl (by decide) rfl (Nat.le_of_ble_eq_true rfl) ?_
  intro p e s m args below meth c C CR hD hXC hr hlocks htab
  refine jr_j CR hD ?_
  show J p l e rmL_put s m args below meth c _ 5 D vwCl _ 0 [(0, .ref (ad 0)), (1, .int (zI (x : Int))), (2, .int (zI (y : Int))), (3, .int (zI v))] [] (wX cB cI cZ ad w h aG aS G S CB SB DK DR RE PF PK CO rc pn kn cn) 0 0
  refine j_aload_n C eL_put_0 0 rfl ?_
  refine j_iload_n C eL_put_1 1 rfl ?_
  refine j_iload_n C eL_put_2 2 rfl ?_
  refine j_iload_n C eL_put_3 3 rfl ?_
  refine j_callVv C (As := [.int (zI (x : Int)), .int (zI (y : Int)), .int (zI v)]) (rest := []) (ctX0_put l D cB cI cZ cL ad w h hs aG aS G S CB SB DK DR RE PF PK CO rc pn kn cn x y hx hy v hv) (cwV 3 C.1.2.2.2.2 gL_put_X0_put rfl rfl rfl (by decide +kernel) ⟨Nat.le_of_ble_eq_true rfl, Nat.le_of_ble_eq_true rfl⟩) [0, 1, 2, 3, 4, 5, 6, 7, 8, 9, 10] [] (wr := []) rfl (by decide) rfl (by decide) (by decide) 0 rfl rfl rfl rfl (Nat.le_of_ble_eq_true rfl) eL_put_4 ⟨Nat.le_of_ble_eq_true rfl, Nat.le_of_ble_eq_true rfl⟩ (fun w1 hp => ?_)
  subst hp
  rw [List.nil_append]
  refine j_goto C 14 eL_put_7 (by decide) ?_
  refine j_iconst C eL_put_14 ?_
  refine j_widen (cells' := 1) (slots' := 6) (by omega) (by omega) ?_
  exact j_iret C hr hlocks rfl eL_put_15 ⟨rfl, rfl⟩
abbrev rmL_octet : Room := { frames := 8, cells := 1, slots := 6, locals := 145 }
set_option maxHeartbeats 4000000 in
set_option maxRecDepth 100000 in
theorem ctL_octet_off (l : Launch) (D : va_G) (cB cI cZ cL : ClassId) (ad : Nat → Nat) (w h : Nat) (hs : Sz w h) (aG aS : Nat) (G S CB SB DK DR RE PF PK CO : Nat → Int) (rc pn kn cn : Int) (o : Nat) (f : Nat → Int64) (hl9 : l.stackTraces = false) (i : Int) (hi : -2147483648 ≤ i ∧ i ≤ 2147483647) (hk : 0 ≤ kn ∧ kn ≤ 5000) (hno : ¬ (0 ≤ i ∧ i < kn)) : mIX l yL_octet wsL_octet rmL_octet D vwCl (tyl cB cI cZ cL) [.ref (ad 0), .int (zI i), .ref o] ((o, oL cL f) :: wX cB cI cZ ad w h aG aS G S CB SB DK DR RE PF PK CO rc pn kn cn) 1 6 (fun z w1 => z = 1 ∧ w1 = (o, oL cL f) :: wX cB cI cZ ad w h aG aS G S CB SB DK DR RE PF PK CO rc pn kn cn) := by
  have hm := hs.mul
  refine mIX_of (own := RL) rfl (by decide) rfl (Nat.le_of_ble_eq_true rfl) ?_
  intro p e s m args below meth c C CR hD hXC hr hlocks htab
  show JR p l e rmL_octet s m args below meth c _ 4 0 [(0, .ref (ad 0)), (1, .int (zI i)), (2, .ref o)] []
  refine r_aload_n CR eL_octet_0 2 rfl ?_
  refine r_iconst CR eL_octet_1 ?_
  refine r_aload_n CR eL_octet_2 0 rfl ?_
  refine r_iload_n CR eL_octet_3 1 rfl ?_
  have hPc : va_P D vwCl (wX cB cI cZ ad w h aG aS G S CB SB DK DR RE PF PK CO rc pn kn cn) s.heap := CR.2.2.sub [1, 2, 3, 4, 5, 6, 7, 8, 9, 10, 11] rfl
  have hDc : va_D (fun _ => True) (wX cB cI cZ ad w h aG aS G S CB SB DK DR RE PF PK CO rc pn kn cn) := hD.sub [1, 2, 3, 4, 5, 6, 7, 8, 9, 10, 11] (by decide) rfl
  refine r_callT CR (As := [.int (zI i)]) (rest := [.int (zI 0), .ref o]) hPc hDc (ctX0_octet_T l D cB cI cZ cL ad w h hs aG aS G S CB SB DK DR RE PF PK CO rc pn kn cn hl9 i hi hk hno) (cwV 1 C.1.2.2.2.2 gL_octet_X0_octet rfl rfl rfl (by decide +kernel) ⟨Nat.le_of_ble_eq_true rfl, Nat.le_of_ble_eq_true rfl⟩) 0 rfl rfl rfl rfl (Nat.le_of_ble_eq_true rfl) eL_octet_4 hXC.1 htab (by decide) (by decide) (xc_good (State.WarmedH.refl s) hXC.2) ⟨Nat.le_of_ble_eq_true rfl, Nat.le_of_ble_eq_true rfl⟩ (hD.self (sz := s.heap.size)) (fun ax => ?_)
  refine j_astore_n C eL_octet_12 rfl (by decide) (lv' := [(0, .ref (ad 0)), (1, .int (zI i)), (2, .ref o), (3, .ref ax)]) rfl ?_
  refine j_iconst C eL_octet_13 ?_
  exact j_iret C hr hlocks rfl eL_octet_14 ⟨rfl, rfl⟩
set_option maxHeartbeats 4000000 in
set_option maxRecDepth 100000 in
theorem ctL_octet_on (l : Launch) (D : va_G) (cB cI cZ cL : ClassId) (ad : Nat → Nat) (w h : Nat) (hs : Sz w h) (aG aS : Nat) (G S CB SB DK DR RE PF PK CO : Nat → Int) (rc pn kn cn : Int) (o : Nat) (f : Nat → Int64) (i : Nat) (hi : (i : Int) < kn) (hk : kn ≤ ((2 * (w * h) : Nat) : Int)) (hb : -128 ≤ PK i ∧ PK i ≤ 127) : mIX l yL_octet wsL_octet rmL_octet D vwCl (tyl cB cI cZ cL) [.ref (ad 0), .int (zI (i : Int)), .ref o] ((o, oL cL f) :: wX cB cI cZ ad w h aG aS G S CB SB DK DR RE PF PK CO rc pn kn cn) 1 6 (fun z w1 => z = 0 ∧ ∃ f' : Nat → Int64, f' 0 = (zI (PK i)).toInt64 ∧ w1 = (o, oL cL f') :: wX cB cI cZ ad w h aG aS G S CB SB DK DR RE PF PK CO rc pn kn cn) := by
  have hm := hs.mul
  refine mIX_of (own := RL) rfl (by decide) rfl (Nat.le_of_ble_eq_true rfl) ?_
  intro p e s m args below meth c C CR hD hXC hr hlocks htab
  refine jr_j CR hD ?_
  show J p l e rmL_octet s m args below meth c _ 4 D vwCl _ 0 [(0, .ref (ad 0)), (1, .int (zI (i : Int))), (2, .ref o)] [] ((o, oL cL f) :: wX cB cI cZ ad w h aG aS G S CB SB DK DR RE PF PK CO rc pn kn cn) 0 0
  refine j_aload_n C eL_octet_0 2 rfl ?_
  refine j_iconst C eL_octet_1 ?_
  refine j_aload_n C eL_octet_2 0 rfl ?_
  refine j_iload_n C eL_octet_3 1 rfl ?_
  refine j_callVi C (As := [.int (zI (i : Int))]) (rest := [.int (zI 0), .ref o]) (ctX0_octet l D cB cI cZ cL ad w h hs aG aS G S CB SB DK DR RE PF PK CO rc pn kn cn i hi hk hb) (cwV 1 C.1.2.2.2.2 gL_octet_X0_octet rfl rfl rfl (by decide +kernel) ⟨Nat.le_of_ble_eq_true rfl, Nat.le_of_ble_eq_true rfl⟩) [1, 2, 3, 4, 5, 6, 7, 8, 9, 10, 11] [0] (wr := [(o, oL cL f)]) rfl (by decide) rfl (by decide) (by decide) 1 rfl rfl rfl rfl (Nat.le_of_ble_eq_true rfl) eL_octet_4 ⟨Nat.le_of_ble_eq_true rfl, Nat.le_of_ble_eq_true rfl⟩ (fun z w1 hp => ?_)
  obtain ⟨rfl, rfl⟩ := hp
  refine j_i2l C eL_octet_7 ?_
  refine j_last C 0 3 rfl rfl eL_octet_8 (fun f' hf' => ?_)
  refine j_goto C 15 eL_octet_9 (by decide) ?_
  refine j_iconst C eL_octet_15 ?_
  refine j_widen (cells' := 1) (slots' := 6) (by omega) (by omega) ?_
  exact j_iret C hr hlocks rfl eL_octet_16 ⟨rfl, f', hf', rfl⟩
abbrev rmL_grey : Room := { frames := 8, cells := 1, slots := 6, locals := 145 }
set_option maxHeartbeats 4000000 in
set_option maxRecDepth 100000 in
theorem ctL_grey_off (l : Launch) (D : va_G) (cB cI cZ cL : ClassId) (ad : Nat → Nat) (w h : Nat) (hs : Sz w h) (aG aS : Nat) (G S CB SB DK DR RE PF PK CO : Nat → Int) (rc pn kn cn : Int) (o : Nat) (f : Nat → Int64) (hl9 : l.stackTraces = false) (x y : Int) (hx : -2147483648 ≤ x ∧ x ≤ 2147483647) (hy : -2147483648 ≤ y ∧ y ≤ 2147483647) (hon : ¬ (0 ≤ x ∧ x < (w : Int) ∧ 0 ≤ y ∧ y < (h : Int))) : mIX l yL_grey wsL_grey rmL_grey D vwCl (tyl cB cI cZ cL) [.ref (ad 0), .int (zI x), .int (zI y), .ref o] ((o, oL cL f) :: wX cB cI cZ ad w h aG aS G S CB SB DK DR RE PF PK CO rc pn kn cn) 1 6 (fun z w1 => z = 1 ∧ w1 = (o, oL cL f) :: wX cB cI cZ ad w h aG aS G S CB SB DK DR RE PF PK CO rc pn kn cn) := by
  have hm := hs.mul
  refine mIX_of (own := RL) rfl (by decide) rfl (Nat.le_of_ble_eq_true rfl) ?_
  intro p e s m args below meth c C CR hD hXC hr hlocks htab
  show JR p l e rmL_grey s m args below meth c _ 5 0 [(0, .ref (ad 0)), (1, .int (zI x)), (2, .int (zI y)), (3, .ref o)] []
  refine r_aload_n CR eL_grey_0 3 rfl ?_
  refine r_iconst CR eL_grey_1 ?_
  refine r_aload_n CR eL_grey_2 0 rfl ?_
  refine r_iload_n CR eL_grey_3 1 rfl ?_
  refine r_iload_n CR eL_grey_4 2 rfl ?_
  have hPc : va_P D vwCl (wX cB cI cZ ad w h aG aS G S CB SB DK DR RE PF PK CO rc pn kn cn) s.heap := CR.2.2.sub [1, 2, 3, 4, 5, 6, 7, 8, 9, 10, 11] rfl
  have hDc : va_D (fun _ => True) (wX cB cI cZ ad w h aG aS G S CB SB DK DR RE PF PK CO rc pn kn cn) := hD.sub [1, 2, 3, 4, 5, 6, 7, 8, 9, 10, 11] (by decide) rfl
  refine r_callT CR (As := [.int (zI x), .int (zI y)]) (rest := [.int (zI 0), .ref o]) hPc hDc (ctX0_grey_T l D cB cI cZ cL ad w h hs aG aS G S CB SB DK DR RE PF PK CO rc pn kn cn hl9 x y hx hy hon) (cwV 2 C.1.2.2.2.2 gL_grey_X0_grey rfl rfl rfl (by decide +kernel) ⟨Nat.le_of_ble_eq_true rfl, Nat.le_of_ble_eq_true rfl⟩) 0 rfl rfl rfl rfl (Nat.le_of_ble_eq_true rfl) eL_grey_5 hXC.1 htab (by decide) (by decide) (xc_good (State.WarmedH.refl s) hXC.2) ⟨Nat.le_of_ble_eq_true rfl, Nat.le_of_ble_eq_true rfl⟩ (hD.self (sz := s.heap.size)) (fun ax => ?_)
  refine j_astore C eL_grey_13 rfl (by decide) (lv' := [(0, .ref (ad 0)), (1, .int (zI x)), (2, .int (zI y)), (3, .ref o), (4, .ref ax)]) rfl ?_
  refine j_iconst C eL_grey_15 ?_
  exact j_iret C hr hlocks rfl eL_grey_16 ⟨rfl, rfl⟩
set_option maxHeartbeats 4000000 in
set_option maxRecDepth 100000 in
theorem ctL_grey_on (l : Launch) (D : va_G) (cB cI cZ cL : ClassId) (ad : Nat → Nat) (w h : Nat) (hs : Sz w h) (aG aS : Nat) (G S CB SB DK DR RE PF PK CO : Nat → Int) (rc pn kn cn : Int) (o : Nat) (f : Nat → Int64) (x y : Nat) (hx : x < w) (hy : y < h) : mIX l yL_grey wsL_grey rmL_grey D vwCl (tyl cB cI cZ cL) [.ref (ad 0), .int (zI (x : Int)), .int (zI (y : Int)), .ref o] ((o, oL cL f) :: wX cB cI cZ ad w h aG aS G S CB SB DK DR RE PF PK CO rc pn kn cn) 1 6 (fun z w1 => z = 0 ∧ ∃ f' : Nat → Int64, f' 0 = (zI (G (y * w + x) % 256)).toInt64 ∧ w1 = (o, oL cL f') :: wX cB cI cZ ad w h aG aS G S CB SB DK DR RE PF PK CO rc pn kn cn) := by
  have hm := hs.mul
  refine mIX_of (own := RL) rfl (by decide) rfl (Nat.le_of_ble_eq_true rfl) ?_
  intro p e s m args below meth c C CR hD hXC hr hlocks htab
  refine jr_j CR hD ?_
  show J p l e rmL_grey s m args below meth c _ 5 D vwCl _ 0 [(0, .ref (ad 0)), (1, .int (zI (x : Int))), (2, .int (zI (y : Int))), (3, .ref o)] [] ((o, oL cL f) :: wX cB cI cZ ad w h aG aS G S CB SB DK DR RE PF PK CO rc pn kn cn) 0 0
  refine j_aload_n C eL_grey_0 3 rfl ?_
  refine j_iconst C eL_grey_1 ?_
  refine j_aload_n C eL_grey_2 0 rfl ?_
  refine j_iload_n C eL_grey_3 1 rfl ?_
  refine j_iload_n C eL_grey_4 2 rfl ?_
  refine j_callVi C (As := [.int (zI (x : Int)), .int (zI (y : Int))]) (rest := [.int (zI 0), .ref o]) (ctX0_grey l D cB cI cZ cL ad w h hs aG aS G S CB SB DK DR RE PF PK CO rc pn kn cn x y hx hy) (cwV 2 C.1.2.2.2.2 gL_grey_X0_grey rfl rfl rfl (by decide +kernel) ⟨Nat.le_of_ble_eq_true rfl, Nat.le_of_ble_eq_true rfl⟩) [1, 2, 3, 4, 5, 6, 7, 8, 9, 10, 11] [0] (wr := [(o, oL cL f)]) rfl (by decide) rfl (by decide) (by decide) 1 rfl rfl rfl rfl (Nat.le_of_ble_eq_true rfl) eL_grey_5 ⟨Nat.le_of_ble_eq_true rfl, Nat.le_of_ble_eq_true rfl⟩ (fun z w1 hp => ?_)
  obtain ⟨rfl, rfl⟩ := hp
  refine j_i2l C eL_grey_8 ?_
  refine j_last C 0 3 rfl rfl eL_grey_9 (fun f' hf' => ?_)
  refine j_goto C 17 eL_grey_10 (by decide) ?_
  refine j_iconst C eL_grey_17 ?_
  refine j_widen (cells' := 1) (slots' := 6) (by omega) (by omega) ?_
  exact j_iret C hr hlocks rfl eL_grey_18 ⟨rfl, f', hf', rfl⟩
