/-! CONSTRUCTORS -/
section JN
variable {p : Program} {l : Launch} {e : Env} {R : Room} {s : State} {m : MethodId} {args : Array Value} {below : List Frame} {meth : Method} {c : Code} {Q : State → Prop} {nL : Nat} {D : va_G} {cl : List vw_C} {tys : List (ClassId × FieldType)} {A : Nat → Prop} {cc : ByteArray} {Ts : List Cond} {own : String} {pc pc' : Nat} {lv lv' : List (Nat × Value)} {st : List Value} {wd wd' : va_W} {cells slots : Nat}
theorem j_objInit (C : JC p m c cc nL s args Ts own D cl tys A) {a index : Nat} (hlink : Cond.methodLink own index Lib.objectInit ∈ Ts) (hinst : Cond.instanceMethod Lib.objectInit ∈ Ts) (hcode : Cond.code Lib.objectInit ⟨#[0xb1]⟩ 1 none ∈ Ts) (hframes : 1 ≤ R.frames) (hlocals : (st.map fun v => v.category).sum + 12 ≤ R.locals) (hd : dec cc pc (.invokespecial index) 3 pc') (k : J p l e R s m args below meth c Q nL D cl A pc' lv st wd cells slots) : J p l e R s m args below meth c Q nL D cl A pc lv (.ref a :: st) wd cells slots := by
  intro H locs ls hl hP hD hS
  have C5 := C.1.2.2.2.2
  refine W.objInit C.1.1 C.1.2.1 C.1.2.2.2.1 (C5 _ hlink) (C5 _ hinst) (C5 _ hcode) rfl (hl.1.trans C.1.2.2.1.symm) rfl hd.1 hframes (by show 2 * 0 + _ + 12 ≤ _; omega) ?_
  exact hd.2 ▸ k H locs ls hl hP hD hS
theorem j_newa (C : JC p m c cc nL s args Ts own D cl tys A) {atype : ArrayType} {ty : FieldType} {cA : ClassId} {z : Int} (harr : Cond.arrayClass (newarray.typeOf atype) ∈ Ts) (hty : newarray.typeOf atype = ty) (hdv : defaultValue ty = .int 0) (hra : ∀ cA' : ClassId, va_RA s cA' ty → va_RA s cA ty → cA' = cA) (t0 : Nat) (ht : tys[t0]? = some (cA, ty)) (N : Nat) (hz : z = (N : Int)) (hN : N ≤ 2147483647) (hbytes : N * componentBytes ty ≤ 536870912) (hcells : cells + 1 ≤ R.cells) (hslots : slots + N ≤ R.slots) (hd : dec cc pc (.newarray atype) 2 pc')
    (k : ∀ q : Nat, J p l e R s m args below meth c Q nL D cl A pc' lv (.ref q :: st) (wd ++ [(q, zA cA N (fun _ => 0))]) (cells + 1) (slots + N)) : J p l e R s m args below meth c Q nL D cl A pc lv (.int (zI z) :: st) wd cells slots := by
  subst hz
  intro H locs ls hl hP hD hS
  refine va_newa (a0 := (N, .inl (fun _ => zI 0))) C.1.1 C.1.2.1 (C.1.2.2.2.2 _ harr) hty C.2.1 hP hD hS C.2.2 (fun cA => by rw [vp_cell_i, hdv, zI_0]) (fun q => absurd ((zI_lt (a := (N : Int)) (b := 0) (by omega) (by omega)).mp (by rw [zI_0]; exact q)) (by omega)) (zI_clamp hN) hbytes hcells hslots hd.1 (fun q cA' H1 hK1 hP1 hD1 hS1 => ?_)
  have e : cA' = cA := by
    have h1 := hK1.2 tys.length (cA', ty) (by rw [List.getElem?_append_right (Nat.le_refl _)]; simp)
    have h2 := hK1.2 t0 (cA, ty) (by rw [List.getElem?_append_left (List.getElem?_eq_some_iff.mp ht).1]; exact ht)
    exact hra cA' h1.2 h2.2
  subst e
  exact hd.2 ▸ k q H1 locs ls hl hP1 hD1 hS1
theorem j_cut {pcm cm sm : Nat} {lvm : List (Nat × Value)} {stm : List Value} {wdm : va_W} (K : J p l e R s m args below meth c Q nL D cl A pcm lvm stm wdm cm sm) (k : J p l e R s m args below meth c Q nL D cl A pcm lvm stm wdm cm sm → J p l e R s m args below meth c Q nL D cl A pc lv st wd cells slots) : J p l e R s m args below meth c Q nL D cl A pc lv st wd cells slots := k K
end JN
theorem ra_int {s : State} {a b : ClassId} (h1 : va_RA s a .int) (h2 : va_RA s b .int) : a = b := Option.some.inj (h1.symm.trans h2)
theorem ra_byte {s : State} {a b : ClassId} (h1 : va_RA s a .byte) (h2 : va_RA s b .byte) : a = b := Option.some.inj (h1.symm.trans h2)
theorem ra_bool {s : State} {a b : ClassId} (h1 : va_RA s a .boolean) (h2 : va_RA s b .boolean) : a = b := Option.some.inj (h1.symm.trans h2)
/-- a side brought to 1 .. 48 -/
def clp (z : Int) : Nat := (max 1 (min 48 z)).toNat
theorem clp_in (z : Int) : 1 ≤ clp z ∧ clp z ≤ 48 := by unfold clp; omega
theorem clp_eq (z : Int) : ((clp z : Nat) : Int) = max 1 (min 48 z) := by unfold clp; omega
theorem clp_sz (a b : Int) : Sz (clp a) (clp b) := ⟨(clp_in a).1, (clp_in a).2, (clp_in b).1, (clp_in b).2⟩
theorem hwsX0_init : ∀ w ∈ u_ws RX0 TX0 16, w ∈ wsX0_init := fun _ h => List.mem_cons_of_mem _ (List.mem_append_right _ h)
theorem kX0_init_18 : Cond.fieldLink RX0 18 "SheetRows" (TX0 0).2.1 (TX0 0).2.2.1 ∈ wsX0_init := by decide +kernel
theorem kX0_init_22 : Cond.fieldLink RX0 22 "SheetRows" (TX0 1).2.1 (TX0 1).2.2.1 ∈ wsX0_init := by decide +kernel
theorem kX0_init_25 : Cond.fieldLink RX0 25 "SheetRows" (TX0 2).2.1 (TX0 2).2.2.1 ∈ wsX0_init := by decide +kernel
theorem kX0_init_29 : Cond.fieldLink RX0 29 "SheetRows" (TX0 3).2.1 (TX0 3).2.2.1 ∈ wsX0_init := by decide +kernel
theorem kX0_init_32 : Cond.fieldLink RX0 32 "SheetRows" (TX0 4).2.1 (TX0 4).2.2.1 ∈ wsX0_init := by decide +kernel
theorem kX0_init_36 : Cond.fieldLink RX0 36 "SheetRows" (TX0 5).2.1 (TX0 5).2.2.1 ∈ wsX0_init := by decide +kernel
theorem kX0_init_39 : Cond.fieldLink RX0 39 "SheetRows" (TX0 6).2.1 (TX0 6).2.2.1 ∈ wsX0_init := by decide +kernel
theorem kX0_init_43 : Cond.fieldLink RX0 43 "SheetRows" (TX0 7).2.1 (TX0 7).2.2.1 ∈ wsX0_init := by decide +kernel
theorem kX0_init_46 : Cond.fieldLink RX0 46 "SheetRows" (TX0 8).2.1 (TX0 8).2.2.1 ∈ wsX0_init := by decide +kernel
theorem kX0_init_49 : Cond.fieldLink RX0 49 "SheetRows" (TX0 10).2.1 (TX0 10).2.2.1 ∈ wsX0_init := by decide +kernel
theorem kX0_init_52 : Cond.fieldLink RX0 52 "SheetRows" (TX0 12).2.1 (TX0 12).2.2.1 ∈ wsX0_init := by decide +kernel
theorem kX0_init_55 : Cond.fieldLink RX0 55 "SheetRows" (TX0 14).2.1 (TX0 14).2.2.1 ∈ wsX0_init := by decide +kernel
theorem kaX0_init_boolean : Cond.arrayClass (newarray.typeOf .boolean) ∈ wsX0_init := by decide +kernel
theorem kaX0_init_byte : Cond.arrayClass (newarray.typeOf .byte) ∈ wsX0_init := by decide +kernel
theorem kaX0_init_int : Cond.arrayClass (newarray.typeOf .int) ∈ wsX0_init := by decide +kernel
theorem kmX0_init_9 : Cond.methodLink RX0 9 Lib.Math.min.name ∈ wsX0_init ∧ Cond.static Lib.Math.min.name ∈ wsX0_init ∧ Cond.initialized "java/lang/Math" ∈ wsX0_init ∧ Cond.code Lib.Math.min.name Lib.Math.min.code 2 (some .int) ∈ wsX0_init := ⟨by decide +kernel, by decide +kernel, by decide +kernel, by decide +kernel⟩
theorem kmX0_init_15 : Cond.methodLink RX0 15 Lib.Math.max.name ∈ wsX0_init ∧ Cond.static Lib.Math.max.name ∈ wsX0_init ∧ Cond.initialized "java/lang/Math" ∈ wsX0_init ∧ Cond.code Lib.Math.max.name Lib.Math.max.code 2 (some .int) ∈ wsX0_init := ⟨by decide +kernel, by decide +kernel, by decide +kernel, by decide +kernel⟩
abbrev rmX0_init : Room := { frames := 1, cells := 10, slots := 26000, locals := 23 }
set_option maxHeartbeats 4000000 in
set_option maxRecDepth 100000 in
theorem ctX0_init (l : Launch) (D : va_G) (cB cI cZ cL : ClassId) (o : Nat) (a b : Int) (ha : -2147483648 ≤ a ∧ a ≤ 2147483647) (hb : -2147483648 ≤ b ∧ b ≤ 2147483647) : mV l yX0_init wsX0_init rmX0_init D vwCl (tyl cB cI cZ cL) [.ref o, .int (zI a), .int (zI b)] [(o, .inr (1, [.int (zI 0), .int (zI 0), .null, .null, .null, .null, .null, .null, .null, .int (zI 0), .null, .int (zI 0), .null, .int (zI 0), .null, .int (zI 0)]))] 10 26000 (fun w1 => ∃ (ad : Nat → Nat) (aG aS : Nat) (G : Nat → Int), ad 0 = o ∧ (∀ k, k < clp a * clp b → G k = -1) ∧ w1 = wX cB cI cZ ad (clp a) (clp b) aG aS G (fun _ => 0) (fun _ => 0) (fun _ => 0) (fun _ => 0) (fun _ => 0) (fun _ => 0) (fun _ => 0) (fun _ => 0) (fun _ => 0) 0 0 0 0) := by
  have hw := clp_in a
  have hh := clp_in b
  have hm := (clp_sz a b).mul
  refine mV_of (own := RX0) rfl (by decide) rfl (Nat.le_of_ble_eq_true rfl) ?_
  intro p e s m args below meth c C hr hlocks hname
  have hin9 : meth.name = "<init>" := hname
  show J p l e rmX0_init s m args below meth c _ 4 D vwCl _ 0 [(0, .ref o), (1, .int (zI a)), (2, .int (zI b))] [] [(o, .inr (1, [.int (zI 0), .int (zI 0), .null, .null, .null, .null, .null, .null, .null, .int (zI 0), .null, .int (zI 0), .null, .int (zI 0), .null, .int (zI 0)]))] 0 0
  refine j_aload_n C eX0_init_0 0 rfl ?_
  refine j_objInit C (by decide +kernel) (by decide +kernel) (by decide +kernel) (Nat.le_of_ble_eq_true rfl) (Nat.le_of_ble_eq_true rfl) eX0_init_1 ?_
  refine j_aload_n C eX0_init_4 0 rfl ?_
  refine j_iconst C eX0_init_5 ?_
  refine j_bipush C eX0_init_6 (by decide +kernel) ?_
  refine j_iload_n C eX0_init_8 1 rfl ?_
  refine j_mmin C kmX0_init_9.1 kmX0_init_9.2.1 kmX0_init_9.2.2.1 kmX0_init_9.2.2.2 (Nat.le_of_ble_eq_true rfl) (Nat.le_of_ble_eq_true rfl) ⟨Nat.le_of_ble_eq_true rfl, Nat.le_of_ble_eq_true rfl⟩ (by omega) (by omega) eX0_init_9 ?_
  refine j_mmax C kmX0_init_15.1 kmX0_init_15.2.1 kmX0_init_15.2.2.1 kmX0_init_15.2.2.2 (Nat.le_of_ble_eq_true rfl) (Nat.le_of_ble_eq_true rfl) ⟨Nat.le_of_ble_eq_true rfl, Nat.le_of_ble_eq_true rfl⟩ (by omega) (by omega) eX0_init_12 ?_
  refine j_top (y := zI ((clp a : Nat) : Int)) (by rw [clp_eq]) ?_
  refine j_putF C hwsX0_init tyX0 tyX0_ok nmX0 0 rfl rfl 0 (by decide) kX0_init_18 rfl rfl hin9 rfl (tyX0_ok 0 (by decide)) rfl rfl (Nat.le_of_ble_eq_true rfl) eX0_init_15 (wd' := [(o, .inr (1, [.int (zI ((clp a : Nat) : Int)), .int (zI 0), .null, .null, .null, .null, .null, .null, .null, .int (zI 0), .null, .int (zI 0), .null, .int (zI 0), .null, .int (zI 0)]))]) rfl ?_
  refine j_aload_n C eX0_init_18 0 rfl ?_
  refine j_iconst C eX0_init_19 ?_
  refine j_bipush C eX0_init_20 (by decide +kernel) ?_
  refine j_iload_n C eX0_init_22 2 rfl ?_
  refine j_mmin C kmX0_init_9.1 kmX0_init_9.2.1 kmX0_init_9.2.2.1 kmX0_init_9.2.2.2 (Nat.le_of_ble_eq_true rfl) (Nat.le_of_ble_eq_true rfl) ⟨Nat.le_of_ble_eq_true rfl, Nat.le_of_ble_eq_true rfl⟩ (by omega) (by omega) eX0_init_23 ?_
  refine j_mmax C kmX0_init_15.1 kmX0_init_15.2.1 kmX0_init_15.2.2.1 kmX0_init_15.2.2.2 (Nat.le_of_ble_eq_true rfl) (Nat.le_of_ble_eq_true rfl) ⟨Nat.le_of_ble_eq_true rfl, Nat.le_of_ble_eq_true rfl⟩ (by omega) (by omega) eX0_init_26 ?_
  refine j_top (y := zI ((clp b : Nat) : Int)) (by rw [clp_eq]) ?_
  refine j_putF C hwsX0_init tyX0 tyX0_ok nmX0 0 rfl rfl 1 (by decide) kX0_init_22 rfl rfl hin9 rfl (tyX0_ok 1 (by decide)) rfl rfl (Nat.le_of_ble_eq_true rfl) eX0_init_29 (wd' := [(o, .inr (1, [.int (zI ((clp a : Nat) : Int)), .int (zI ((clp b : Nat) : Int)), .null, .null, .null, .null, .null, .null, .null, .int (zI 0), .null, .int (zI 0), .null, .int (zI 0), .null, .int (zI 0)]))]) rfl ?_
  refine j_aload_n C eX0_init_32 0 rfl ?_
  refine j_getf C hwsX0_init 0 rfl rfl 0 (by decide) kX0_init_18 rfl rfl eX0_init_33 ?_
  refine j_aload_n C eX0_init_36 0 rfl ?_
  refine j_getf C hwsX0_init 0 rfl rfl 1 (by decide) kX0_init_22 rfl rfl eX0_init_37 ?_
  refine j_imul C eX0_init_40 ?_
  refine j_top (y := zI ((clp a * clp b : Nat) : Int)) (by push_cast; rfl) ?_
  refine j_istore_n C eX0_init_41 rfl (by decide) (lv' := [(0, .ref o), (1, .int (zI a)), (2, .int (zI b)), (3, .int (zI ((clp a * clp b : Nat) : Int)))]) rfl ?_
  refine j_aload_n C eX0_init_42 0 rfl ?_
  refine j_iload_n C eX0_init_43 3 rfl ?_
  refine j_newa C kaX0_init_byte rfl rfl (fun _ => ra_byte) 0 rfl (clp a * clp b) rfl (by omega) (by show _ * 1 ≤ _; omega) (by show _ ≤ 10; omega) (by show _ ≤ 26000; omega) eX0_init_44 (fun qG => ?_)
  refine j_wd (wd' := [(o, .inr (1, [.int (zI ((clp a : Nat) : Int)), .int (zI ((clp b : Nat) : Int)), .null, .null, .null, .null, .null, .null, .null, .int (zI 0), .null, .int (zI 0), .null, .int (zI 0), .null, .int (zI 0)])), (qG, zA cB (clp a * clp b) (fun _ => 0))]) rfl ?_
  refine j_putf C hwsX0_init tyX0 tyX0_ok nmX0 0 rfl rfl 2 (by decide) kX0_init_25 rfl rfl (tyX0_ok 2 (by decide)) rfl rfl (Nat.le_of_ble_eq_true rfl) eX0_init_46 (wd' := [(o, .inr (1, [.int (zI ((clp a : Nat) : Int)), .int (zI ((clp b : Nat) : Int)), .ref qG, .null, .null, .null, .null, .null, .null, .int (zI 0), .null, .int (zI 0), .null, .int (zI 0), .null, .int (zI 0)])), (qG, zA cB (clp a * clp b) (fun _ => 0))]) rfl ?_
  refine j_aload_n C eX0_init_49 0 rfl ?_
  refine j_iload_n C eX0_init_50 3 rfl ?_
  refine j_newa C kaX0_init_byte rfl rfl (fun _ => ra_byte) 0 rfl (clp a * clp b) rfl (by omega) (by show _ * 1 ≤ _; omega) (by show _ ≤ 10; omega) (by show _ ≤ 26000; omega) eX0_init_51 (fun qS => ?_)
  refine j_wd (wd' := [(o, .inr (1, [.int (zI ((clp a : Nat) : Int)), .int (zI ((clp b : Nat) : Int)), .ref qG, .null, .null, .null, .null, .null, .null, .int (zI 0), .null, .int (zI 0), .null, .int (zI 0), .null, .int (zI 0)])), (qG, zA cB (clp a * clp b) (fun _ => 0)), (qS, zA cB (clp a * clp b) (fun _ => 0))]) rfl ?_
  refine j_putf C hwsX0_init tyX0 tyX0_ok nmX0 0 rfl rfl 3 (by decide) kX0_init_29 rfl rfl (tyX0_ok 3 (by decide)) rfl rfl (Nat.le_of_ble_eq_true rfl) eX0_init_53 (wd' := [(o, .inr (1, [.int (zI ((clp a : Nat) : Int)), .int (zI ((clp b : Nat) : Int)), .ref qG, .ref qS, .null, .null, .null, .null, .null, .int (zI 0), .null, .int (zI 0), .null, .int (zI 0), .null, .int (zI 0)])), (qG, zA cB (clp a * clp b) (fun _ => 0)), (qS, zA cB (clp a * clp b) (fun _ => 0))]) rfl ?_
  refine j_aload_n C eX0_init_56 0 rfl ?_
  refine j_sipush C eX0_init_57 (by decide +kernel) ?_
  refine j_newa C kaX0_init_int rfl rfl (fun _ => ra_int) 1 rfl 257 rfl (by omega) (by show _ * 4 ≤ _; omega) (by show _ ≤ 10; omega) (by show _ ≤ 26000; omega) eX0_init_60 (fun q4 => ?_)
  refine j_wd (wd' := [(o, .inr (1, [.int (zI ((clp a : Nat) : Int)), .int (zI ((clp b : Nat) : Int)), .ref qG, .ref qS, .null, .null, .null, .null, .null, .int (zI 0), .null, .int (zI 0), .null, .int (zI 0), .null, .int (zI 0)])), (qG, zA cB (clp a * clp b) (fun _ => 0)), (qS, zA cB (clp a * clp b) (fun _ => 0)), (q4, zA cI 257 (fun _ => 0))]) rfl ?_
  refine j_putF C hwsX0_init tyX0 tyX0_ok nmX0 0 rfl rfl 4 (by decide) kX0_init_32 rfl rfl hin9 rfl (tyX0_ok 4 (by decide)) rfl rfl (Nat.le_of_ble_eq_true rfl) eX0_init_62 (wd' := [(o, .inr (1, [.int (zI ((clp a : Nat) : Int)), .int (zI ((clp b : Nat) : Int)), .ref qG, .ref qS, .ref q4, .null, .null, .null, .null, .int (zI 0), .null, .int (zI 0), .null, .int (zI 0), .null, .int (zI 0)])), (qG, zA cB (clp a * clp b) (fun _ => 0)), (qS, zA cB (clp a * clp b) (fun _ => 0)), (q4, zA cI 257 (fun _ => 0))]) rfl ?_
  refine j_aload_n C eX0_init_65 0 rfl ?_
  refine j_sipush C eX0_init_66 (by decide +kernel) ?_
  refine j_newa C kaX0_init_int rfl rfl (fun _ => ra_int) 1 rfl 257 rfl (by omega) (by show _ * 4 ≤ _; omega) (by show _ ≤ 10; omega) (by show _ ≤ 26000; omega) eX0_init_69 (fun q5 => ?_)
  refine j_wd (wd' := [(o, .inr (1, [.int (zI ((clp a : Nat) : Int)), .int (zI ((clp b : Nat) : Int)), .ref qG, .ref qS, .ref q4, .null, .null, .null, .null, .int (zI 0), .null, .int (zI 0), .null, .int (zI 0), .null, .int (zI 0)])), (qG, zA cB (clp a * clp b) (fun _ => 0)), (qS, zA cB (clp a * clp b) (fun _ => 0)), (q4, zA cI 257 (fun _ => 0)), (q5, zA cI 257 (fun _ => 0))]) rfl ?_
  refine j_putF C hwsX0_init tyX0 tyX0_ok nmX0 0 rfl rfl 5 (by decide) kX0_init_36 rfl rfl hin9 rfl (tyX0_ok 5 (by decide)) rfl rfl (Nat.le_of_ble_eq_true rfl) eX0_init_71 (wd' := [(o, .inr (1, [.int (zI ((clp a : Nat) : Int)), .int (zI ((clp b : Nat) : Int)), .ref qG, .ref qS, .ref q4, .ref q5, .null, .null, .null, .int (zI 0), .null, .int (zI 0), .null, .int (zI 0), .null, .int (zI 0)])), (qG, zA cB (clp a * clp b) (fun _ => 0)), (qS, zA cB (clp a * clp b) (fun _ => 0)), (q4, zA cI 257 (fun _ => 0)), (q5, zA cI 257 (fun _ => 0))]) rfl ?_
  refine j_aload_n C eX0_init_74 0 rfl ?_
  refine j_iload_n C eX0_init_75 3 rfl ?_
  refine j_newa C kaX0_init_boolean rfl rfl (fun _ => ra_bool) 2 rfl (clp a * clp b) rfl (by omega) (by show _ * 1 ≤ _; omega) (by show _ ≤ 10; omega) (by show _ ≤ 26000; omega) eX0_init_76 (fun q6 => ?_)
  refine j_wd (wd' := [(o, .inr (1, [.int (zI ((clp a : Nat) : Int)), .int (zI ((clp b : Nat) : Int)), .ref qG, .ref qS, .ref q4, .ref q5, .null, .null, .null, .int (zI 0), .null, .int (zI 0), .null, .int (zI 0), .null, .int (zI 0)])), (qG, zA cB (clp a * clp b) (fun _ => 0)), (qS, zA cB (clp a * clp b) (fun _ => 0)), (q4, zA cI 257 (fun _ => 0)), (q5, zA cI 257 (fun _ => 0)), (q6, zA cZ (clp a * clp b) (fun _ => 0))]) rfl ?_
  refine j_putF C hwsX0_init tyX0 tyX0_ok nmX0 0 rfl rfl 6 (by decide) kX0_init_39 rfl rfl hin9 rfl (tyX0_ok 6 (by decide)) rfl rfl (Nat.le_of_ble_eq_true rfl) eX0_init_78 (wd' := [(o, .inr (1, [.int (zI ((clp a : Nat) : Int)), .int (zI ((clp b : Nat) : Int)), .ref qG, .ref qS, .ref q4, .ref q5, .ref q6, .null, .null, .int (zI 0), .null, .int (zI 0), .null, .int (zI 0), .null, .int (zI 0)])), (qG, zA cB (clp a * clp b) (fun _ => 0)), (qS, zA cB (clp a * clp b) (fun _ => 0)), (q4, zA cI 257 (fun _ => 0)), (q5, zA cI 257 (fun _ => 0)), (q6, zA cZ (clp a * clp b) (fun _ => 0))]) rfl ?_
  refine j_aload_n C eX0_init_81 0 rfl ?_
  refine j_aload_n C eX0_init_82 0 rfl ?_
  refine j_getf C hwsX0_init 0 rfl rfl 1 (by decide) kX0_init_22 rfl rfl eX0_init_83 ?_
  refine j_newa C kaX0_init_int rfl rfl (fun _ => ra_int) 1 rfl (clp b) rfl (by omega) (by show _ * 4 ≤ _; omega) (by show _ ≤ 10; omega) (by show _ ≤ 26000; omega) eX0_init_86 (fun q7 => ?_)
  refine j_wd (wd' := [(o, .inr (1, [.int (zI ((clp a : Nat) : Int)), .int (zI ((clp b : Nat) : Int)), .ref qG, .ref qS, .ref q4, .ref q5, .ref q6, .null, .null, .int (zI 0), .null, .int (zI 0), .null, .int (zI 0), .null, .int (zI 0)])), (qG, zA cB (clp a * clp b) (fun _ => 0)), (qS, zA cB (clp a * clp b) (fun _ => 0)), (q4, zA cI 257 (fun _ => 0)), (q5, zA cI 257 (fun _ => 0)), (q6, zA cZ (clp a * clp b) (fun _ => 0)), (q7, zA cI (clp b) (fun _ => 0))]) rfl ?_
  refine j_putF C hwsX0_init tyX0 tyX0_ok nmX0 0 rfl rfl 7 (by decide) kX0_init_43 rfl rfl hin9 rfl (tyX0_ok 7 (by decide)) rfl rfl (Nat.le_of_ble_eq_true rfl) eX0_init_88 (wd' := [(o, .inr (1, [.int (zI ((clp a : Nat) : Int)), .int (zI ((clp b : Nat) : Int)), .ref qG, .ref qS, .ref q4, .ref q5, .ref q6, .ref q7, .null, .int (zI 0), .null, .int (zI 0), .null, .int (zI 0), .null, .int (zI 0)])), (qG, zA cB (clp a * clp b) (fun _ => 0)), (qS, zA cB (clp a * clp b) (fun _ => 0)), (q4, zA cI 257 (fun _ => 0)), (q5, zA cI 257 (fun _ => 0)), (q6, zA cZ (clp a * clp b) (fun _ => 0)), (q7, zA cI (clp b) (fun _ => 0))]) rfl ?_
  refine j_aload_n C eX0_init_91 0 rfl ?_
  refine j_iload_n C eX0_init_92 3 rfl ?_
  refine j_newa C kaX0_init_int rfl rfl (fun _ => ra_int) 1 rfl (clp a * clp b) rfl (by omega) (by show _ * 4 ≤ _; omega) (by show _ ≤ 10; omega) (by show _ ≤ 26000; omega) eX0_init_93 (fun q8 => ?_)
  refine j_wd (wd' := [(o, .inr (1, [.int (zI ((clp a : Nat) : Int)), .int (zI ((clp b : Nat) : Int)), .ref qG, .ref qS, .ref q4, .ref q5, .ref q6, .ref q7, .null, .int (zI 0), .null, .int (zI 0), .null, .int (zI 0), .null, .int (zI 0)])), (qG, zA cB (clp a * clp b) (fun _ => 0)), (qS, zA cB (clp a * clp b) (fun _ => 0)), (q4, zA cI 257 (fun _ => 0)), (q5, zA cI 257 (fun _ => 0)), (q6, zA cZ (clp a * clp b) (fun _ => 0)), (q7, zA cI (clp b) (fun _ => 0)), (q8, zA cI (clp a * clp b) (fun _ => 0))]) rfl ?_
  refine j_putF C hwsX0_init tyX0 tyX0_ok nmX0 0 rfl rfl 8 (by decide) kX0_init_46 rfl rfl hin9 rfl (tyX0_ok 8 (by decide)) rfl rfl (Nat.le_of_ble_eq_true rfl) eX0_init_95 (wd' := [(o, .inr (1, [.int (zI ((clp a : Nat) : Int)), .int (zI ((clp b : Nat) : Int)), .ref qG, .ref qS, .ref q4, .ref q5, .ref q6, .ref q7, .ref q8, .int (zI 0), .null, .int (zI 0), .null, .int (zI 0), .null, .int (zI 0)])), (qG, zA cB (clp a * clp b) (fun _ => 0)), (qS, zA cB (clp a * clp b) (fun _ => 0)), (q4, zA cI 257 (fun _ => 0)), (q5, zA cI 257 (fun _ => 0)), (q6, zA cZ (clp a * clp b) (fun _ => 0)), (q7, zA cI (clp b) (fun _ => 0)), (q8, zA cI (clp a * clp b) (fun _ => 0))]) rfl ?_
  refine j_aload_n C eX0_init_98 0 rfl ?_
  refine j_iload_n C eX0_init_99 3 rfl ?_
  refine j_iconst C eX0_init_100 ?_
  refine j_idiv C eX0_init_101 (by omega) (by omega) ?_
  refine j_top (y := zI ((clp a * clp b / 3 : Nat) : Int)) (by rw [show (3 : Int) = ((3 : Nat) : Int) from rfl, td_nat]) ?_
  refine j_bipush C eX0_init_102 (by decide +kernel) ?_
  refine j_imul C eX0_init_104 ?_
  refine j_top (y := zI ((clp a * clp b / 3 * 7 : Nat) : Int)) (by push_cast; rfl) ?_
  refine j_newa C kaX0_init_int rfl rfl (fun _ => ra_int) 1 rfl (clp a * clp b / 3 * 7) rfl (by omega) (by show _ * 4 ≤ _; omega) (by show _ ≤ 10; omega) (by show _ ≤ 26000; omega) eX0_init_105 (fun q10 => ?_)
  refine j_wd (wd' := [(o, .inr (1, [.int (zI ((clp a : Nat) : Int)), .int (zI ((clp b : Nat) : Int)), .ref qG, .ref qS, .ref q4, .ref q5, .ref q6, .ref q7, .ref q8, .int (zI 0), .null, .int (zI 0), .null, .int (zI 0), .null, .int (zI 0)])), (qG, zA cB (clp a * clp b) (fun _ => 0)), (qS, zA cB (clp a * clp b) (fun _ => 0)), (q4, zA cI 257 (fun _ => 0)), (q5, zA cI 257 (fun _ => 0)), (q6, zA cZ (clp a * clp b) (fun _ => 0)), (q7, zA cI (clp b) (fun _ => 0)), (q8, zA cI (clp a * clp b) (fun _ => 0)), (q10, zA cI (clp a * clp b / 3 * 7) (fun _ => 0))]) rfl ?_
  refine j_putF C hwsX0_init tyX0 tyX0_ok nmX0 0 rfl rfl 10 (by decide) kX0_init_49 rfl rfl hin9 rfl (tyX0_ok 10 (by decide)) rfl rfl (Nat.le_of_ble_eq_true rfl) eX0_init_107 (wd' := [(o, .inr (1, [.int (zI ((clp a : Nat) : Int)), .int (zI ((clp b : Nat) : Int)), .ref qG, .ref qS, .ref q4, .ref q5, .ref q6, .ref q7, .ref q8, .int (zI 0), .ref q10, .int (zI 0), .null, .int (zI 0), .null, .int (zI 0)])), (qG, zA cB (clp a * clp b) (fun _ => 0)), (qS, zA cB (clp a * clp b) (fun _ => 0)), (q4, zA cI 257 (fun _ => 0)), (q5, zA cI 257 (fun _ => 0)), (q6, zA cZ (clp a * clp b) (fun _ => 0)), (q7, zA cI (clp b) (fun _ => 0)), (q8, zA cI (clp a * clp b) (fun _ => 0)), (q10, zA cI (clp a * clp b / 3 * 7) (fun _ => 0))]) rfl ?_
  refine j_aload_n C eX0_init_110 0 rfl ?_
  refine j_iconst C eX0_init_111 ?_
  refine j_iload_n C eX0_init_112 3 rfl ?_
  refine j_imul C eX0_init_113 ?_
  refine j_newa C kaX0_init_byte rfl rfl (fun _ => ra_byte) 0 rfl (2 * (clp a * clp b)) (by push_cast; rfl) (by omega) (by show _ * 1 ≤ _; omega) (by show _ ≤ 10; omega) (by show _ ≤ 26000; omega) eX0_init_114 (fun q12 => ?_)
  refine j_wd (wd' := [(o, .inr (1, [.int (zI ((clp a : Nat) : Int)), .int (zI ((clp b : Nat) : Int)), .ref qG, .ref qS, .ref q4, .ref q5, .ref q6, .ref q7, .ref q8, .int (zI 0), .ref q10, .int (zI 0), .null, .int (zI 0), .null, .int (zI 0)])), (qG, zA cB (clp a * clp b) (fun _ => 0)), (qS, zA cB (clp a * clp b) (fun _ => 0)), (q4, zA cI 257 (fun _ => 0)), (q5, zA cI 257 (fun _ => 0)), (q6, zA cZ (clp a * clp b) (fun _ => 0)), (q7, zA cI (clp b) (fun _ => 0)), (q8, zA cI (clp a * clp b) (fun _ => 0)), (q10, zA cI (clp a * clp b / 3 * 7) (fun _ => 0)), (q12, zA cB (2 * (clp a * clp b)) (fun _ => 0))]) rfl ?_
  refine j_putF C hwsX0_init tyX0 tyX0_ok nmX0 0 rfl rfl 12 (by decide) kX0_init_52 rfl rfl hin9 rfl (tyX0_ok 12 (by decide)) rfl rfl (Nat.le_of_ble_eq_true rfl) eX0_init_116 (wd' := [(o, .inr (1, [.int (zI ((clp a : Nat) : Int)), .int (zI ((clp b : Nat) : Int)), .ref qG, .ref qS, .ref q4, .ref q5, .ref q6, .ref q7, .ref q8, .int (zI 0), .ref q10, .int (zI 0), .ref q12, .int (zI 0), .null, .int (zI 0)])), (qG, zA cB (clp a * clp b) (fun _ => 0)), (qS, zA cB (clp a * clp b) (fun _ => 0)), (q4, zA cI 257 (fun _ => 0)), (q5, zA cI 257 (fun _ => 0)), (q6, zA cZ (clp a * clp b) (fun _ => 0)), (q7, zA cI (clp b) (fun _ => 0)), (q8, zA cI (clp a * clp b) (fun _ => 0)), (q10, zA cI (clp a * clp b / 3 * 7) (fun _ => 0)), (q12, zA cB (2 * (clp a * clp b)) (fun _ => 0))]) rfl ?_
  refine j_aload_n C eX0_init_119 0 rfl ?_
  refine j_sipush C eX0_init_120 (by decide +kernel) ?_
  refine j_newa C kaX0_init_byte rfl rfl (fun _ => ra_byte) 0 rfl 5000 rfl (by omega) (by show _ * 1 ≤ _; omega) (by show _ ≤ 10; omega) (by show _ ≤ 26000; omega) eX0_init_123 (fun q14 => ?_)
  refine j_wd (wd' := [(o, .inr (1, [.int (zI ((clp a : Nat) : Int)), .int (zI ((clp b : Nat) : Int)), .ref qG, .ref qS, .ref q4, .ref q5, .ref q6, .ref q7, .ref q8, .int (zI 0), .ref q10, .int (zI 0), .ref q12, .int (zI 0), .null, .int (zI 0)])), (qG, zA cB (clp a * clp b) (fun _ => 0)), (qS, zA cB (clp a * clp b) (fun _ => 0)), (q4, zA cI 257 (fun _ => 0)), (q5, zA cI 257 (fun _ => 0)), (q6, zA cZ (clp a * clp b) (fun _ => 0)), (q7, zA cI (clp b) (fun _ => 0)), (q8, zA cI (clp a * clp b) (fun _ => 0)), (q10, zA cI (clp a * clp b / 3 * 7) (fun _ => 0)), (q12, zA cB (2 * (clp a * clp b)) (fun _ => 0)), (q14, zA cB 5000 (fun _ => 0))]) rfl ?_
  refine j_putF C hwsX0_init tyX0 tyX0_ok nmX0 0 rfl rfl 14 (by decide) kX0_init_55 rfl rfl hin9 rfl (tyX0_ok 14 (by decide)) rfl rfl (Nat.le_of_ble_eq_true rfl) eX0_init_125 (wd' := [(o, .inr (1, [.int (zI ((clp a : Nat) : Int)), .int (zI ((clp b : Nat) : Int)), .ref qG, .ref qS, .ref q4, .ref q5, .ref q6, .ref q7, .ref q8, .int (zI 0), .ref q10, .int (zI 0), .ref q12, .int (zI 0), .ref q14, .int (zI 0)])), (qG, zA cB (clp a * clp b) (fun _ => 0)), (qS, zA cB (clp a * clp b) (fun _ => 0)), (q4, zA cI 257 (fun _ => 0)), (q5, zA cI 257 (fun _ => 0)), (q6, zA cZ (clp a * clp b) (fun _ => 0)), (q7, zA cI (clp b) (fun _ => 0)), (q8, zA cI (clp a * clp b) (fun _ => 0)), (q10, zA cI (clp a * clp b / 3 * 7) (fun _ => 0)), (q12, zA cB (2 * (clp a * clp b)) (fun _ => 0)), (q14, zA cB 5000 (fun _ => 0))]) rfl ?_
  refine j_aload_n C eX0_init_128 0 rfl ?_
  refine j_getf C hwsX0_init 0 rfl rfl 2 (by decide) kX0_init_25 rfl rfl eX0_init_129 ?_
  refine j_iconst C eX0_init_132 ?_
  refine j_widen (cells' := 10) (slots' := 26000) (by omega) (by omega) ?_
  refine j_callSv C (As := [.ref qG, .int (zI (-1))]) (rest := []) (ctJ7_fill_031fb l D cB cI cZ cL qG (clp a * clp b) (fun _ => 0) (-1) (by omega) (by omega)) (va_cwS 2 C.1.2.2.2.2 gX0_init_J7_fill_031fb rfl rfl rfl (by decide +kernel) ⟨Nat.le_of_ble_eq_true rfl, Nat.le_of_ble_eq_true rfl⟩) [1] [0, 2, 3, 4, 5, 6, 7, 8, 9, 10] (wr := [0, 2, 3, 4, 5, 6, 7, 8, 9, 10].filterMap (fun i => ([(o, .inr (1, [.int (zI ((clp a : Nat) : Int)), .int (zI ((clp b : Nat) : Int)), .ref qG, .ref qS, .ref q4, .ref q5, .ref q6, .ref q7, .ref q8, .int (zI 0), .ref q10, .int (zI 0), .ref q12, .int (zI 0), .ref q14, .int (zI 0)])), (qG, zA cB (clp a * clp b) (fun _ => 0)), (qS, zA cB (clp a * clp b) (fun _ => 0)), (q4, zA cI 257 (fun _ => 0)), (q5, zA cI 257 (fun _ => 0)), (q6, zA cZ (clp a * clp b) (fun _ => 0)), (q7, zA cI (clp b) (fun _ => 0)), (q8, zA cI (clp a * clp b) (fun _ => 0)), (q10, zA cI (clp a * clp b / 3 * 7) (fun _ => 0)), (q12, zA cB (2 * (clp a * clp b)) (fun _ => 0)), (q14, zA cB 5000 (fun _ => 0))] : va_W)[i]?)) rfl (by decide) rfl (by decide) (by decide) rfl rfl (Nat.le_of_ble_eq_true rfl) eX0_init_133 ⟨Nat.le_of_ble_eq_true rfl, Nat.le_of_ble_eq_true rfl⟩ (fun w1 hp => ?_)
  obtain ⟨G1, hG1, rfl⟩ := hp
  refine j_perm [0, 10, 1, 2, 3, 4, 5, 6, 7, 8, 9] (by decide) (wd' := wX cB cI cZ (fun k : Nat => if k = 0 then o else if k = 4 then q4 else if k = 5 then q5 else if k = 6 then q6 else if k = 7 then q7 else if k = 8 then q8 else if k = 10 then q10 else if k = 12 then q12 else q14) (clp a) (clp b) qG qS G1 (fun _ => 0) (fun _ => 0) (fun _ => 0) (fun _ => 0) (fun _ => 0) (fun _ => 0) (fun _ => 0) (fun _ => 0) (fun _ => 0) 0 0 0 0) rfl ?_
  exact j_vret C hr hlocks eX0_init_136 ⟨(fun k : Nat => if k = 0 then o else if k = 4 then q4 else if k = 5 then q5 else if k = 6 then q6 else if k = 7 then q7 else if k = 8 then q8 else if k = 10 then q10 else if k = 12 then q12 else q14), qG, qS, G1, rfl, hG1, rfl⟩
theorem hwsX1_init : ∀ w ∈ u_ws RX1 TX1 15, w ∈ wsX1_init := fun _ h => List.mem_cons_of_mem _ (List.mem_append_right _ h)
theorem kX1_init_7 : Cond.fieldLink RX1 7 "SheetRowsModel" (TX1 4).2.1 (TX1 4).2.2.1 ∈ wsX1_init := by decide +kernel
theorem kX1_init_13 : Cond.fieldLink RX1 13 "SheetRowsModel" (TX1 5).2.1 (TX1 5).2.2.1 ∈ wsX1_init := by decide +kernel
theorem kX1_init_16 : Cond.fieldLink RX1 16 "SheetRowsModel" (TX1 6).2.1 (TX1 6).2.2.1 ∈ wsX1_init := by decide +kernel
theorem kX1_init_19 : Cond.fieldLink RX1 19 "SheetRowsModel" (TX1 7).2.1 (TX1 7).2.2.1 ∈ wsX1_init := by decide +kernel
theorem kX1_init_22 : Cond.fieldLink RX1 22 "SheetRowsModel" (TX1 9).2.1 (TX1 9).2.2.1 ∈ wsX1_init := by decide +kernel
theorem kX1_init_25 : Cond.fieldLink RX1 25 "SheetRowsModel" (TX1 10).2.1 (TX1 10).2.2.1 ∈ wsX1_init := by decide +kernel
theorem kX1_init_28 : Cond.fieldLink RX1 28 "SheetRowsModel" (TX1 12).2.1 (TX1 12).2.2.1 ∈ wsX1_init := by decide +kernel
theorem kX1_init_32 : Cond.fieldLink RX1 32 "SheetRowsModel" (TX1 14).2.1 (TX1 14).2.2.1 ∈ wsX1_init := by decide +kernel
theorem kX1_init_35 : Cond.fieldLink RX1 35 "SheetRowsModel" (TX1 1).2.1 (TX1 1).2.2.1 ∈ wsX1_init := by decide +kernel
theorem kX1_init_39 : Cond.fieldLink RX1 39 "SheetRowsModel" (TX1 2).2.1 (TX1 2).2.2.1 ∈ wsX1_init := by decide +kernel
theorem kX1_init_42 : Cond.fieldLink RX1 42 "SheetRowsModel" (TX1 3).2.1 (TX1 3).2.2.1 ∈ wsX1_init := by decide +kernel
theorem kaX1_init_byte : Cond.arrayClass (newarray.typeOf .byte) ∈ wsX1_init := by decide +kernel
theorem kaX1_init_int : Cond.arrayClass (newarray.typeOf .int) ∈ wsX1_init := by decide +kernel
abbrev rmX1_init : Room := { frames := 1, cells := 8, slots := 36000, locals := 21 }
set_option maxHeartbeats 4000000 in
set_option maxRecDepth 100000 in
theorem lpX1_init {p : Program} {l : Launch} {e : Env} {s : State} {m : MethodId} {args : Array Value} {below : List Frame} {meth : Method} {c : Code} {Q : State → Prop} {D : va_G} {A : Nat → Prop} {cB cI cZ cL : ClassId} {w h : Nat} {bd : Nat → Nat} {a b : Int} (C : JC p m c cX1_init 4 s args wsX1_init RX1 D vwCl (tyl cB cI cZ cL) A) (hs : Sz w h) (kx : ∀ G : Nat → Int, (∀ k, k < w * h → G k = 255) → J p l e rmX1_init s m args below meth c Q 4 D vwCl A 164 [(0, .ref (bd 0)), (1, .int (zI a)), (2, .int (zI b)), (3, .int (zI ((w * h) : Int)))] [] (wM cB cI bd w h G (fun _ => 0) (fun _ => 0) (fun _ => 0) (fun _ => 0) (fun _ => 0) (fun _ => 0) (fun _ => 0) 0 0 0 0) 8 36000) : ∀ (n i : Nat) (G : Nat → Int), i ≤ w * h → w * h - i < n → (∀ k, k < i → G k = 255) → J p l e rmX1_init s m args below meth c Q 4 D vwCl A 141 [(0, .ref (bd 0)), (1, .int (zI a)), (2, .int (zI b)), (3, .int (zI (i : Int)))] [] (wM cB cI bd w h G (fun _ => 0) (fun _ => 0) (fun _ => 0) (fun _ => 0) (fun _ => 0) (fun _ => 0) (fun _ => 0) 0 0 0 0) 8 36000 := by
  have hm := hs.mul
  intro n
  induction n with
  | zero => intro i G _ hn; exact absurd hn (Nat.not_lt_zero _)
  | succ n ih =>
    intro i G hi hn hG
    refine j_iload_n C eX1_init_141 3 rfl ?_
    refine j_aload_n C eX1_init_142 0 rfl ?_
    refine j_getf C hwsX1_init 0 rfl rfl 3 (by decide) kX1_init_42 rfl rfl eX1_init_143 ?_
    refine j_icmp_ge C 164 eX1_init_146 (by decide) (by omega) (by omega) (fun c146 => ?_) (fun c146 => ?_)
    ·
      have he : i = w * h := by omega
      subst he
      exact kx G hG
    ·
      refine j_aload_n C eX1_init_149 0 rfl ?_
      refine j_getf C hwsX1_init 0 rfl rfl 4 (by decide) kX1_init_7 rfl rfl eX1_init_150 ?_
      refine j_iload_n C eX1_init_153 3 rfl ?_
      refine j_sipush C eX1_init_154 (by decide +kernel) ?_
      refine j_iast C 1 1 rfl rfl i rfl (by omega) (by omega) eX1_init_157 (wd' := wM cB cI bd w h (zup G i 255) (fun _ => 0) (fun _ => 0) (fun _ => 0) (fun _ => 0) (fun _ => 0) (fun _ => 0) (fun _ => 0) 0 0 0 0) rfl ?_
      refine j_iinc C eX1_init_158 3 rfl rfl (by decide) (lv' := [(0, .ref (bd 0)), (1, .int (zI a)), (2, .int (zI b)), (3, .int (zI ((i : Int) + 1)))]) rfl ?_
      refine j_goto C 141 eX1_init_161 (by decide) ?_
      exact ih (i + 1) _ (by omega) (by omega) (fun v hv => by
        by_cases e : v = i
        · subst e; exact zup_s
        · rw [zup_n e]; exact hG v (by omega))
set_option maxHeartbeats 4000000 in
set_option maxRecDepth 100000 in
theorem ctX1_init (l : Launch) (D : va_G) (cB cI cZ cL : ClassId) (o : Nat) (a b : Int) (ha : -2147483648 ≤ a ∧ a ≤ 2147483647) (hb : -2147483648 ≤ b ∧ b ≤ 2147483647) : mV l yX1_init wsX1_init rmX1_init D vwCl (tyl cB cI cZ cL) [.ref o, .int (zI a), .int (zI b)] [(o, .inr (2, [.int (zI 0), .int (zI 0), .int (zI 0), .int (zI 0), .null, .null, .null, .null, .int (zI 0), .null, .null, .int (zI 0), .null, .int (zI 0), .null]))] 8 36000 (fun w1 => ∃ (bd : Nat → Nat) (G : Nat → Int), bd 0 = o ∧ (∀ k, k < clp a * clp b → G k = 255) ∧ w1 = wM cB cI bd (clp a) (clp b) G (fun _ => 0) (fun _ => 0) (fun _ => 0) (fun _ => 0) (fun _ => 0) (fun _ => 0) (fun _ => 0) 0 0 0 0) := by
  have hw := clp_in a
  have hh := clp_in b
  have hm := (clp_sz a b).mul
  refine mV_of (own := RX1) rfl (by decide) rfl (Nat.le_of_ble_eq_true rfl) ?_
  intro p e s m args below meth c C hr hlocks hname
  have hin9 : meth.name = "<init>" := hname
  show J p l e rmX1_init s m args below meth c _ 4 D vwCl _ 0 [(0, .ref o), (1, .int (zI a)), (2, .int (zI b))] [] [(o, .inr (2, [.int (zI 0), .int (zI 0), .int (zI 0), .int (zI 0), .null, .null, .null, .null, .int (zI 0), .null, .null, .int (zI 0), .null, .int (zI 0), .null]))] 0 0
  refine j_aload_n C eX1_init_0 0 rfl ?_
  refine j_objInit C (by decide +kernel) (by decide +kernel) (by decide +kernel) (Nat.le_of_ble_eq_true rfl) (Nat.le_of_ble_eq_true rfl) eX1_init_1 ?_
  refine j_aload_n C eX1_init_4 0 rfl ?_
  refine j_sipush C eX1_init_5 (by decide +kernel) ?_
  refine j_newa C kaX1_init_int rfl rfl (fun _ => ra_int) 1 rfl 2304 rfl (by omega) (by show _ * 4 ≤ _; omega) (by show _ ≤ 8; omega) (by show _ ≤ 36000; omega) eX1_init_8 (fun q4 => ?_)
  refine j_wd (wd' := [(o, .inr (2, [.int (zI 0), .int (zI 0), .int (zI 0), .int (zI 0), .null, .null, .null, .null, .int (zI 0), .null, .null, .int (zI 0), .null, .int (zI 0), .null])), (q4, zA cI 2304 (fun _ => 0))]) rfl ?_
  refine j_putF C hwsX1_init tyX1 tyX1_ok nmX1 0 rfl rfl 4 (by decide) kX1_init_7 rfl rfl hin9 rfl (tyX1_ok 4 (by decide)) rfl rfl (Nat.le_of_ble_eq_true rfl) eX1_init_10 (wd' := [(o, .inr (2, [.int (zI 0), .int (zI 0), .int (zI 0), .int (zI 0), .ref q4, .null, .null, .null, .int (zI 0), .null, .null, .int (zI 0), .null, .int (zI 0), .null])), (q4, zA cI 2304 (fun _ => 0))]) rfl ?_
  refine j_aload_n C eX1_init_13 0 rfl ?_
  refine j_sipush C eX1_init_14 (by decide +kernel) ?_
  refine j_newa C kaX1_init_int rfl rfl (fun _ => ra_int) 1 rfl 2304 rfl (by omega) (by show _ * 4 ≤ _; omega) (by show _ ≤ 8; omega) (by show _ ≤ 36000; omega) eX1_init_17 (fun q5 => ?_)
  refine j_wd (wd' := [(o, .inr (2, [.int (zI 0), .int (zI 0), .int (zI 0), .int (zI 0), .ref q4, .null, .null, .null, .int (zI 0), .null, .null, .int (zI 0), .null, .int (zI 0), .null])), (q4, zA cI 2304 (fun _ => 0)), (q5, zA cI 2304 (fun _ => 0))]) rfl ?_
  refine j_putF C hwsX1_init tyX1 tyX1_ok nmX1 0 rfl rfl 5 (by decide) kX1_init_13 rfl rfl hin9 rfl (tyX1_ok 5 (by decide)) rfl rfl (Nat.le_of_ble_eq_true rfl) eX1_init_19 (wd' := [(o, .inr (2, [.int (zI 0), .int (zI 0), .int (zI 0), .int (zI 0), .ref q4, .ref q5, .null, .null, .int (zI 0), .null, .null, .int (zI 0), .null, .int (zI 0), .null])), (q4, zA cI 2304 (fun _ => 0)), (q5, zA cI 2304 (fun _ => 0))]) rfl ?_
  refine j_aload_n C eX1_init_22 0 rfl ?_
  refine j_sipush C eX1_init_23 (by decide +kernel) ?_
  refine j_newa C kaX1_init_int rfl rfl (fun _ => ra_int) 1 rfl 256 rfl (by omega) (by show _ * 4 ≤ _; omega) (by show _ ≤ 8; omega) (by show _ ≤ 36000; omega) eX1_init_26 (fun q6 => ?_)
  refine j_wd (wd' := [(o, .inr (2, [.int (zI 0), .int (zI 0), .int (zI 0), .int (zI 0), .ref q4, .ref q5, .null, .null, .int (zI 0), .null, .null, .int (zI 0), .null, .int (zI 0), .null])), (q4, zA cI 2304 (fun _ => 0)), (q5, zA cI 2304 (fun _ => 0)), (q6, zA cI 256 (fun _ => 0))]) rfl ?_
  refine j_putF C hwsX1_init tyX1 tyX1_ok nmX1 0 rfl rfl 6 (by decide) kX1_init_16 rfl rfl hin9 rfl (tyX1_ok 6 (by decide)) rfl rfl (Nat.le_of_ble_eq_true rfl) eX1_init_28 (wd' := [(o, .inr (2, [.int (zI 0), .int (zI 0), .int (zI 0), .int (zI 0), .ref q4, .ref q5, .ref q6, .null, .int (zI 0), .null, .null, .int (zI 0), .null, .int (zI 0), .null])), (q4, zA cI 2304 (fun _ => 0)), (q5, zA cI 2304 (fun _ => 0)), (q6, zA cI 256 (fun _ => 0))]) rfl ?_
  refine j_aload_n C eX1_init_31 0 rfl ?_
  refine j_sipush C eX1_init_32 (by decide +kernel) ?_
  refine j_newa C kaX1_init_int rfl rfl (fun _ => ra_int) 1 rfl 2304 rfl (by omega) (by show _ * 4 ≤ _; omega) (by show _ ≤ 8; omega) (by show _ ≤ 36000; omega) eX1_init_35 (fun q7 => ?_)
  refine j_wd (wd' := [(o, .inr (2, [.int (zI 0), .int (zI 0), .int (zI 0), .int (zI 0), .ref q4, .ref q5, .ref q6, .null, .int (zI 0), .null, .null, .int (zI 0), .null, .int (zI 0), .null])), (q4, zA cI 2304 (fun _ => 0)), (q5, zA cI 2304 (fun _ => 0)), (q6, zA cI 256 (fun _ => 0)), (q7, zA cI 2304 (fun _ => 0))]) rfl ?_
  refine j_putF C hwsX1_init tyX1 tyX1_ok nmX1 0 rfl rfl 7 (by decide) kX1_init_19 rfl rfl hin9 rfl (tyX1_ok 7 (by decide)) rfl rfl (Nat.le_of_ble_eq_true rfl) eX1_init_37 (wd' := [(o, .inr (2, [.int (zI 0), .int (zI 0), .int (zI 0), .int (zI 0), .ref q4, .ref q5, .ref q6, .ref q7, .int (zI 0), .null, .null, .int (zI 0), .null, .int (zI 0), .null])), (q4, zA cI 2304 (fun _ => 0)), (q5, zA cI 2304 (fun _ => 0)), (q6, zA cI 256 (fun _ => 0)), (q7, zA cI 2304 (fun _ => 0))]) rfl ?_
  refine j_aload_n C eX1_init_40 0 rfl ?_
  refine j_sipush C eX1_init_41 (by decide +kernel) ?_
  refine j_newa C kaX1_init_int rfl rfl (fun _ => ra_int) 1 rfl 2304 rfl (by omega) (by show _ * 4 ≤ _; omega) (by show _ ≤ 8; omega) (by show _ ≤ 36000; omega) eX1_init_44 (fun q9 => ?_)
  refine j_wd (wd' := [(o, .inr (2, [.int (zI 0), .int (zI 0), .int (zI 0), .int (zI 0), .ref q4, .ref q5, .ref q6, .ref q7, .int (zI 0), .null, .null, .int (zI 0), .null, .int (zI 0), .null])), (q4, zA cI 2304 (fun _ => 0)), (q5, zA cI 2304 (fun _ => 0)), (q6, zA cI 256 (fun _ => 0)), (q7, zA cI 2304 (fun _ => 0)), (q9, zA cI 2304 (fun _ => 0))]) rfl ?_
  refine j_putF C hwsX1_init tyX1 tyX1_ok nmX1 0 rfl rfl 9 (by decide) kX1_init_22 rfl rfl hin9 rfl (tyX1_ok 9 (by decide)) rfl rfl (Nat.le_of_ble_eq_true rfl) eX1_init_46 (wd' := [(o, .inr (2, [.int (zI 0), .int (zI 0), .int (zI 0), .int (zI 0), .ref q4, .ref q5, .ref q6, .ref q7, .int (zI 0), .ref q9, .null, .int (zI 0), .null, .int (zI 0), .null])), (q4, zA cI 2304 (fun _ => 0)), (q5, zA cI 2304 (fun _ => 0)), (q6, zA cI 256 (fun _ => 0)), (q7, zA cI 2304 (fun _ => 0)), (q9, zA cI 2304 (fun _ => 0))]) rfl ?_
  refine j_aload_n C eX1_init_49 0 rfl ?_
  refine j_sipush C eX1_init_50 (by decide +kernel) ?_
  refine j_newa C kaX1_init_int rfl rfl (fun _ => ra_int) 1 rfl 16128 rfl (by omega) (by show _ * 4 ≤ _; omega) (by show _ ≤ 8; omega) (by show _ ≤ 36000; omega) eX1_init_53 (fun q10 => ?_)
  refine j_wd (wd' := [(o, .inr (2, [.int (zI 0), .int (zI 0), .int (zI 0), .int (zI 0), .ref q4, .ref q5, .ref q6, .ref q7, .int (zI 0), .ref q9, .null, .int (zI 0), .null, .int (zI 0), .null])), (q4, zA cI 2304 (fun _ => 0)), (q5, zA cI 2304 (fun _ => 0)), (q6, zA cI 256 (fun _ => 0)), (q7, zA cI 2304 (fun _ => 0)), (q9, zA cI 2304 (fun _ => 0)), (q10, zA cI 16128 (fun _ => 0))]) rfl ?_
  refine j_putF C hwsX1_init tyX1 tyX1_ok nmX1 0 rfl rfl 10 (by decide) kX1_init_25 rfl rfl hin9 rfl (tyX1_ok 10 (by decide)) rfl rfl (Nat.le_of_ble_eq_true rfl) eX1_init_55 (wd' := [(o, .inr (2, [.int (zI 0), .int (zI 0), .int (zI 0), .int (zI 0), .ref q4, .ref q5, .ref q6, .ref q7, .int (zI 0), .ref q9, .ref q10, .int (zI 0), .null, .int (zI 0), .null])), (q4, zA cI 2304 (fun _ => 0)), (q5, zA cI 2304 (fun _ => 0)), (q6, zA cI 256 (fun _ => 0)), (q7, zA cI 2304 (fun _ => 0)), (q9, zA cI 2304 (fun _ => 0)), (q10, zA cI 16128 (fun _ => 0))]) rfl ?_
  refine j_aload_n C eX1_init_58 0 rfl ?_
  refine j_sipush C eX1_init_59 (by decide +kernel) ?_
  refine j_newa C kaX1_init_byte rfl rfl (fun _ => ra_byte) 0 rfl 4608 rfl (by omega) (by show _ * 1 ≤ _; omega) (by show _ ≤ 8; omega) (by show _ ≤ 36000; omega) eX1_init_62 (fun q12 => ?_)
  refine j_wd (wd' := [(o, .inr (2, [.int (zI 0), .int (zI 0), .int (zI 0), .int (zI 0), .ref q4, .ref q5, .ref q6, .ref q7, .int (zI 0), .ref q9, .ref q10, .int (zI 0), .null, .int (zI 0), .null])), (q4, zA cI 2304 (fun _ => 0)), (q5, zA cI 2304 (fun _ => 0)), (q6, zA cI 256 (fun _ => 0)), (q7, zA cI 2304 (fun _ => 0)), (q9, zA cI 2304 (fun _ => 0)), (q10, zA cI 16128 (fun _ => 0)), (q12, zA cB 4608 (fun _ => 0))]) rfl ?_
  refine j_putF C hwsX1_init tyX1 tyX1_ok nmX1 0 rfl rfl 12 (by decide) kX1_init_28 rfl rfl hin9 rfl (tyX1_ok 12 (by decide)) rfl rfl (Nat.le_of_ble_eq_true rfl) eX1_init_64 (wd' := [(o, .inr (2, [.int (zI 0), .int (zI 0), .int (zI 0), .int (zI 0), .ref q4, .ref q5, .ref q6, .ref q7, .int (zI 0), .ref q9, .ref q10, .int (zI 0), .ref q12, .int (zI 0), .null])), (q4, zA cI 2304 (fun _ => 0)), (q5, zA cI 2304 (fun _ => 0)), (q6, zA cI 256 (fun _ => 0)), (q7, zA cI 2304 (fun _ => 0)), (q9, zA cI 2304 (fun _ => 0)), (q10, zA cI 16128 (fun _ => 0)), (q12, zA cB 4608 (fun _ => 0))]) rfl ?_
  refine j_aload_n C eX1_init_67 0 rfl ?_
  refine j_sipush C eX1_init_68 (by decide +kernel) ?_
  refine j_newa C kaX1_init_byte rfl rfl (fun _ => ra_byte) 0 rfl 5000 rfl (by omega) (by show _ * 1 ≤ _; omega) (by show _ ≤ 8; omega) (by show _ ≤ 36000; omega) eX1_init_71 (fun q14 => ?_)
  refine j_wd (wd' := [(o, .inr (2, [.int (zI 0), .int (zI 0), .int (zI 0), .int (zI 0), .ref q4, .ref q5, .ref q6, .ref q7, .int (zI 0), .ref q9, .ref q10, .int (zI 0), .ref q12, .int (zI 0), .null])), (q4, zA cI 2304 (fun _ => 0)), (q5, zA cI 2304 (fun _ => 0)), (q6, zA cI 256 (fun _ => 0)), (q7, zA cI 2304 (fun _ => 0)), (q9, zA cI 2304 (fun _ => 0)), (q10, zA cI 16128 (fun _ => 0)), (q12, zA cB 4608 (fun _ => 0)), (q14, zA cB 5000 (fun _ => 0))]) rfl ?_
  refine j_putF C hwsX1_init tyX1 tyX1_ok nmX1 0 rfl rfl 14 (by decide) kX1_init_32 rfl rfl hin9 rfl (tyX1_ok 14 (by decide)) rfl rfl (Nat.le_of_ble_eq_true rfl) eX1_init_73 (wd' := [(o, .inr (2, [.int (zI 0), .int (zI 0), .int (zI 0), .int (zI 0), .ref q4, .ref q5, .ref q6, .ref q7, .int (zI 0), .ref q9, .ref q10, .int (zI 0), .ref q12, .int (zI 0), .ref q14])), (q4, zA cI 2304 (fun _ => 0)), (q5, zA cI 2304 (fun _ => 0)), (q6, zA cI 256 (fun _ => 0)), (q7, zA cI 2304 (fun _ => 0)), (q9, zA cI 2304 (fun _ => 0)), (q10, zA cI 16128 (fun _ => 0)), (q12, zA cB 4608 (fun _ => 0)), (q14, zA cB 5000 (fun _ => 0))]) rfl ?_
  refine j_widen (cells' := 8) (slots' := 36000) (by omega) (by omega) ?_
  refine j_aload_n C eX1_init_76 0 rfl ?_
  refine j_iload_n C eX1_init_77 1 rfl ?_
  refine j_iconst C eX1_init_78 ?_
  refine j_cut (pcm := 98) (lvm := [(0, .ref o), (1, .int (zI a)), (2, .int (zI b))]) (stm := [.int (zI ((clp a : Nat) : Int)), .ref o]) (wdm := [(o, .inr (2, [.int (zI 0), .int (zI 0), .int (zI 0), .int (zI 0), .ref q4, .ref q5, .ref q6, .ref q7, .int (zI 0), .ref q9, .ref q10, .int (zI 0), .ref q12, .int (zI 0), .ref q14])), (q4, zA cI 2304 (fun _ => 0)), (q5, zA cI 2304 (fun _ => 0)), (q6, zA cI 256 (fun _ => 0)), (q7, zA cI 2304 (fun _ => 0)), (q9, zA cI 2304 (fun _ => 0)), (q10, zA cI 16128 (fun _ => 0)), (q12, zA cB 4608 (fun _ => 0)), (q14, zA cB 5000 (fun _ => 0))]) (cm := 8) (sm := 36000) ?_ (fun K98 => ?_)
  ·
    refine j_putF C hwsX1_init tyX1 tyX1_ok nmX1 0 rfl rfl 1 (by decide) kX1_init_35 rfl rfl hin9 rfl (tyX1_ok 1 (by decide)) rfl rfl (Nat.le_of_ble_eq_true rfl) eX1_init_98 (wd' := [(o, .inr (2, [.int (zI 0), .int (zI ((clp a : Nat) : Int)), .int (zI 0), .int (zI 0), .ref q4, .ref q5, .ref q6, .ref q7, .int (zI 0), .ref q9, .ref q10, .int (zI 0), .ref q12, .int (zI 0), .ref q14])), (q4, zA cI 2304 (fun _ => 0)), (q5, zA cI 2304 (fun _ => 0)), (q6, zA cI 256 (fun _ => 0)), (q7, zA cI 2304 (fun _ => 0)), (q9, zA cI 2304 (fun _ => 0)), (q10, zA cI 16128 (fun _ => 0)), (q12, zA cB 4608 (fun _ => 0)), (q14, zA cB 5000 (fun _ => 0))]) rfl ?_
    refine j_aload_n C eX1_init_101 0 rfl ?_
    refine j_iload_n C eX1_init_102 2 rfl ?_
    refine j_iconst C eX1_init_103 ?_
    refine j_cut (pcm := 123) (lvm := [(0, .ref o), (1, .int (zI a)), (2, .int (zI b))]) (stm := [.int (zI ((clp b : Nat) : Int)), .ref o]) (wdm := [(o, .inr (2, [.int (zI 0), .int (zI ((clp a : Nat) : Int)), .int (zI 0), .int (zI 0), .ref q4, .ref q5, .ref q6, .ref q7, .int (zI 0), .ref q9, .ref q10, .int (zI 0), .ref q12, .int (zI 0), .ref q14])), (q4, zA cI 2304 (fun _ => 0)), (q5, zA cI 2304 (fun _ => 0)), (q6, zA cI 256 (fun _ => 0)), (q7, zA cI 2304 (fun _ => 0)), (q9, zA cI 2304 (fun _ => 0)), (q10, zA cI 16128 (fun _ => 0)), (q12, zA cB 4608 (fun _ => 0)), (q14, zA cB 5000 (fun _ => 0))]) (cm := 8) (sm := 36000) ?_ (fun K123 => ?_)
    ·
      refine j_putF C hwsX1_init tyX1 tyX1_ok nmX1 0 rfl rfl 2 (by decide) kX1_init_39 rfl rfl hin9 rfl (tyX1_ok 2 (by decide)) rfl rfl (Nat.le_of_ble_eq_true rfl) eX1_init_123 (wd' := [(o, .inr (2, [.int (zI 0), .int (zI ((clp a : Nat) : Int)), .int (zI ((clp b : Nat) : Int)), .int (zI 0), .ref q4, .ref q5, .ref q6, .ref q7, .int (zI 0), .ref q9, .ref q10, .int (zI 0), .ref q12, .int (zI 0), .ref q14])), (q4, zA cI 2304 (fun _ => 0)), (q5, zA cI 2304 (fun _ => 0)), (q6, zA cI 256 (fun _ => 0)), (q7, zA cI 2304 (fun _ => 0)), (q9, zA cI 2304 (fun _ => 0)), (q10, zA cI 16128 (fun _ => 0)), (q12, zA cB 4608 (fun _ => 0)), (q14, zA cB 5000 (fun _ => 0))]) rfl ?_
      refine j_aload_n C eX1_init_126 0 rfl ?_
      refine j_aload_n C eX1_init_127 0 rfl ?_
      refine j_getf C hwsX1_init 0 rfl rfl 1 (by decide) kX1_init_35 rfl rfl eX1_init_128 ?_
      refine j_aload_n C eX1_init_131 0 rfl ?_
      refine j_getf C hwsX1_init 0 rfl rfl 2 (by decide) kX1_init_39 rfl rfl eX1_init_132 ?_
      refine j_imul C eX1_init_135 ?_
      refine j_top (y := zI ((clp a * clp b : Nat) : Int)) (by push_cast; rfl) ?_
      refine j_putF C hwsX1_init tyX1 tyX1_ok nmX1 0 rfl rfl 3 (by decide) kX1_init_42 rfl rfl hin9 rfl (tyX1_ok 3 (by decide)) rfl rfl (Nat.le_of_ble_eq_true rfl) eX1_init_136 (wd' := [(o, .inr (2, [.int (zI 0), .int (zI ((clp a : Nat) : Int)), .int (zI ((clp b : Nat) : Int)), .int (zI ((clp a * clp b : Nat) : Int)), .ref q4, .ref q5, .ref q6, .ref q7, .int (zI 0), .ref q9, .ref q10, .int (zI 0), .ref q12, .int (zI 0), .ref q14])), (q4, zA cI 2304 (fun _ => 0)), (q5, zA cI 2304 (fun _ => 0)), (q6, zA cI 256 (fun _ => 0)), (q7, zA cI 2304 (fun _ => 0)), (q9, zA cI 2304 (fun _ => 0)), (q10, zA cI 16128 (fun _ => 0)), (q12, zA cB 4608 (fun _ => 0)), (q14, zA cB 5000 (fun _ => 0))]) rfl ?_
      refine j_iconst C eX1_init_139 ?_
      refine j_istore_n C eX1_init_140 rfl (by decide) (lv' := [(0, .ref o), (1, .int (zI a)), (2, .int (zI b)), (3, .int (zI 0))]) rfl ?_
      refine lpX1_init (bd := (fun k : Nat => if k = 0 then o else if k = 4 then q4 else if k = 5 then q5 else if k = 6 then q6 else if k = 7 then q7 else if k = 9 then q9 else if k = 10 then q10 else if k = 12 then q12 else q14)) (w := clp a) (h := clp b) C (clp_sz a b) (fun G1 hG1 => ?_) (clp a * clp b + 1) 0 (fun _ => 0) (by omega) (by omega) (fun k hk => absurd hk (Nat.not_lt_zero _))
      exact j_vret C hr hlocks eX1_init_164 ⟨(fun k : Nat => if k = 0 then o else if k = 4 then q4 else if k = 5 then q5 else if k = 6 then q6 else if k = 7 then q7 else if k = 9 then q9 else if k = 10 then q10 else if k = 12 then q12 else q14), G1, rfl, hG1, rfl⟩
    ·
      refine j_icmp_ge C 111 eX1_init_104 (by decide) (by omega) (by omega) (fun c104 => ?_) (fun c104 => ?_)
      ·
        refine j_iload_n C eX1_init_111 2 rfl ?_
        refine j_bipush C eX1_init_112 (by decide +kernel) ?_
        refine j_icmp_le C 122 eX1_init_114 (by decide) (by omega) (by omega) (fun c114 => ?_) (fun c114 => ?_)
        ·
          refine j_iload_n C eX1_init_122 2 rfl ?_
          refine j_top (y := zI ((clp b : Nat) : Int)) (by rw [clp_eq]; congr 1; omega) ?_
          exact K123
        ·
          refine j_bipush C eX1_init_117 (by decide +kernel) ?_
          refine j_goto C 123 eX1_init_119 (by decide) ?_
          refine j_top (y := zI ((clp b : Nat) : Int)) (by rw [clp_eq]; congr 1; omega) ?_
          exact K123
      ·
        refine j_iconst C eX1_init_107 ?_
        refine j_goto C 123 eX1_init_108 (by decide) ?_
        refine j_top (y := zI ((clp b : Nat) : Int)) (by rw [clp_eq]; congr 1; omega) ?_
        exact K123
  ·
    refine j_icmp_ge C 86 eX1_init_79 (by decide) (by omega) (by omega) (fun c79 => ?_) (fun c79 => ?_)
    ·
      refine j_iload_n C eX1_init_86 1 rfl ?_
      refine j_bipush C eX1_init_87 (by decide +kernel) ?_
      refine j_icmp_le C 97 eX1_init_89 (by decide) (by omega) (by omega) (fun c89 => ?_) (fun c89 => ?_)
      ·
        refine j_iload_n C eX1_init_97 1 rfl ?_
        refine j_top (y := zI ((clp a : Nat) : Int)) (by rw [clp_eq]; congr 1; omega) ?_
        exact K98
      ·
        refine j_bipush C eX1_init_92 (by decide +kernel) ?_
        refine j_goto C 98 eX1_init_94 (by decide) ?_
        refine j_top (y := zI ((clp a : Nat) : Int)) (by rw [clp_eq]; congr 1; omega) ?_
        exact K98
    ·
      refine j_iconst C eX1_init_82 ?_
      refine j_goto C 98 eX1_init_83 (by decide) ?_
      refine j_top (y := zI ((clp a : Nat) : Int)) (by rw [clp_eq]; congr 1; omega) ?_
      exact K98
