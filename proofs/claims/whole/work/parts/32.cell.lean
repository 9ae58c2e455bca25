/-! THE LAW's cell: reads the script -/
def cel (L : Nat) (xs : Nat → Int32) (k : Nat) : Int := if k < L then (xs k).toInt else 0
theorem cel_in (L : Nat) (xs : Nat → Int32) (k : Nat) : -2147483648 ≤ cel L xs k ∧ cel L xs k ≤ 2147483647 := by
  unfold cel
  split
  · have h1 := Int32.le_toInt (xs k)
    have h2 := Int32.toInt_lt (xs k)
    omega
  · omega
abbrev rmL_cell : Room := { frames := 0, cells := 0, slots := 0, locals := 0 }
def mC (l : Launch) (b L : Nat) (xs : Nat → Int32) (k : Nat) : Prop := Met l yL_cell wsL_cell rmL_cell (va_Pc [.ref b, .int (zI (k : Int))] (fun U => va_X b L xs U U.heap ∧ b < U.heap.size)) (fun _ st oc t => (∃ z : Int, oc = .returned (some (.int (zI z))) ∧ z = cel L xs k) ∧ t.heap = st.heap) 0 0 (fun _ => False)
set_option maxHeartbeats 1000000 in
theorem ctL_cell (l : Launch) (b L : Nat) (xs : Nat → Int32) (k : Nat) (hL : L ≤ 2050) (hk : k ≤ 2050) : mC l b L xs k := by
  refine Met.ofW (cc := cL_cell) (maxL := 2) (ret := some .int) (by decide) rfl ?_
  intro p e s m args below meth c s₁ B hml hv
  obtain ⟨ha, hX, hbl⟩ := hv
  have hts := atoms_spec (ws := wsL_cell) B.pre
  have hown : s.vm.findClass RL = some m.cls := findClass_of_methodNamed B.named
  have C : JCR p m c cL_cell 2 s args wsL_cell RL ((fun _ => 0, fun _ _ => 0) : va_G) [] [] [] := ⟨⟨B.exec, B.bytes, hml, hown, hts⟩, ⟨fun _ _ h => by simp at h, fun _ _ h => by simp at h⟩, fun _ _ h => by simp at h⟩
  have hr := B.returns
  have hlocks := B.notSynchronized
  have hS : va_S (fun _ => False) s.heap s.heap [] := va_S.rf
  suffices K : JR p l e rmL_cell s m args below meth c (MQ below (fun _ st oc t => (∃ z : Int, oc = .returned (some (.int (zI z))) ∧ z = cel L xs k) ∧ t.heap = st.heap) args s 0 0 (fun _ => False)) 2 0 [(0, .ref b), (1, .int (zI (k : Int)))] [] by
    subst ha
    rw [lg_entry_eq]
    exact K _ (lv_entry [.ref b, .int (zI (k : Int))] (n := 2) (Nat.le_of_ble_eq_true rfl))
  refine r_iload_n C eL_cell_0 1 rfl ?_
  refine r_aload_n C eL_cell_1 0 rfl ?_
  intro ls hl
  refine va_slen C.1.1 C.1.2.1 hX hbl id hS eL_cell_2.1 ?_
  rw [← zI_nat]
  refine eL_cell_2.2 ▸ (?_ : JR p l e rmL_cell s m args below meth c _ 2 3 [(0, .ref b), (1, .int (zI (k : Int)))] [.int (zI (L : Int)), .int (zI (k : Int))]) ls hl
  refine r_icmp_ge C 12 eL_cell_3 (by decide) (by omega) (by omega) (fun c3 => ?_) (fun c3 => ?_)
  · refine r_iconst C eL_cell_12 ?_
    exact r_iret C hr hlocks rfl eL_cell_13 (by unfold cel; rw [if_neg (by omega)])
  · refine r_aload_n C eL_cell_6 0 rfl ?_
    refine r_iload_n C eL_cell_7 1 rfl ?_
    intro ls hl
    refine va_sld C.1.1 C.1.2.1 hX hbl id hS (zI_in (by omega : k < L) (by omega)) eL_cell_8.1 ?_
    rw [zI_clamp (by omega), show xs k = zI (xs k).toInt from (Int32.ofInt_toInt _).symm]
    refine eL_cell_8.2 ▸ (?_ : JR p l e rmL_cell s m args below meth c _ 2 9 [(0, .ref b), (1, .int (zI (k : Int)))] [.int (zI (xs k).toInt)]) ls hl
    refine r_goto C 13 eL_cell_9 (by decide) ?_
    exact r_iret C hr hlocks rfl eL_cell_13 (by unfold cel; rw [if_pos (by omega)])
section JCE
variable {p : Program} {l : Launch} {e : Env} {R : Room} {s : State} {m : MethodId} {args : Array Value} {below : List Frame} {meth : Method} {c : Code} {Q : State → Prop} {nL : Nat} {D : va_G} {cl : List vw_C} {tys : List (ClassId × FieldType)} {A : Nat → Prop} {cc : ByteArray} {Ts : List Cond} {own : String} {pc pc' : Nat} {lv lv' : List (Nat × Value)} {st : List Value} {wd wd' : va_W} {cells slots : Nat}
theorem j_cell (C : JC p m c cc nL s args Ts own D cl tys A) {b L : Nat} {xs : Nat → Int32} (hX : va_X b L xs s s.heap) (hbl : b < s.heap.size) (hbA : ¬ A b) (hL : L ≤ 2050) (k : Nat) (hk : k ≤ 2050) {index : Nat} {rest : List Value} (cw : CallB R s args own index yL_cell cL_cell 2 (some .int) wsL_cell rmL_cell 0 0 2 ∧ (Cond.static yL_cell).before args s = true) (hW : (rest.map fun v => v.category).sum ≤ 8) (hd : dec cc pc (.invokestatic index) 3 pc') (hf : cells ≤ R.cells ∧ slots ≤ R.slots) (kk : J p l e R s m args below meth c Q nL D cl A pc' lv (.int (zI (cel L xs k)) :: rest) wd cells slots) : J p l e R s m args below meth c Q nL D cl A pc lv (.int (zI (k : Int)) :: .ref b :: rest) wd cells slots := by
  intro H locs ls hl hP hD hS
  have hrun := va_runS (p := p) (l := l) (e := e) (R := R) (m := m) (below := below) (meth := meth) (locs := locs) (cells := cells) (slots := slots) (H := H) (g := F0 m pc ls (.int (zI (k : Int)) :: .ref b :: rest)) (As := [.ref b, .int (zI (k : Int))]) (rest := rest) C.1 (ctL_cell l b L xs k hL hk) cw ⟨fun a U g mk q => ⟨q.1, va_X.moved (u := U) (U := U.calling g mk a) (Vm.Alike.refl U.vm) q.2.1, q.2.2⟩, fun U hU hW => ⟨rfl, by rw [hU]; exact va_X.moved hW.alike (hX.kept (hS.2.1 b hbl hbA)), by rw [hU]; exact Nat.lt_of_lt_of_le hbl hS.1⟩⟩ rfl rfl hl.1 rfl (lv_room hW) hd.1 ⟨hf.1, hf.2⟩
  intro T hT X
  obtain ⟨v, st₀, t, T', L9, h0, X', hL9, e1, e2, ⟨⟨z, hv, hp⟩, hh⟩, stp⟩ := hrun T hT X
  cases hv
  subst hp
  have hL0 : L9 = [] := by
    cases L9 with
    | nil => rfl
    | cons a r => exact absurd (hL9 a List.mem_cons_self) id
  subst hL0
  rw [List.append_nil] at X'
  obtain ⟨t2, a1, b1⟩ := kk H locs ls hl hP hD hS T' (by rw [e1, hh, h0]) X'
  refine ⟨t2, stp t2 ?_, b1⟩
  rw [← hd.2] at a1
  exact a1
theorem j_new (C : JC p m c cc nL s args Ts own D cl tys A) {C9 : String} {T : u_T} {N ci index : Nat} (hin : ∀ w ∈ u_ws C9 T N, w ∈ Ts) (ty : Nat → FieldType) (hty : ∀ k, k < N → parseFieldDescriptor (T k).2.2.1 = some (ty k)) (hcl : Cond.classLink own index C9 ∈ Ts) (hinst : Cond.instantiable C9 N ∈ Ts) (hini : Cond.initialized C9 ∈ Ts) (hc : cl[ci]? = some (C9, T, N)) {fs : List Value} (hfs : ∀ j, j < N → defaultValue (ty j) = vp_V fs j) (hcells : cells + 1 ≤ R.cells) (hslots : slots + N ≤ R.slots) (hd : dec cc pc (.new index) 3 pc') (k : ∀ q : Nat, J p l e R s m args below meth c Q nL D cl A pc' lv (.ref q :: st) (wd ++ [(q, .inr (ci, fs))]) (cells + 1) (slots + N)) : J p l e R s m args below meth c Q nL D cl A pc lv st wd cells slots := by
  intro H locs ls hl hP hD hS
  have C5 := C.1.2.2.2.2
  refine va_new C.1.1 C.1.2.1 C5 hin ty hty C.1.2.2.2.1 (C5 _ hcl) (C5 _ hinst) (C5 _ hini) C.2.1 hP hD hS C.2.2 hc hfs hcells hslots hd.1 (fun q H1 hP1 hD1 hS1 => ?_)
  exact hd.2 ▸ k q H1 locs ls hl hP1 hD1 hS1
theorem j_newl (C : JC p m c cc nL s args Ts own D cl tys A) {cA : ClassId} (harr : Cond.arrayClass .long ∈ Ts) (t0 : Nat) (ht : tys[t0]? = some (cA, .long)) (hcells : cells + 1 ≤ R.cells) (hslots : slots + 1 ≤ R.slots) (hd : dec cc pc (.newarray .long) 2 pc')
    (k : ∀ q : Nat, J p l e R s m args below meth c Q nL D cl A pc' lv (.ref q :: st) (wd ++ [(q, oL cA (fun _ => 0))]) (cells + 1) (slots + 1)) : J p l e R s m args below meth c Q nL D cl A pc lv (.int (zI 1) :: st) wd cells slots := by
  intro H locs ls hl hP hD hS
  refine va_newa (atype := .long) (ty := .long) (a0 := (1, .inr (.inl (fun _ => 0)))) C.1.1 C.1.2.1 (C.1.2.2.2.2 _ harr) rfl C.2.1 hP hD hS C.2.2 (fun cA => by rw [vp_cell_l]; rfl) (fun q => absurd ((zI_lt (a := (1 : Int)) (b := 0) (by omega) (by omega)).mp (by rw [zI_0]; exact q)) (by omega)) (zI_clamp (k := 1) (by omega)) (by decide) hcells hslots hd.1 (fun q cA' H1 hK1 hP1 hD1 hS1 => ?_)
  have e : cA' = cA := by
    have h1 := hK1.2 tys.length (cA', .long) (by rw [List.getElem?_append_right (Nat.le_refl _)]; simp)
    have h2 := hK1.2 t0 (cA, .long) (by rw [List.getElem?_append_left (List.getElem?_eq_some_iff.mp ht).1]; exact ht)
    exact Option.some.inj (h1.2.symm.trans h2.2)
  subst e
  exact hd.2 ▸ k q H1 locs ls hl hP1 hD1 hS1
end JCE
