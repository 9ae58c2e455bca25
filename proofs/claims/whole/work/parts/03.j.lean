/-! THE J LAYER: a walk's state is (pc, locals as a list, stack, world as a list, cells, slots); the heap, the written places and the locals' array are bound inside. -/
def zI (z : Int) : Int32 := Int32.ofInt z
theorem zI_add (a b : Int) : zI a + zI b = zI (a + b) := (Int32.ofInt_add a b).symm
theorem zI_sub (a b : Int) : zI a - zI b = zI (a - b) := (Int32.ofInt_sub a b).symm
theorem zI_mul (a b : Int) : zI a * zI b = zI (a * b) := (Int32.ofInt_mul a b).symm
theorem zI_neg (a : Int) : - zI a = zI (-a) := (Int32.ofInt_neg a).symm
theorem zI_toInt {z : Int} (h : -2147483648 ≤ z ∧ z ≤ 2147483647) : (zI z).toInt = z := by
  unfold zI
  rw [Int32.toInt_ofInt]
  have h5 : Int32.size = 4294967296 := rfl
  rw [h5]
  simp only [Int.bmod_def]
  omega
theorem r0 : (-2147483648 : Int) ≤ 0 ∧ (0 : Int) ≤ 2147483647 := by decide
theorem zI_of (x : Int32) : ∃ z : Int, (-2147483648 ≤ z ∧ z ≤ 2147483647) ∧ x = zI z := by
  refine ⟨x.toInt, ?_, (Int32.ofInt_toInt x).symm⟩
  have h1 := Int32.le_toInt x
  have h2 := Int32.toInt_lt x
  omega
theorem zI_inj {a b : Int} (ha : -2147483648 ≤ a ∧ a ≤ 2147483647) (hb : -2147483648 ≤ b ∧ b ≤ 2147483647) : zI a = zI b ↔ a = b := by
  constructor
  · intro h
    have := congrArg Int32.toInt h
    rw [zI_toInt ha, zI_toInt hb] at this
    exact this
  · intro h; rw [h]
theorem zI_lt {a b : Int} (ha : -2147483648 ≤ a ∧ a ≤ 2147483647) (hb : -2147483648 ≤ b ∧ b ≤ 2147483647) : zI a < zI b ↔ a < b := by
  rw [Int32.lt_iff_toInt_lt, zI_toInt ha, zI_toInt hb]
theorem zI_le {a b : Int} (ha : -2147483648 ≤ a ∧ a ≤ 2147483647) (hb : -2147483648 ≤ b ∧ b ≤ 2147483647) : zI a ≤ zI b ↔ a ≤ b := by
  rw [Int32.le_iff_toInt_le, zI_toInt ha, zI_toInt hb]
theorem zI_0 : zI 0 = 0 := by decide +kernel
theorem zI_nat (n : Nat) : zI (n : Int) = Int32.ofNat n := by
  unfold zI
  exact Int32.ofInt_eq_ofNat ..
theorem zI_clamp {k : Nat} (h : k ≤ 2147483647) : (zI (k : Int)).toNatClampNeg = k := by
  have h1 := zI_toInt (z := (k : Int)) (by omega)
  have h2 : (zI (k : Int)).toNatClampNeg = (zI (k : Int)).toInt.toNat := rfl
  rw [h2, h1]
  exact Int.toNat_natCast k
theorem zI_in {k n : Nat} (h : k < n) (hn : n ≤ 2147483647) : vp_in (zI (k : Int)) n := by
  rw [vp_in_iff, zI_toInt (by omega)]
  omega
theorem zI_toNat (a : Int) : (zI a).toBitVec.toNat = (a % 4294967296).toNat := by
  show (BitVec.ofInt 32 a).toNat = _
  rw [BitVec.toNat_ofInt]
  rfl
theorem zI_and255 (a : Int) : zI a &&& zI 255 = zI (a % 256) := by
  rw [pk_and (zI a) (m := zI 255) 8 (by decide +kernel), zI_toNat, nI, ← zI_nat]
  congr 1
  omega
theorem zI_and15 (a : Int) : zI a &&& zI 15 = zI (a % 16) := by
  rw [pk_and (zI a) (m := zI 15) 4 (by decide +kernel), zI_toNat, nI, ← zI_nat]
  congr 1
  omega
theorem zI_i2b (a : Int) : (zI a).toInt8.toInt32 = zI (Int.bmod a 256) := by
  apply Int32.toInt_inj.mp
  rw [Int8.toInt_toInt32, Int32.toInt_toInt8]
  have h1 : (zI a).toInt = a.bmod 4294967296 := by unfold zI; rw [Int32.toInt_ofInt]
  have h2 : -128 ≤ Int.bmod a 256 ∧ Int.bmod a 256 ≤ 127 := by simp only [Int.bmod_def]; omega
  rw [h1, zI_toInt (z := Int.bmod a 256) (by omega)]
  simp only [Int.bmod_def]
  omega
theorem bmod_byte {v : Int} (h : -128 ≤ v ∧ v ≤ 127) : Int.bmod v 256 = v := by
  simp only [Int.bmod_def]; omega
theorem nar_b {v : Int} (h : -128 ≤ v ∧ v ≤ 127) : vp_nar .byte (zI v) = zI v := by
  rw [vp_nar_byte, zI_i2b, bmod_byte h]
theorem nar_z {v : Int} (h : 0 ≤ v ∧ v ≤ 1) : vp_nar .boolean (zI v) = zI v := by
  have h1 : v = 0 ∨ v = 1 := by omega
  rcases h1 with rfl | rfl <;> decide +kernel
theorem zI_shr5 {z : Int} (h : -2147483648 ≤ z ∧ z ≤ 2147483647) : zI z >>> (zI 5 &&& 31) = zI (z / 32) := by
  apply Int32.toInt_inj.mp
  rw [pk_shr (zI z) (zI 5 &&& 31) 5 (by decide +kernel), zI_toInt h, zI_toInt (by omega), Int.shiftRight_eq_div_pow]
  rfl
theorem zI_div {a b : Int} (ha : -2147483648 ≤ a ∧ a ≤ 2147483647) (hb : 0 < b ∧ b ≤ 2147483647) : zI a / zI b = zI (a.tdiv b) := by
  apply Int32.toInt_inj.mp
  have h1 : (zI a / zI b).toInt = ((zI a).toInt.tdiv (zI b).toInt).bmod (2 ^ 32) := Int32.toInt_div _ _
  rw [h1, zI_toInt ha, zI_toInt (by omega)]
  unfold zI
  rw [Int32.toInt_ofInt]
theorem zI_rem {a b : Int} (ha : -2147483648 ≤ a ∧ a ≤ 2147483647) (hb : 0 < b ∧ b ≤ 2147483647) : zI a - zI a / zI b * zI b = zI (a.tmod b) := by
  rw [zI_div ha hb, zI_mul, zI_sub]
  congr 1
  have := Int.tmod_add_mul_tdiv a b
  have h2 : a.tdiv b * b = b * a.tdiv b := Int.mul_comm _ _
  omega
/-- the locals after a store: in place, or at the end -/
def lput (lv : List (Nat × Value)) (i : Nat) (v : Value) : List (Nat × Value) := if lv.any (fun q => q.1 == i) then lv.map (fun q => if q.1 == i then (i, v) else q) else lv ++ [(i, v)]
theorem lput_mem {lv : List (Nat × Value)} {i : Nat} {v : Value} {q : Nat × Value} (h : q ∈ lput lv i v) : q = (i, v) ∨ (q ∈ lv ∧ q.1 ≠ i) := by
  unfold lput at h
  split at h
  · obtain ⟨a, ha, hq⟩ := List.mem_map.mp h
    by_cases hi : a.1 == i
    · rw [if_pos hi] at hq; exact Or.inl hq.symm
    · rw [if_neg hi] at hq
      subst hq
      exact Or.inr ⟨ha, fun z => hi (by simp [z])⟩
  · rename_i hn
    rcases List.mem_append.mp h with h | h
    · refine Or.inr ⟨h, fun z => hn ?_⟩
      exact List.any_eq_true.mpr ⟨q, h, by simp [z]⟩
    · exact Or.inl (List.mem_singleton.mp h)
theorem lput_has {ls : Array Slot} {nL : Nat} {lv lv' : List (Nat × Value)} {i : Nat} {v : Value} (hc : lv.all (fun q => q.2.category == 1) = true) (hl : lput lv i v = lv') (h : lv_has ls nL ((i, v) :: lv.filter (fun q => !(q.1 == i) && !(q.1 + 1 == i && q.2.category == 2)))) : lv_has ls nL lv' := by
  refine ⟨h.1, h.2.1, fun q hq => h.2.2 q ?_⟩
  rw [← hl] at hq
  rcases lput_mem hq with hq | ⟨hq, hne⟩
  · rw [hq]; exact List.mem_cons_self
  · refine List.mem_cons_of_mem _ (List.mem_filter.mpr ⟨hq, ?_⟩)
    have h1 : q.2.category = 1 := by simpa using List.all_eq_true.mp hc q hq
    simp [hne, h1]
def J (p : Program) (l : Launch) (e : Env) (R : Room) (s : State) (m : MethodId) (args : Array Value) (below : List Frame) (meth : Method) (c : Code) (Q : State → Prop) (nL : Nat) (D : va_G) (cl : List vw_C) (A : Nat → Prop) (pc : Nat) (lv : List (Nat × Value)) (st : List Value) (wd : va_W) (cells slots : Nat) : Prop := ∀ (H : Heap) (locs : List Loc) (ls : Array Slot), lv_has ls nL lv → va_P D cl wd H → va_D A wd → va_S A s.heap H locs → W p l e R s m args below meth c H locs cells slots Q (F0 m pc ls st)
/-- what stays the same through a method's walk -/
def JC (p : Program) (m : MethodId) (c : Code) (cc : ByteArray) (nL : Nat) (s : State) (args : Array Value) (Ts : List Cond) (own : String) (D : va_G) (cl : List vw_C) (tys : List (ClassId × FieldType)) (A : Nat → Prop) : Prop := CallFix p m c cc nL s args Ts own ∧ va_K D cl tys s ∧ ∀ q : Nat, s.heap.size ≤ q → A q
section JR
variable {p : Program} {l : Launch} {e : Env} {R : Room} {s : State} {m : MethodId} {args : Array Value} {below : List Frame} {meth : Method} {c : Code} {Q : State → Prop} {nL : Nat} {D : va_G} {cl : List vw_C} {tys : List (ClassId × FieldType)} {A : Nat → Prop} {cc : ByteArray} {Ts : List Cond} {own : String} {pc pc' : Nat} {lv lv' : List (Nat × Value)} {st : List Value} {wd wd' : va_W} {cells slots : Nat}
theorem j_iconst (C : JC p m c cc nL s args Ts own D cl tys A) {n : Int} (hd : dec cc pc (.iconst n) 1 pc')  (k : J p l e R s m args below meth c Q nL D cl A pc' lv (.int (zI n) :: st) wd cells slots) : J p l e R s m args below meth c Q nL D cl A pc lv st wd cells slots := fun H locs ls hl hP hD hS => lv_iconst C.1.1 C.1.2.1 hd.1 rfl (by exact hd.2 ▸ (k H locs ls hl hP hD hS))
theorem j_bipush (C : JC p m c cc nL s args Ts own D cl tys A) {n : Int} (hd : dec cc pc (.bipush n) 2 pc') (hv : (Int8.ofInt n).toInt32 = zI n) (k : J p l e R s m args below meth c Q nL D cl A pc' lv (.int (zI n) :: st) wd cells slots) : J p l e R s m args below meth c Q nL D cl A pc lv st wd cells slots := fun H locs ls hl hP hD hS => lv_bipush C.1.1 C.1.2.1 hd.1 hv (by exact hd.2 ▸ (k H locs ls hl hP hD hS))
theorem j_sipush (C : JC p m c cc nL s args Ts own D cl tys A) {n : Int} (hd : dec cc pc (.sipush n) 3 pc') (hv : (Int16.ofInt n).toInt32 = zI n) (k : J p l e R s m args below meth c Q nL D cl A pc' lv (.int (zI n) :: st) wd cells slots) : J p l e R s m args below meth c Q nL D cl A pc lv st wd cells slots := fun H locs ls hl hP hD hS => lv_sipush C.1.1 C.1.2.1 hd.1 hv (by exact hd.2 ▸ (k H locs ls hl hP hD hS))
theorem j_iload_n (C : JC p m c cc nL s args Ts own D cl tys A) {i : Fin 4} {x : Int32} (hd : dec cc pc (.iload_n i) 1 pc') (q : Nat) (hq : lv[q]? = some ((i : Nat), .int x)) (k : J p l e R s m args below meth c Q nL D cl A pc' lv (.int x :: st) wd cells slots) : J p l e R s m args below meth c Q nL D cl A pc lv st wd cells slots := fun H locs ls hl hP hD hS => lv_iload_n C.1.1 C.1.2.1 hd.1 rfl (lv_at hl q hq) (by exact hd.2 ▸ (k H locs ls hl hP hD hS))
theorem j_iload (C : JC p m c cc nL s args Ts own D cl tys A) {i : Nat} {x : Int32} (hd : dec cc pc (.iload i) 2 pc') (q : Nat) (hq : lv[q]? = some (i, .int x)) (k : J p l e R s m args below meth c Q nL D cl A pc' lv (.int x :: st) wd cells slots) : J p l e R s m args below meth c Q nL D cl A pc lv st wd cells slots := fun H locs ls hl hP hD hS => lv_iload C.1.1 C.1.2.1 hd.1 (lv_at hl q hq) (by exact hd.2 ▸ (k H locs ls hl hP hD hS))
theorem j_istore_n (C : JC p m c cc nL s args Ts own D cl tys A) {i : Fin 4} {x : Int32} (hd : dec cc pc (.istore_n i) 1 pc') (hc : lv.all (fun q => q.2.category == 1) = true) (hn : (i : Nat) < nL) (hv : lput lv (i : Nat) (.int x) = lv') (k : J p l e R s m args below meth c Q nL D cl A pc' lv' st wd cells slots) : J p l e R s m args below meth c Q nL D cl A pc lv (.int x :: st) wd cells slots := fun H locs ls hl hP hD hS => lv_istore_n C.1.1 C.1.2.1 hd.1 rfl hl hn rfl (fun ls' hl' => by exact hd.2 ▸ k H locs ls' (lput_has hc hv hl') hP hD hS)
theorem j_istore (C : JC p m c cc nL s args Ts own D cl tys A) {i : Nat} {x : Int32} (hd : dec cc pc (.istore i) 2 pc') (hc : lv.all (fun q => q.2.category == 1) = true) (hn : i < nL) (hv : lput lv i (.int x) = lv') (k : J p l e R s m args below meth c Q nL D cl A pc' lv' st wd cells slots) : J p l e R s m args below meth c Q nL D cl A pc lv (.int x :: st) wd cells slots := fun H locs ls hl hP hD hS => lv_istore C.1.1 C.1.2.1 hd.1 hl hn rfl (fun ls' hl' => by exact hd.2 ▸ k H locs ls' (lput_has hc hv hl') hP hD hS)
theorem j_aload_n (C : JC p m c cc nL s args Ts own D cl tys A) {i : Fin 4} {x : Nat} (hd : dec cc pc (.aload_n i) 1 pc') (q : Nat) (hq : lv[q]? = some ((i : Nat), .ref x)) (k : J p l e R s m args below meth c Q nL D cl A pc' lv (.ref x :: st) wd cells slots) : J p l e R s m args below meth c Q nL D cl A pc lv st wd cells slots := fun H locs ls hl hP hD hS => lv_aload_n C.1.1 C.1.2.1 hd.1 rfl (lv_at hl q hq) (by exact hd.2 ▸ (k H locs ls hl hP hD hS))
theorem j_aload (C : JC p m c cc nL s args Ts own D cl tys A) {i : Nat} {x : Nat} (hd : dec cc pc (.aload i) 2 pc') (q : Nat) (hq : lv[q]? = some (i, .ref x)) (k : J p l e R s m args below meth c Q nL D cl A pc' lv (.ref x :: st) wd cells slots) : J p l e R s m args below meth c Q nL D cl A pc lv st wd cells slots := fun H locs ls hl hP hD hS => lv_aload C.1.1 C.1.2.1 hd.1 (lv_at hl q hq) (by exact hd.2 ▸ (k H locs ls hl hP hD hS))
theorem j_astore_n (C : JC p m c cc nL s args Ts own D cl tys A) {i : Fin 4} {x : Nat} (hd : dec cc pc (.astore_n i) 1 pc') (hc : lv.all (fun q => q.2.category == 1) = true) (hn : (i : Nat) < nL) (hv : lput lv (i : Nat) (.ref x) = lv') (k : J p l e R s m args below meth c Q nL D cl A pc' lv' st wd cells slots) : J p l e R s m args below meth c Q nL D cl A pc lv (.ref x :: st) wd cells slots := fun H locs ls hl hP hD hS => lv_astore_n C.1.1 C.1.2.1 hd.1 rfl hl hn rfl (fun ls' hl' => by exact hd.2 ▸ k H locs ls' (lput_has hc hv hl') hP hD hS)
theorem j_astore (C : JC p m c cc nL s args Ts own D cl tys A) {i : Nat} {x : Nat} (hd : dec cc pc (.astore i) 2 pc') (hc : lv.all (fun q => q.2.category == 1) = true) (hn : i < nL) (hv : lput lv i (.ref x) = lv') (k : J p l e R s m args below meth c Q nL D cl A pc' lv' st wd cells slots) : J p l e R s m args below meth c Q nL D cl A pc lv (.ref x :: st) wd cells slots := fun H locs ls hl hP hD hS => lv_astore C.1.1 C.1.2.1 hd.1 hl hn rfl (fun ls' hl' => by exact hd.2 ▸ k H locs ls' (lput_has hc hv hl') hP hD hS)
theorem j_iinc (C : JC p m c cc nL s args Ts own D cl tys A) {i : Nat} {n x : Int} (hd : dec cc pc (.iinc i n) 3 pc') (q : Nat) (hq : lv[q]? = some (i, .int (zI x))) (hc : lv.all (fun q => q.2.category == 1) = true) (hn : i < nL) (hv : lput lv i (.int (zI (x + n))) = lv') (k : J p l e R s m args below meth c Q nL D cl A pc' lv' st wd cells slots) : J p l e R s m args below meth c Q nL D cl A pc lv st wd cells slots := fun H locs ls hl hP hD hS => lv_iinc (v := zI (x + n)) C.1.1 C.1.2.1 hd.1 hl hq (zI_add x n) hn rfl (fun ls' hl' => by exact hd.2 ▸ k H locs ls' (lput_has hc hv hl') hP hD hS)
theorem j_iadd (C : JC p m c cc nL s args Ts own D cl tys A) {a b : Int} (hd : dec cc pc .iadd 1 pc')  (k : J p l e R s m args below meth c Q nL D cl A pc' lv (.int (zI (a + b)) :: st) wd cells slots) : J p l e R s m args below meth c Q nL D cl A pc lv (.int (zI b) :: .int (zI a) :: st) wd cells slots := fun H locs ls hl hP hD hS => lv_iadd C.1.1 C.1.2.1 hd.1 (by rw [zI_add]; exact hd.2 ▸ (k H locs ls hl hP hD hS))
theorem j_isub (C : JC p m c cc nL s args Ts own D cl tys A) {a b : Int} (hd : dec cc pc .isub 1 pc')  (k : J p l e R s m args below meth c Q nL D cl A pc' lv (.int (zI (a - b)) :: st) wd cells slots) : J p l e R s m args below meth c Q nL D cl A pc lv (.int (zI b) :: .int (zI a) :: st) wd cells slots := fun H locs ls hl hP hD hS => lv_isub C.1.1 C.1.2.1 hd.1 (by rw [zI_sub]; exact hd.2 ▸ (k H locs ls hl hP hD hS))
theorem j_imul (C : JC p m c cc nL s args Ts own D cl tys A) {a b : Int} (hd : dec cc pc .imul 1 pc')  (k : J p l e R s m args below meth c Q nL D cl A pc' lv (.int (zI (a * b)) :: st) wd cells slots) : J p l e R s m args below meth c Q nL D cl A pc lv (.int (zI b) :: .int (zI a) :: st) wd cells slots := fun H locs ls hl hP hD hS => lv_imul C.1.1 C.1.2.1 hd.1 (by rw [zI_mul]; exact hd.2 ▸ (k H locs ls hl hP hD hS))
theorem j_ineg (C : JC p m c cc nL s args Ts own D cl tys A) {a : Int} (hd : dec cc pc .ineg 1 pc')  (k : J p l e R s m args below meth c Q nL D cl A pc' lv (.int (zI (-a)) :: st) wd cells slots) : J p l e R s m args below meth c Q nL D cl A pc lv (.int (zI a) :: st) wd cells slots := fun H locs ls hl hP hD hS => lv_ineg C.1.1 C.1.2.1 hd.1 (by rw [zI_neg]; exact hd.2 ▸ (k H locs ls hl hP hD hS))
theorem j_idiv (C : JC p m c cc nL s args Ts own D cl tys A) {a b : Int} (hd : dec cc pc .idiv 1 pc') (ha : (-2147483648 ≤ a ∧ a ≤ 2147483647)) (hb : 0 < b ∧ b ≤ 2147483647) (k : J p l e R s m args below meth c Q nL D cl A pc' lv (.int (zI (a.tdiv b)) :: st) wd cells slots) : J p l e R s m args below meth c Q nL D cl A pc lv (.int (zI b) :: .int (zI a) :: st) wd cells slots := fun H locs ls hl hP hD hS => lv_idiv C.1.1 C.1.2.1 hd.1 (fun z => absurd ((zI_inj (a := b) (b := 0) (by omega) (by omega)).mp (by rw [zI_0]; exact z)) (by omega)) (by rw [zI_div ha hb]; exact hd.2 ▸ (k H locs ls hl hP hD hS))
theorem j_irem (C : JC p m c cc nL s args Ts own D cl tys A) {a b : Int} (hd : dec cc pc .irem 1 pc') (ha : (-2147483648 ≤ a ∧ a ≤ 2147483647)) (hb : 0 < b ∧ b ≤ 2147483647) (k : J p l e R s m args below meth c Q nL D cl A pc' lv (.int (zI (a.tmod b)) :: st) wd cells slots) : J p l e R s m args below meth c Q nL D cl A pc lv (.int (zI b) :: .int (zI a) :: st) wd cells slots := fun H locs ls hl hP hD hS => lv_irem C.1.1 C.1.2.1 hd.1 (fun z => absurd ((zI_inj (a := b) (b := 0) (by omega) (by omega)).mp (by rw [zI_0]; exact z)) (by omega)) (by rw [zI_rem ha hb]; exact hd.2 ▸ (k H locs ls hl hP hD hS))
theorem j_iand (C : JC p m c cc nL s args Ts own D cl tys A) {x y : Int32} (hd : dec cc pc .iand 1 pc')  (k : J p l e R s m args below meth c Q nL D cl A pc' lv (.int (x &&& y) :: st) wd cells slots) : J p l e R s m args below meth c Q nL D cl A pc lv (.int y :: .int x :: st) wd cells slots := fun H locs ls hl hP hD hS => lv_iand C.1.1 C.1.2.1 hd.1 (by exact hd.2 ▸ (k H locs ls hl hP hD hS))
theorem j_ixor (C : JC p m c cc nL s args Ts own D cl tys A) {x y : Int32} (hd : dec cc pc .ixor 1 pc')  (k : J p l e R s m args below meth c Q nL D cl A pc' lv (.int (x ^^^ y) :: st) wd cells slots) : J p l e R s m args below meth c Q nL D cl A pc lv (.int y :: .int x :: st) wd cells slots := fun H locs ls hl hP hD hS => lv_ixor C.1.1 C.1.2.1 hd.1 (by exact hd.2 ▸ (k H locs ls hl hP hD hS))
theorem j_i2b (C : JC p m c cc nL s args Ts own D cl tys A) {x : Int32} (hd : dec cc pc .i2b 1 pc')  (k : J p l e R s m args below meth c Q nL D cl A pc' lv (.int x.toInt8.toInt32 :: st) wd cells slots) : J p l e R s m args below meth c Q nL D cl A pc lv (.int x :: st) wd cells slots := fun H locs ls hl hP hD hS => lv_i2b C.1.1 C.1.2.1 hd.1 rfl (by exact hd.2 ▸ (k H locs ls hl hP hD hS))
theorem j_i2bz (C : JC p m c cc nL s args Ts own D cl tys A) {a : Int} (hd : dec cc pc .i2b 1 pc')  (k : J p l e R s m args below meth c Q nL D cl A pc' lv (.int (zI (Int.bmod a 256)) :: st) wd cells slots) : J p l e R s m args below meth c Q nL D cl A pc lv (.int (zI a) :: st) wd cells slots := fun H locs ls hl hP hD hS => lv_i2b C.1.1 C.1.2.1 hd.1 (zI_i2b a) (by exact hd.2 ▸ (k H locs ls hl hP hD hS))
theorem j_and255 (C : JC p m c cc nL s args Ts own D cl tys A) {a : Int} (hd : dec cc pc .iand 1 pc')  (k : J p l e R s m args below meth c Q nL D cl A pc' lv (.int (zI (a % 256)) :: st) wd cells slots) : J p l e R s m args below meth c Q nL D cl A pc lv (.int (zI 255) :: .int (zI a) :: st) wd cells slots := fun H locs ls hl hP hD hS => lv_iand C.1.1 C.1.2.1 hd.1 (by rw [zI_and255]; exact hd.2 ▸ (k H locs ls hl hP hD hS))
theorem j_and15 (C : JC p m c cc nL s args Ts own D cl tys A) {a : Int} (hd : dec cc pc .iand 1 pc')  (k : J p l e R s m args below meth c Q nL D cl A pc' lv (.int (zI (a % 16)) :: st) wd cells slots) : J p l e R s m args below meth c Q nL D cl A pc lv (.int (zI 15) :: .int (zI a) :: st) wd cells slots := fun H locs ls hl hP hD hS => lv_iand C.1.1 C.1.2.1 hd.1 (by rw [zI_and15]; exact hd.2 ▸ (k H locs ls hl hP hD hS))
theorem j_shr5 (C : JC p m c cc nL s args Ts own D cl tys A) {z : Int} (hd : dec cc pc .ishr 1 pc') (ha : (-2147483648 ≤ z ∧ z ≤ 2147483647)) (k : J p l e R s m args below meth c Q nL D cl A pc' lv (.int (zI (z / 32)) :: st) wd cells slots) : J p l e R s m args below meth c Q nL D cl A pc lv (.int (zI 5) :: .int (zI z) :: st) wd cells slots := fun H locs ls hl hP hD hS => lv_ishr C.1.1 C.1.2.1 hd.1 (by rw [zI_shr5 ha]; exact hd.2 ▸ (k H locs ls hl hP hD hS))
theorem j_dup (C : JC p m c cc nL s args Ts own D cl tys A) {v : Value} (hd : dec cc pc .dup 1 pc') (hv : v.category = 1) (k : J p l e R s m args below meth c Q nL D cl A pc' lv (v :: v :: st) wd cells slots) : J p l e R s m args below meth c Q nL D cl A pc lv (v :: st) wd cells slots := fun H locs ls hl hP hD hS => lv_dup C.1.1 C.1.2.1 hd.1 hv (by exact hd.2 ▸ (k H locs ls hl hP hD hS))
theorem j_pop (C : JC p m c cc nL s args Ts own D cl tys A) {v : Value} (hd : dec cc pc .pop 1 pc') (hv : v.category = 1) (k : J p l e R s m args below meth c Q nL D cl A pc' lv st wd cells slots) : J p l e R s m args below meth c Q nL D cl A pc lv (v :: st) wd cells slots := fun H locs ls hl hP hD hS => lv_pop C.1.1 C.1.2.1 hd.1 hv (by exact hd.2 ▸ (k H locs ls hl hP hD hS))
theorem j_dup_x1 (C : JC p m c cc nL s args Ts own D cl tys A) {v w : Value} (hd : dec cc pc .dup_x1 1 pc') (hv : v.category = 1) (hw : w.category = 1) (k : J p l e R s m args below meth c Q nL D cl A pc' lv (v :: w :: v :: st) wd cells slots) : J p l e R s m args below meth c Q nL D cl A pc lv (v :: w :: st) wd cells slots := fun H locs ls hl hP hD hS => lv_dup_x1 C.1.1 C.1.2.1 hd.1 hv hw (by exact hd.2 ▸ (k H locs ls hl hP hD hS))
theorem j_dup2 (C : JC p m c cc nL s args Ts own D cl tys A) {v w : Value} (hd : dec cc pc .dup2 1 pc') (hv : v.category = 1) (hw : w.category = 1) (k : J p l e R s m args below meth c Q nL D cl A pc' lv (v :: w :: v :: w :: st) wd cells slots) : J p l e R s m args below meth c Q nL D cl A pc lv (v :: w :: st) wd cells slots := fun H locs ls hl hP hD hS => lv_dup2_11 C.1.1 C.1.2.1 hd.1 hv hw (by exact hd.2 ▸ (k H locs ls hl hP hD hS))
theorem j_top {x y : Int32} (h : x = y) (k : J p l e R s m args below meth c Q nL D cl A pc lv (.int y :: st) wd cells slots) : J p l e R s m args below meth c Q nL D cl A pc lv (.int x :: st) wd cells slots := h ▸ k
theorem j_loc (ks : List Nat) (h : lv_pick lv ks = lv') (k : J p l e R s m args below meth c Q nL D cl A pc lv' st wd cells slots) : J p l e R s m args below meth c Q nL D cl A pc lv st wd cells slots := fun H locs ls hl hP hD hS => k H locs ls (lv_sub hl ks h) hP hD hS
theorem j_wd (h : wd = wd') (k : J p l e R s m args below meth c Q nL D cl A pc lv st wd' cells slots) : J p l e R s m args below meth c Q nL D cl A pc lv st wd cells slots := h ▸ k
theorem j_widen {cells' slots' : Nat} (h1 : cells ≤ cells') (h2 : slots ≤ slots') (k : J p l e R s m args below meth c Q nL D cl A pc lv st wd cells' slots') : J p l e R s m args below meth c Q nL D cl A pc lv st wd cells slots := fun H locs ls hl hP hD hS => W.widen h1 h2 (k H locs ls hl hP hD hS)
theorem j_icmp_eq (C : JC p m c cc nL s args Ts own D cl tys A) {a b : Int} {off : Int} (tgt : Nat) (hd : dec cc pc (.if_icmp .eq off) 3 pc') (ht : (pc : Int) + off = (tgt : Int)) (ha : (-2147483648 ≤ a ∧ a ≤ 2147483647)) (hb : (-2147483648 ≤ b ∧ b ≤ 2147483647)) (kt : a = b → J p l e R s m args below meth c Q nL D cl A tgt lv st wd cells slots) (kf : a ≠ b → J p l e R s m args below meth c Q nL D cl A pc' lv st wd cells slots) : J p l e R s m args below meth c Q nL D cl A pc lv (.int (zI b) :: .int (zI a) :: st) wd cells slots := fun H locs ls hl hP hD hS => lv_icmp_eq C.1.1 C.1.2.1 hd.1 ht (fun z => kt ((zI_inj ha hb).mp z) H locs ls hl hP hD hS) (fun z => by exact hd.2 ▸ kf (fun q => z ((zI_inj ha hb).mpr q)) H locs ls hl hP hD hS)
theorem j_if_eq (C : JC p m c cc nL s args Ts own D cl tys A) {a : Int} {off : Int} (tgt : Nat) (hd : dec cc pc (.ifCond .eq off) 3 pc') (ht : (pc : Int) + off = (tgt : Int)) (ha : (-2147483648 ≤ a ∧ a ≤ 2147483647)) (kt : a = 0 → J p l e R s m args below meth c Q nL D cl A tgt lv st wd cells slots) (kf : a ≠ 0 → J p l e R s m args below meth c Q nL D cl A pc' lv st wd cells slots) : J p l e R s m args below meth c Q nL D cl A pc lv (.int (zI a) :: st) wd cells slots := fun H locs ls hl hP hD hS => lv_if_eq C.1.1 C.1.2.1 hd.1 ht (fun z => kt ((zI_inj ha r0).mp (by rw [zI_0]; exact z)) H locs ls hl hP hD hS) (fun z => by exact hd.2 ▸ kf (fun q => z (by rw [← zI_0]; exact (zI_inj ha r0).mpr q)) H locs ls hl hP hD hS)
theorem j_icmp_ne (C : JC p m c cc nL s args Ts own D cl tys A) {a b : Int} {off : Int} (tgt : Nat) (hd : dec cc pc (.if_icmp .ne off) 3 pc') (ht : (pc : Int) + off = (tgt : Int)) (ha : (-2147483648 ≤ a ∧ a ≤ 2147483647)) (hb : (-2147483648 ≤ b ∧ b ≤ 2147483647)) (kt : a ≠ b → J p l e R s m args below meth c Q nL D cl A tgt lv st wd cells slots) (kf : a = b → J p l e R s m args below meth c Q nL D cl A pc' lv st wd cells slots) : J p l e R s m args below meth c Q nL D cl A pc lv (.int (zI b) :: .int (zI a) :: st) wd cells slots := fun H locs ls hl hP hD hS => lv_icmp_ne C.1.1 C.1.2.1 hd.1 ht (fun z => kt (fun q => z ((zI_inj ha hb).mpr q)) H locs ls hl hP hD hS) (fun z => by exact hd.2 ▸ kf ((zI_inj ha hb).mp z) H locs ls hl hP hD hS)
theorem j_if_ne (C : JC p m c cc nL s args Ts own D cl tys A) {a : Int} {off : Int} (tgt : Nat) (hd : dec cc pc (.ifCond .ne off) 3 pc') (ht : (pc : Int) + off = (tgt : Int)) (ha : (-2147483648 ≤ a ∧ a ≤ 2147483647)) (kt : a ≠ 0 → J p l e R s m args below meth c Q nL D cl A tgt lv st wd cells slots) (kf : a = 0 → J p l e R s m args below meth c Q nL D cl A pc' lv st wd cells slots) : J p l e R s m args below meth c Q nL D cl A pc lv (.int (zI a) :: st) wd cells slots := fun H locs ls hl hP hD hS => lv_if_ne C.1.1 C.1.2.1 hd.1 ht (fun z => kt (fun q => z (by rw [← zI_0]; exact (zI_inj ha r0).mpr q)) H locs ls hl hP hD hS) (fun z => by exact hd.2 ▸ kf ((zI_inj ha r0).mp (by rw [zI_0]; exact z)) H locs ls hl hP hD hS)
theorem j_icmp_lt (C : JC p m c cc nL s args Ts own D cl tys A) {a b : Int} {off : Int} (tgt : Nat) (hd : dec cc pc (.if_icmp .lt off) 3 pc') (ht : (pc : Int) + off = (tgt : Int)) (ha : (-2147483648 ≤ a ∧ a ≤ 2147483647)) (hb : (-2147483648 ≤ b ∧ b ≤ 2147483647)) (kt : a < b → J p l e R s m args below meth c Q nL D cl A tgt lv st wd cells slots) (kf : b ≤ a → J p l e R s m args below meth c Q nL D cl A pc' lv st wd cells slots) : J p l e R s m args below meth c Q nL D cl A pc lv (.int (zI b) :: .int (zI a) :: st) wd cells slots := fun H locs ls hl hP hD hS => lv_icmp_lt C.1.1 C.1.2.1 hd.1 ht (fun z => kt ((zI_lt ha hb).mp z) H locs ls hl hP hD hS) (fun z => by exact hd.2 ▸ kf (by have := mt (zI_lt ha hb).mpr z; omega) H locs ls hl hP hD hS)
theorem j_if_lt (C : JC p m c cc nL s args Ts own D cl tys A) {a : Int} {off : Int} (tgt : Nat) (hd : dec cc pc (.ifCond .lt off) 3 pc') (ht : (pc : Int) + off = (tgt : Int)) (ha : (-2147483648 ≤ a ∧ a ≤ 2147483647)) (kt : a < 0 → J p l e R s m args below meth c Q nL D cl A tgt lv st wd cells slots) (kf : 0 ≤ a → J p l e R s m args below meth c Q nL D cl A pc' lv st wd cells slots) : J p l e R s m args below meth c Q nL D cl A pc lv (.int (zI a) :: st) wd cells slots := fun H locs ls hl hP hD hS => lv_if_lt C.1.1 C.1.2.1 hd.1 ht (fun z => kt ((zI_lt ha r0).mp (by rw [zI_0]; exact z)) H locs ls hl hP hD hS) (fun z => by exact hd.2 ▸ kf (by have := mt (zI_lt ha r0).mpr (by rw [zI_0]; exact z); omega) H locs ls hl hP hD hS)
theorem j_icmp_ge (C : JC p m c cc nL s args Ts own D cl tys A) {a b : Int} {off : Int} (tgt : Nat) (hd : dec cc pc (.if_icmp .ge off) 3 pc') (ht : (pc : Int) + off = (tgt : Int)) (ha : (-2147483648 ≤ a ∧ a ≤ 2147483647)) (hb : (-2147483648 ≤ b ∧ b ≤ 2147483647)) (kt : b ≤ a → J p l e R s m args below meth c Q nL D cl A tgt lv st wd cells slots) (kf : a < b → J p l e R s m args below meth c Q nL D cl A pc' lv st wd cells slots) : J p l e R s m args below meth c Q nL D cl A pc lv (.int (zI b) :: .int (zI a) :: st) wd cells slots := fun H locs ls hl hP hD hS => lv_icmp_ge C.1.1 C.1.2.1 hd.1 ht (fun z => kt ((zI_le hb ha).mp z) H locs ls hl hP hD hS) (fun z => by exact hd.2 ▸ kf (by have := mt (zI_le hb ha).mpr z; omega) H locs ls hl hP hD hS)
theorem j_if_ge (C : JC p m c cc nL s args Ts own D cl tys A) {a : Int} {off : Int} (tgt : Nat) (hd : dec cc pc (.ifCond .ge off) 3 pc') (ht : (pc : Int) + off = (tgt : Int)) (ha : (-2147483648 ≤ a ∧ a ≤ 2147483647)) (kt : 0 ≤ a → J p l e R s m args below meth c Q nL D cl A tgt lv st wd cells slots) (kf : a < 0 → J p l e R s m args below meth c Q nL D cl A pc' lv st wd cells slots) : J p l e R s m args below meth c Q nL D cl A pc lv (.int (zI a) :: st) wd cells slots := fun H locs ls hl hP hD hS => lv_if_ge C.1.1 C.1.2.1 hd.1 ht (fun z => kt ((zI_le r0 ha).mp (by rw [zI_0]; exact z)) H locs ls hl hP hD hS) (fun z => by exact hd.2 ▸ kf (by have := mt (zI_le r0 ha).mpr (by rw [zI_0]; exact z); omega) H locs ls hl hP hD hS)
theorem j_icmp_gt (C : JC p m c cc nL s args Ts own D cl tys A) {a b : Int} {off : Int} (tgt : Nat) (hd : dec cc pc (.if_icmp .gt off) 3 pc') (ht : (pc : Int) + off = (tgt : Int)) (ha : (-2147483648 ≤ a ∧ a ≤ 2147483647)) (hb : (-2147483648 ≤ b ∧ b ≤ 2147483647)) (kt : b < a → J p l e R s m args below meth c Q nL D cl A tgt lv st wd cells slots) (kf : a ≤ b → J p l e R s m args below meth c Q nL D cl A pc' lv st wd cells slots) : J p l e R s m args below meth c Q nL D cl A pc lv (.int (zI b) :: .int (zI a) :: st) wd cells slots := fun H locs ls hl hP hD hS => lv_icmp_gt C.1.1 C.1.2.1 hd.1 ht (fun z => kt ((zI_lt hb ha).mp z) H locs ls hl hP hD hS) (fun z => by exact hd.2 ▸ kf (by have := mt (zI_lt hb ha).mpr z; omega) H locs ls hl hP hD hS)
theorem j_if_gt (C : JC p m c cc nL s args Ts own D cl tys A) {a : Int} {off : Int} (tgt : Nat) (hd : dec cc pc (.ifCond .gt off) 3 pc') (ht : (pc : Int) + off = (tgt : Int)) (ha : (-2147483648 ≤ a ∧ a ≤ 2147483647)) (kt : 0 < a → J p l e R s m args below meth c Q nL D cl A tgt lv st wd cells slots) (kf : a ≤ 0 → J p l e R s m args below meth c Q nL D cl A pc' lv st wd cells slots) : J p l e R s m args below meth c Q nL D cl A pc lv (.int (zI a) :: st) wd cells slots := fun H locs ls hl hP hD hS => lv_if_gt C.1.1 C.1.2.1 hd.1 ht (fun z => kt ((zI_lt r0 ha).mp (by rw [zI_0]; exact z)) H locs ls hl hP hD hS) (fun z => by exact hd.2 ▸ kf (by have := mt (zI_lt r0 ha).mpr (by rw [zI_0]; exact z); omega) H locs ls hl hP hD hS)
theorem j_icmp_le (C : JC p m c cc nL s args Ts own D cl tys A) {a b : Int} {off : Int} (tgt : Nat) (hd : dec cc pc (.if_icmp .le off) 3 pc') (ht : (pc : Int) + off = (tgt : Int)) (ha : (-2147483648 ≤ a ∧ a ≤ 2147483647)) (hb : (-2147483648 ≤ b ∧ b ≤ 2147483647)) (kt : a ≤ b → J p l e R s m args below meth c Q nL D cl A tgt lv st wd cells slots) (kf : b < a → J p l e R s m args below meth c Q nL D cl A pc' lv st wd cells slots) : J p l e R s m args below meth c Q nL D cl A pc lv (.int (zI b) :: .int (zI a) :: st) wd cells slots := fun H locs ls hl hP hD hS => lv_icmp_le C.1.1 C.1.2.1 hd.1 ht (fun z => kt ((zI_le ha hb).mp z) H locs ls hl hP hD hS) (fun z => by exact hd.2 ▸ kf (by have := mt (zI_le ha hb).mpr z; omega) H locs ls hl hP hD hS)
theorem j_if_le (C : JC p m c cc nL s args Ts own D cl tys A) {a : Int} {off : Int} (tgt : Nat) (hd : dec cc pc (.ifCond .le off) 3 pc') (ht : (pc : Int) + off = (tgt : Int)) (ha : (-2147483648 ≤ a ∧ a ≤ 2147483647)) (kt : a ≤ 0 → J p l e R s m args below meth c Q nL D cl A tgt lv st wd cells slots) (kf : 0 < a → J p l e R s m args below meth c Q nL D cl A pc' lv st wd cells slots) : J p l e R s m args below meth c Q nL D cl A pc lv (.int (zI a) :: st) wd cells slots := fun H locs ls hl hP hD hS => lv_if_le C.1.1 C.1.2.1 hd.1 ht (fun z => kt ((zI_le ha r0).mp (by rw [zI_0]; exact z)) H locs ls hl hP hD hS) (fun z => by exact hd.2 ▸ kf (by have := mt (zI_le ha r0).mpr (by rw [zI_0]; exact z); omega) H locs ls hl hP hD hS)
theorem j_goto (C : JC p m c cc nL s args Ts own D cl tys A) {off : Int} (tgt : Nat) (hd : dec cc pc (.goto off) 3 pc') (ht : (pc : Int) + off = (tgt : Int)) (k : J p l e R s m args below meth c Q nL D cl A tgt lv st wd cells slots) : J p l e R s m args below meth c Q nL D cl A pc lv st wd cells slots := fun H locs ls hl hP hD hS => lv_goto C.1.1 C.1.2.1 hd.1 ht (k H locs ls hl hP hD hS)
theorem j_getf (C : JC p m c cc nL s args Ts own D cl tys A) {ref Cn : String} {T : u_T} {N ci index a : Nat} {fs : List Value} {v : Value} (hin : ∀ w ∈ u_ws Cn T N, w ∈ Ts) (q0 : Nat) (he : wd[q0]? = some (a, .inr (ci, fs))) (hc : cl[ci]? = some (Cn, T, N)) (f : Nat) (hf : f < N) (hlink : Cond.fieldLink own index ref (T f).2.1 (T f).2.2.1 ∈ Ts) (hsame : (T f).1 = ref) (hv : fs[f]? = some v) (hd : dec cc pc (.getfield index) 3 pc') (k : J p l e R s m args below meth c Q nL D cl A pc' lv (v :: st) wd cells slots) : J p l e R s m args below meth c Q nL D cl A pc lv (.ref a :: st) wd cells slots := fun H locs ls hl hP hD hS => va_get C.1.1 C.1.2.1 C.1.2.2.2.2 hin C.1.2.2.2.1 C.2.1 hP q0 he hc f hf (C.1.2.2.2.2 _ hlink) (fun _ h => by rw [← hsame]; exact h) hv hd.1 (by exact hd.2 ▸ k H locs ls hl hP hD hS)
theorem j_putf (C : JC p m c cc nL s args Ts own D cl tys A) {ref Cn : String} {T : u_T} {N ci index a : Nat} {fs : List Value} {v : Value} {ty : FieldType} (hin : ∀ w ∈ u_ws Cn T N, w ∈ Ts) (ty0 : Nat → FieldType) (hty : ∀ k, k < N → parseFieldDescriptor (T k).2.2.1 = some (ty0 k)) (hnm : ∀ a, a < N → ∀ b, b < N → a ≠ b → (T a).2.1 ≠ (T b).2.1) (q0 : Nat) (he : wd[q0]? = some (a, .inr (ci, fs))) (hc : cl[ci]? = some (Cn, T, N)) (f : Nat) (hf : f < N) (hlink : Cond.fieldLink own index ref (T f).2.1 (T f).2.2.1 ∈ Ts) (hsame : (T f).1 = ref) (hfin : (T f).2.2.2 = false) (hdsc : parseFieldDescriptor (T f).2.2.1 = some ty) (hn : narrow ty v = v) (hfit : fits ty v = true) (hlen : f < fs.length) (hd : dec cc pc (.putfield index) 3 pc') (hw : wd.set q0 (a, .inr (ci, fs.set f v)) = wd') (k : J p l e R s m args below meth c Q nL D cl A pc' lv st wd' cells slots) : J p l e R s m args below meth c Q nL D cl A pc lv (v :: .ref a :: st) wd cells slots := fun H locs ls hl hP hD hS => va_put C.1.1 C.1.2.1 C.1.2.2.2.2 hin ty0 hty hnm C.1.2.2.2.1 C.2.1 hP hD hS q0 he hc f hf (C.1.2.2.2.2 _ hlink) (fun _ h => by rw [← hsame]; exact h) hfin hdsc hn hfit hlen hd.1 (fun H1 locs1 hP1 hD1 hS1 => by rw [hw] at hP1 hD1; exact hd.2 ▸ k H1 locs1 ls hl hP1 hD1 hS1)
theorem j_putF (C : JC p m c cc nL s args Ts own D cl tys A) {ref Cn : String} {T : u_T} {N ci index a : Nat} {fs : List Value} {v : Value} {ty : FieldType} (hin : ∀ w ∈ u_ws Cn T N, w ∈ Ts) (ty0 : Nat → FieldType) (hty : ∀ k, k < N → parseFieldDescriptor (T k).2.2.1 = some (ty0 k)) (hnm : ∀ a, a < N → ∀ b, b < N → a ≠ b → (T a).2.1 ≠ (T b).2.1) (q0 : Nat) (he : wd[q0]? = some (a, .inr (ci, fs))) (hc : cl[ci]? = some (Cn, T, N)) (f : Nat) (hf : f < N) (hlink : Cond.fieldLink own index ref (T f).2.1 (T f).2.2.1 ∈ Ts) (hsame : (T f).1 = ref) (hfin : (T f).2.2.2 = true) (hin2 : meth.name = "<init>") (hdecl : (T f).1 = own) (hdsc : parseFieldDescriptor (T f).2.2.1 = some ty) (hn : narrow ty v = v) (hfit : fits ty v = true) (hlen : f < fs.length) (hd : dec cc pc (.putfield index) 3 pc') (hw : wd.set q0 (a, .inr (ci, fs.set f v)) = wd') (k : J p l e R s m args below meth c Q nL D cl A pc' lv st wd' cells slots) : J p l e R s m args below meth c Q nL D cl A pc lv (v :: .ref a :: st) wd cells slots := fun H locs ls hl hP hD hS => va_putF C.1.1 C.1.2.1 C.1.2.2.2.2 hin ty0 hty hnm C.1.2.2.2.1 C.2.1 hP hD hS q0 he hc f hf (C.1.2.2.2.2 _ hlink) (fun _ h => by rw [← hsame]; exact h) hfin hin2 hdecl hdsc hn hfit hlen hd.1 (fun H1 locs1 hP1 hD1 hS1 => by rw [hw] at hP1 hD1; exact hd.2 ▸ k H1 locs1 ls hl hP1 hD1 hS1)
/-- an array cell whose contents are read off a function to Int -/
abbrev zA (cA : ClassId) (n : Nat) (g : Nat → Int) : va_E := .inl (cA, n, .inl (fun k => zI (g k)))
def zup (g : Nat → Int) (k : Nat) (v : Int) : Nat → Int := fun j => if j = k then v else g j
theorem zup_s {g : Nat → Int} {k : Nat} {v : Int} : zup g k v k = v := if_pos rfl
theorem zup_n {g : Nat → Int} {k j : Nat} {v : Int} (h : j ≠ k) : zup g k v j = g j := if_neg h
theorem zup_upd (g : Nat → Int) (k : Nat) (v : Int) : upd (fun j => zI (g j)) k (zI v) = fun j => zI (zup g k v j) := by
  funext j
  by_cases h : j = k
  · subst h; simp [upd, zup]
  · simp [upd, zup, h]
theorem j_iald (C : JC p m c cc nL s args Ts own D cl tys A) {a n : Nat} {cA : ClassId} {g : Nat → Int} {z : Int} (q0 t0 : Nat) (ha : wd[q0]? = some (a, zA cA n g)) (ht : tys[t0]? = some (cA, .int)) (i : Nat) (hz : z = (i : Int)) (hi : i < n) (hn : n ≤ 2147483647) (hd : dec cc pc .iaload 1 pc') (k : J p l e R s m args below meth c Q nL D cl A pc' lv (.int (zI (g i)) :: st) wd cells slots) : J p l e R s m args below meth c Q nL D cl A pc lv (.int (zI z) :: .ref a :: st) wd cells slots := by
  subst hz
  intro H locs ls hl hP hD hS
  refine va_iald C.1.1 C.1.2.1 C.2.1 hP q0 t0 ha ht (zI_in hi hn) hd.1 ?_
  rw [zI_clamp (by omega)]
  exact hd.2 ▸ k H locs ls hl hP hD hS
theorem j_bald (C : JC p m c cc nL s args Ts own D cl tys A) {a n : Nat} {cA : ClassId} {g : Nat → Int} {z : Int} (q0 t0 : Nat) (ha : wd[q0]? = some (a, zA cA n g)) (ht : tys[t0]? = some (cA, .byte)) (i : Nat) (hz : z = (i : Int)) (hi : i < n) (hn : n ≤ 2147483647) (hd : dec cc pc .baload 1 pc') (k : J p l e R s m args below meth c Q nL D cl A pc' lv (.int (zI (g i)) :: st) wd cells slots) : J p l e R s m args below meth c Q nL D cl A pc lv (.int (zI z) :: .ref a :: st) wd cells slots := by
  subst hz
  intro H locs ls hl hP hD hS
  refine va_bald C.1.1 C.1.2.1 C.2.1 hP q0 t0 ha ht (zI_in hi hn) hd.1 ?_
  rw [zI_clamp (by omega)]
  exact hd.2 ▸ k H locs ls hl hP hD hS
theorem j_zald (C : JC p m c cc nL s args Ts own D cl tys A) {a n : Nat} {cA : ClassId} {g : Nat → Int} {z : Int} (q0 t0 : Nat) (ha : wd[q0]? = some (a, zA cA n g)) (ht : tys[t0]? = some (cA, .boolean)) (i : Nat) (hz : z = (i : Int)) (hi : i < n) (hn : n ≤ 2147483647) (hd : dec cc pc .baload 1 pc') (k : J p l e R s m args below meth c Q nL D cl A pc' lv (.int (zI (g i)) :: st) wd cells slots) : J p l e R s m args below meth c Q nL D cl A pc lv (.int (zI z) :: .ref a :: st) wd cells slots := by
  subst hz
  intro H locs ls hl hP hD hS
  refine va_zald C.1.1 C.1.2.1 C.2.1 hP q0 t0 ha ht (zI_in hi hn) hd.1 ?_
  rw [zI_clamp (by omega)]
  exact hd.2 ▸ k H locs ls hl hP hD hS
theorem j_iast (C : JC p m c cc nL s args Ts own D cl tys A) {a n : Nat} {cA : ClassId} {g : Nat → Int} {z v : Int} (q0 t0 : Nat) (ha : wd[q0]? = some (a, zA cA n g)) (ht : tys[t0]? = some (cA, .int)) (i : Nat) (hz : z = (i : Int)) (hi : i < n) (hn : n ≤ 2147483647) (hd : dec cc pc .iastore 1 pc') (hw : wd.set q0 (a, zA cA n (zup g i v)) = wd') (k : J p l e R s m args below meth c Q nL D cl A pc' lv st wd' cells slots) : J p l e R s m args below meth c Q nL D cl A pc lv (.int (zI v) :: .int (zI z) :: .ref a :: st) wd cells slots := by
  subst hz
  intro H locs ls hl hP hD hS
  refine va_iast C.1.1 C.1.2.1 C.2.1 hP hD hS q0 t0 ha ht (zI_in hi hn) hd.1 (fun H1 locs1 hP1 hD1 hS1 => ?_)
  rw [zI_clamp (by omega), zup_upd, hw] at hP1 hD1
  exact hd.2 ▸ k H1 locs1 ls hl hP1 hD1 hS1
theorem j_bast (C : JC p m c cc nL s args Ts own D cl tys A) {a n : Nat} {cA : ClassId} {g : Nat → Int} {z v : Int} (q0 t0 : Nat) (ha : wd[q0]? = some (a, zA cA n g)) (ht : tys[t0]? = some (cA, .byte)) (i : Nat) (hz : z = (i : Int)) (hi : i < n) (hn : n ≤ 2147483647) (hv : vp_nar .byte (zI v) = zI v) (hd : dec cc pc .bastore 1 pc') (hw : wd.set q0 (a, zA cA n (zup g i v)) = wd') (k : J p l e R s m args below meth c Q nL D cl A pc' lv st wd' cells slots) : J p l e R s m args below meth c Q nL D cl A pc lv (.int (zI v) :: .int (zI z) :: .ref a :: st) wd cells slots := by
  subst hz
  intro H locs ls hl hP hD hS
  refine va_bast C.1.1 C.1.2.1 C.2.1 hP hD hS q0 t0 ha ht (zI_in hi hn) hd.1 (fun H1 locs1 hP1 hD1 hS1 => ?_)
  rw [zI_clamp (by omega), hv, zup_upd, hw] at hP1 hD1
  exact hd.2 ▸ k H1 locs1 ls hl hP1 hD1 hS1
theorem j_zast (C : JC p m c cc nL s args Ts own D cl tys A) {a n : Nat} {cA : ClassId} {g : Nat → Int} {z v : Int} (q0 t0 : Nat) (ha : wd[q0]? = some (a, zA cA n g)) (ht : tys[t0]? = some (cA, .boolean)) (i : Nat) (hz : z = (i : Int)) (hi : i < n) (hn : n ≤ 2147483647) (hv : vp_nar .boolean (zI v) = zI v) (hd : dec cc pc .bastore 1 pc') (hw : wd.set q0 (a, zA cA n (zup g i v)) = wd') (k : J p l e R s m args below meth c Q nL D cl A pc' lv st wd' cells slots) : J p l e R s m args below meth c Q nL D cl A pc lv (.int (zI v) :: .int (zI z) :: .ref a :: st) wd cells slots := by
  subst hz
  intro H locs ls hl hP hD hS
  refine va_zast C.1.1 C.1.2.1 C.2.1 hP hD hS q0 t0 ha ht (zI_in hi hn) hd.1 (fun H1 locs1 hP1 hD1 hS1 => ?_)
  rw [zI_clamp (by omega), hv, zup_upd, hw] at hP1 hD1
  exact hd.2 ▸ k H1 locs1 ls hl hP1 hD1 hS1
theorem j_alen (C : JC p m c cc nL s args Ts own D cl tys A) {a n : Nat} {cA : ClassId} {g : Nat → Int} {ty : FieldType} (q0 t0 : Nat) (ha : wd[q0]? = some (a, zA cA n g)) (ht : tys[t0]? = some (cA, ty)) (hd : dec cc pc .arraylength 1 pc') (k : J p l e R s m args below meth c Q nL D cl A pc' lv (.int (zI (n : Int)) :: st) wd cells slots) : J p l e R s m args below meth c Q nL D cl A pc lv (.ref a :: st) wd cells slots := fun H locs ls hl hP hD hS => va_alen C.1.1 C.1.2.1 C.2.1 hP q0 t0 ha ht (zI_nat n).symm hd.1 (by exact hd.2 ▸ k H locs ls hl hP hD hS)
end JR
