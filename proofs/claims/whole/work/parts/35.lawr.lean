/-! THE LAW: its context, one row more, its worlds -/
theorem j_same {p : Program} {l : Launch} {e : Env} {R : Room} {s : State} {m : MethodId} {args : Array Value} {below : List Frame} {meth : Method} {c : Code} {Q : State → Prop} {nL : Nat} {D : va_G} {cl : List vw_C} {tys : List (ClassId × FieldType)} {A : Nat → Prop} {cc : ByteArray} {Ts : List Cond} {own : String} {pc pc' : Nat} {lv : List (Nat × Value)} {st : List Value} {wd : va_W} {cells slots : Nat} (C : JC p m c cc nL s args Ts own D cl tys A) {x : Int32} {off : Int} (tgt : Nat) (hd : dec cc pc (.if_icmp .eq off) 3 pc') (ht : (pc : Int) + off = (tgt : Int)) (k : J p l e R s m args below meth c Q nL D cl A tgt lv st wd cells slots) : J p l e R s m args below meth c Q nL D cl A pc lv (.int x :: .int x :: st) wd cells slots := fun H locs ls hl hP hD hS => lv_icmp_eq C.1.1 C.1.2.1 hd.1 ht (fun _ => k H locs ls hl hP hD hS) (fun z => absurd rfl z)
theorem sc_in (x : Int32) : -2147483648 ≤ x.toInt ∧ x.toInt ≤ 2147483647 := by
  have h1 := Int32.le_toInt x
  have h2 := Int32.toInt_lt x
  omega
def LC (p : Program) (l : Launch) (s : State) (m : MethodId) (c : Code) (b L : Nat) (xs : Nat → Int32) (D : va_G) (cB cI cZ cL : ClassId) : Prop := JC p m c cL_law 7 s #[Value.ref b] wsL_law RL D vwCl (tyl cB cI cZ cL) (va_A [] s.heap.size) ∧ va_X b L xs s s.heap ∧ b < s.heap.size ∧ L ≤ 2050 ∧ XC s ∧ l.stackTraces = false
theorem va_A0 {sz q : Nat} (h : va_A [] sz q) : sz ≤ q := by
  rcases h with ⟨k, e, h⟩ | h
  · simp at h
  · exact h
abbrev JW (p : Program) (l : Launch) (e : Env) (s : State) (m : MethodId) (b : Nat) (below : List Frame) (meth : Method) (c : Code) (D : va_G) (pc : Nat) (lv : List (Nat × Value)) (st : List Value) (wd : va_W) (cells slots : Nat) : Prop := J p l e room_1 s m #[Value.ref b] below meth c (lw_Z below #[Value.ref b] s) 7 D vwCl (va_A [] s.heap.size) pc lv st wd cells slots
abbrev lvI (ad bd : Nat → Nat) (b o i : Nat) : List (Nat × Value) := [(0, .ref b), (1, .ref (ad 0)), (2, .ref (bd 0)), (3, .ref o), (4, .int (zI (i : Int)))]
def nxt (p : Program) (l : Launch) (e : Env) (s : State) (m : MethodId) (b : Nat) (below : List Frame) (meth : Method) (c : Code) (D : va_G) (cB cI cZ cL : ClassId) (w h : Nat) (ad bd : Nat → Nat) (o pc i cells slots : Nat) : Prop := ∀ (f : Nat → Int64) (aG aS : Nat) (G S CB SB DK DR RE PF PK CO : Nat → Int) (rc : Int) (np nk nc : Nat) (M O CT LB FS TD PR BY : Nat → Int) (th : Int), rel w h G PF PK CO np nk nc M TD PR BY → JW p l e s m b below meth c D pc (lvI ad bd b o i) [] (((o, oL cL f) :: wM cB cI bd w h M O CT LB FS TD PR BY th (np : Int) (nk : Int) (nc : Int)) ++ wX cB cI cZ ad w h aG aS G S CB SB DK DR RE PF PK CO rc (np : Int) (nk : Int) (nc : Int)) cells slots
