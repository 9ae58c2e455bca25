/-! THE JDK's own: fill, floorDiv, floorMod -/
theorem xor_sign {a b : Int} (ha : -2147483648 ≤ a ∧ a ≤ 2147483647) (hb : 0 < b ∧ b ≤ 2147483647) : 0 ≤ (zI a ^^^ zI b).toInt ↔ 0 ≤ a := by
  have h1 : (zI a ^^^ zI b).toInt = ((zI a).toBitVec ^^^ (zI b).toBitVec).toInt := rfl
  have ea : (zI a).toBitVec.toInt = a := zI_toInt ha
  have eb : (zI b).toBitVec.toInt = b := zI_toInt (by omega)
  have h2 : ((zI a).toBitVec ^^^ (zI b).toBitVec).msb = (decide (a < 0) ^^ decide (b < 0)) := by
    rw [BitVec.msb_xor, BitVec.msb_eq_toInt, BitVec.msb_eq_toInt, ea, eb]
  rw [BitVec.msb_eq_toInt] at h2
  rw [h1]
  have hb2 : decide (b < 0) = false := decide_eq_false (by omega)
  rw [hb2, Bool.xor_false] at h2
  have h3 := decide_eq_decide.mp h2
  omega
theorem j_xorS {p : Program} {l : Launch} {e : Env} {R : Room} {s : State} {m : MethodId} {args : Array Value} {below : List Frame} {meth : Method} {c : Code} {Q : State → Prop} {nL : Nat} {D : va_G} {cl : List vw_C} {tys : List (ClassId × FieldType)} {A : Nat → Prop} {cc : ByteArray} {Ts : List Cond} {own : String} {pc pc' : Nat} {lv : List (Nat × Value)} {st : List Value} {wd : va_W} {cells slots : Nat} (C : JC p m c cc nL s args Ts own D cl tys A) {a b : Int} (hd : dec cc pc .ixor 1 pc') (ha : -2147483648 ≤ a ∧ a ≤ 2147483647) (hb : 0 < b ∧ b ≤ 2147483647) (k : ∀ x : Int, (-2147483648 ≤ x ∧ x ≤ 2147483647) → (0 ≤ x ↔ 0 ≤ a) → J p l e R s m args below meth c Q nL D cl A pc' lv (.int (zI x) :: st) wd cells slots) : J p l e R s m args below meth c Q nL D cl A pc lv (.int (zI b) :: .int (zI a) :: st) wd cells slots := by
  refine j_ixor C hd ?_
  obtain ⟨x, hx, ex⟩ := zI_of (zI a ^^^ zI b)
  rw [ex]
  refine k x hx ?_
  have h1 := xor_sign ha hb
  rw [ex, zI_toInt hx] at h1
  exact h1
theorem tm_eq {a b : Int} (hb : 0 < b) : a.tmod b = a % b - (if 0 ≤ a ∨ b ∣ a then 0 else b) := by
  have h := Int.tmod_eq_emod (a := a) (b := b)
  by_cases c : 0 ≤ a ∨ b ∣ a
  · rw [if_pos c] at h ⊢
    exact h
  · rw [if_neg c] at h ⊢
    have hq4 : ((b.natAbs : Nat) : Int) = b := Int.natAbs_of_nonneg (by omega)
    rw [h, hq4]
theorem mI_ofF {l : Launch} {D : va_G} {cl : List vw_C} {tys : List (ClassId × FieldType)} {y : MethodName} {ws ws' : List Cond} {rm : Room} {av : List Value} {w0 : va_W} {mc ms : Nat} {post : Int → va_W → Prop} {cc : ByteArray} {maxL : Nat} {rt : FieldType} {own : String} (hyo : y.cls = own) (hy : plainFor y = true) (hw : ws = Cond.code y cc maxL (some rt) :: ws') (hlen : (lg_sl av).length ≤ maxL)
    (body : ∀ (p : Program) (e : Env) (s : State) (m : MethodId) (args : Array Value) (below : List Frame) (meth : Method) (c : Code), JC p m c cc maxL s args ws own D cl tys (va_A w0 s.heap.size) → meth.sig.returnType = (some rt) → meth.locks = false → meth.name = y.name → J p l e rm s m args below meth c (MQ below (mQI D cl tys w0 s.heap.size post) args s mc ms (va_A w0 s.heap.size)) maxL D cl (va_A w0 s.heap.size) 0 (lv_args 0 av) [] w0 0 0) : mI l y ws rm D cl tys av w0 mc ms post := by
  intro sz
  refine va_MetF (cc := cc) (maxL := maxL) (ret := (some rt)) hy hw ?_
  intro p e s m args below meth c s₁ B hml hv
  obtain ⟨ha, hsz, hP, hK, hD0⟩ := hv
  subst hsz
  have hts := atoms_spec (ws := ws) B.pre
  have hown : s.vm.findClass own = some m.cls := hyo ▸ findClass_of_methodNamed B.named
  have hb := body p e s m args below meth c ⟨⟨B.exec, B.bytes, hml, hown, hts⟩, hK, fun q h => Or.inr h⟩ B.returns B.notSynchronized (name_of_methodNamed B.named B.method).1
  have hl := lv_entry av (n := maxL) hlen
  subst ha
  rw [lg_entry_eq]
  exact hb s.heap [] _ hl hP hD0.self va_S.rf
theorem fl_mod {a b : Int} (hb : 0 < b) : (0 ≤ a → 0 ≤ a.tmod b ∧ a.tmod b ≤ a) ∧ (a < 0 → a ≤ a.tmod b ∧ a.tmod b ≤ 0) := by
  have hq1 := Int.tdiv_eq_ediv (a := a) (b := b)
  have hq2 := tm_eq (a := a) hb
  have hb0 := Int.emod_nonneg a (b := b) (by omega)
  have hb1 := Int.emod_lt_of_pos a hb
  have hdv := Int.mul_ediv_add_emod a b
  constructor
  · intro h
    rw [if_pos (Or.inl h)] at hq2
    have h2 : 0 ≤ b * (a / b) := Int.mul_nonneg (by omega) (Int.ediv_nonneg h (by omega))
    omega
  · intro h
    by_cases hz : 0 ≤ a ∨ b ∣ a
    · rw [if_pos hz] at hq2
      have hd : b ∣ a := by rcases hz with z | z; omega; exact z
      have he := Int.emod_eq_zero_of_dvd hd
      omega
    · rw [if_neg hz] at hq2
      have h3 : a / b < 0 := Int.ediv_neg_of_neg_of_pos h hb
      have h4 : b * (a / b + 1) ≤ 0 := Int.mul_nonpos_of_nonneg_of_nonpos (by omega) (by omega)
      have h5 : b * (a / b + 1) = b * (a / b) + b := by rw [Int.mul_add, Int.mul_one]
      omega
theorem fl_div1 {a b : Int} (ha : -2147483648 ≤ a ∧ a ≤ 2147483647) (hb : 0 < b) (h : a < 0) (hne : a.tdiv b * b ≠ a) : a.tdiv b - 1 = a / b := by
  have hq1 := Int.tdiv_eq_ediv (a := a) (b := b)
  rw [Int.sign_eq_one_of_pos hb] at hq1
  rw [if_neg] at hq1
  · omega
  · intro hz
    have hd : b ∣ a := by rcases hz with z | z; omega; exact z
    exact hne (by rw [Int.mul_comm]; exact Int.mul_tdiv_cancel' hd)
theorem fl_div2 {a b : Int} (ha : -2147483648 ≤ a ∧ a ≤ 2147483647) (hb : 0 < b) (h : 0 ≤ a ∨ a.tdiv b * b = a) : a.tdiv b = a / b := by
  have hq1 := Int.tdiv_eq_ediv (a := a) (b := b)
  rw [if_pos] at hq1
  · omega
  · rcases h with h | h
    · exact Or.inl h
    · exact Or.inr ⟨a.tdiv b, by rw [Int.mul_comm]; exact h.symm⟩
theorem fl_mod1 {a b : Int} (ha : -2147483648 ≤ a ∧ a ≤ 2147483647) (hb : 0 < b) (h : a < 0) (hne : a.tmod b ≠ 0) : a.tmod b + b = a % b := by
  have hq2 := tm_eq (a := a) hb
  rw [if_neg] at hq2
  · omega
  · intro hz
    have hd : b ∣ a := by rcases hz with z | z; omega; exact z
    rw [if_pos hz, Int.emod_eq_zero_of_dvd hd] at hq2
    exact hne (by omega)
theorem fl_mod2 {a b : Int} (ha : -2147483648 ≤ a ∧ a ≤ 2147483647) (hb : 0 < b) (h : 0 ≤ a ∨ a.tmod b = 0) : a.tmod b = a % b := by
  have hq2 := tm_eq (a := a) hb
  rw [if_pos] at hq2
  · omega
  · rcases h with h | h
    · exact Or.inl h
    · exact Or.inr (Int.dvd_of_tmod_eq_zero h)
abbrev rmJ7_fill_53178 : Room := { frames := 0, cells := 0, slots := 0, locals := 0 }
set_option maxHeartbeats 4000000 in
set_option maxRecDepth 100000 in
theorem lpJ7_fill_53178 {p : Program} {l : Launch} {e : Env} {s : State} {m : MethodId} {args : Array Value} {below : List Frame} {meth : Method} {c : Code} {Q : State → Prop} {D : va_G} {A : Nat → Prop} {cB cI cZ cL : ClassId}  (C : JC p m c cJ7_fill_53178 4 s args wsJ7_fill_53178 RJ7 D vwCl (tyl cB cI cZ cL) A) {a n : Nat} {v : Int} (hn : n ≤ 2147483647) (kx : ∀ g : Nat → Int, (∀ k, k < n → g k = v) → J p l e rmJ7_fill_53178 s m args below meth c Q 4 D vwCl A 20 [(0, .ref a), (1, .int (zI v)), (2, .int (zI (n : Int))), (3, .int (zI ((n : Nat) : Int)))] [] ([(a, zA cI n g)]) 0 0) : ∀ (f i : Nat) (g : Nat → Int), i ≤ n → n - i < f → (∀ k, k < i → g k = v) → J p l e rmJ7_fill_53178 s m args below meth c Q 4 D vwCl A 5 [(0, .ref a), (1, .int (zI v)), (2, .int (zI (i : Int))), (3, .int (zI ((n : Nat) : Int)))] [] ([(a, zA cI n g)]) 0 0 := by
  intro f
  induction f with
  | zero => intro i g _ hf; exact absurd hf (Nat.not_lt_zero _)
  | succ f ih =>
    intro i g hi hf hg
    refine j_iload_n C eJ7_fill_53178_5 2 rfl ?_
    refine j_iload_n C eJ7_fill_53178_6 3 rfl ?_
    refine j_icmp_ge C 20 eJ7_fill_53178_7 (by decide) (by omega) (by omega) (fun c7 => ?_) (fun c7 => ?_)
    ·
      have he : i = n := by omega
      subst he
      exact kx g hg
    ·
      refine j_aload_n C eJ7_fill_53178_10 0 rfl ?_
      refine j_iload_n C eJ7_fill_53178_11 2 rfl ?_
      refine j_iload_n C eJ7_fill_53178_12 1 rfl ?_
      refine j_iast C 0 1 rfl rfl i rfl (by omega) (by omega) eJ7_fill_53178_13 (wd' := [(a, zA cI n (zup g i v))]) rfl ?_
      refine j_iinc C eJ7_fill_53178_14 2 rfl rfl (by decide) (lv' := [(0, .ref a), (1, .int (zI v)), (2, .int (zI ((i : Int) + 1))), (3, .int (zI ((n : Nat) : Int)))]) rfl ?_
      refine j_goto C 5 eJ7_fill_53178_17 (by decide) ?_
      exact ih (i + 1) (zup g i v) (by omega) (by omega) (fun k hk => by
        by_cases h : k = i
        · subst h; exact zup_s
        · rw [zup_n h]; exact hg k (by omega))
set_option maxHeartbeats 4000000 in
set_option maxRecDepth 100000 in
theorem ctJ7_fill_53178 (l : Launch) (D : va_G) (cB cI cZ cL : ClassId) (a n : Nat) (g : Nat → Int) (v : Int) (hn : n ≤ 2147483647) : mV l yJ7_fill_53178 wsJ7_fill_53178 rmJ7_fill_53178 D vwCl (tyl cB cI cZ cL) [.ref a, .int (zI v)] [(a, zA cI n g)] 0 0 (fun w1 => ∃ g' : Nat → Int, (∀ k, k < n → g' k = v) ∧ w1 = [(a, zA cI n g')]) := by
  refine mV_of (own := RJ7) rfl (by decide) rfl (Nat.le_of_ble_eq_true rfl) ?_
  intro p e s m args below meth c C hr hlocks hname
  show J p l e rmJ7_fill_53178 s m args below meth c _ 4 D vwCl _ 0 [(0, .ref a), (1, .int (zI v))] [] [(a, zA cI n g)] 0 0
  refine j_iconst C eJ7_fill_53178_0 ?_
  refine j_istore_n C eJ7_fill_53178_1 rfl (by decide) (lv' := [(0, .ref a), (1, .int (zI v)), (2, .int (zI 0))]) rfl ?_
  refine j_aload_n C eJ7_fill_53178_2 0 rfl ?_
  refine j_alen C 0 1 rfl rfl eJ7_fill_53178_3 ?_
  refine j_istore_n C eJ7_fill_53178_4 rfl (by decide) (lv' := [(0, .ref a), (1, .int (zI v)), (2, .int (zI 0)), (3, .int (zI ((n : Nat) : Int)))]) rfl ?_
  refine lpJ7_fill_53178 C hn (fun g' hg' => ?_) (n + 1) 0 g (by omega) (by omega) (fun k hk => absurd hk (Nat.not_lt_zero _))
  exact j_vret C hr hlocks eJ7_fill_53178_20 ⟨g', hg', rfl⟩
abbrev rmJ7_fill_031fb : Room := { frames := 0, cells := 0, slots := 0, locals := 0 }
set_option maxHeartbeats 4000000 in
set_option maxRecDepth 100000 in
theorem lpJ7_fill_031fb {p : Program} {l : Launch} {e : Env} {s : State} {m : MethodId} {args : Array Value} {below : List Frame} {meth : Method} {c : Code} {Q : State → Prop} {D : va_G} {A : Nat → Prop} {cB cI cZ cL : ClassId}  (C : JC p m c cJ7_fill_031fb 4 s args wsJ7_fill_031fb RJ7 D vwCl (tyl cB cI cZ cL) A) {a n : Nat} {v : Int} (hv : -128 ≤ v ∧ v ≤ 127) (hn : n ≤ 2147483647) (kx : ∀ g : Nat → Int, (∀ k, k < n → g k = v) → J p l e rmJ7_fill_031fb s m args below meth c Q 4 D vwCl A 20 [(0, .ref a), (1, .int (zI v)), (2, .int (zI (n : Int))), (3, .int (zI ((n : Nat) : Int)))] [] ([(a, zA cB n g)]) 0 0) : ∀ (f i : Nat) (g : Nat → Int), i ≤ n → n - i < f → (∀ k, k < i → g k = v) → J p l e rmJ7_fill_031fb s m args below meth c Q 4 D vwCl A 5 [(0, .ref a), (1, .int (zI v)), (2, .int (zI (i : Int))), (3, .int (zI ((n : Nat) : Int)))] [] ([(a, zA cB n g)]) 0 0 := by
  intro f
  induction f with
  | zero => intro i g _ hf; exact absurd hf (Nat.not_lt_zero _)
  | succ f ih =>
    intro i g hi hf hg
    refine j_iload_n C eJ7_fill_031fb_5 2 rfl ?_
    refine j_iload_n C eJ7_fill_031fb_6 3 rfl ?_
    refine j_icmp_ge C 20 eJ7_fill_031fb_7 (by decide) (by omega) (by omega) (fun c7 => ?_) (fun c7 => ?_)
    ·
      have he : i = n := by omega
      subst he
      exact kx g hg
    ·
      refine j_aload_n C eJ7_fill_031fb_10 0 rfl ?_
      refine j_iload_n C eJ7_fill_031fb_11 2 rfl ?_
      refine j_iload_n C eJ7_fill_031fb_12 1 rfl ?_
      refine j_bast C 0 0 rfl rfl i rfl (by omega) (by omega) (nar_b hv) eJ7_fill_031fb_13 (wd' := [(a, zA cB n (zup g i v))]) rfl ?_
      refine j_iinc C eJ7_fill_031fb_14 2 rfl rfl (by decide) (lv' := [(0, .ref a), (1, .int (zI v)), (2, .int (zI ((i : Int) + 1))), (3, .int (zI ((n : Nat) : Int)))]) rfl ?_
      refine j_goto C 5 eJ7_fill_031fb_17 (by decide) ?_
      exact ih (i + 1) (zup g i v) (by omega) (by omega) (fun k hk => by
        by_cases h : k = i
        · subst h; exact zup_s
        · rw [zup_n h]; exact hg k (by omega))
set_option maxHeartbeats 4000000 in
set_option maxRecDepth 100000 in
theorem ctJ7_fill_031fb (l : Launch) (D : va_G) (cB cI cZ cL : ClassId) (a n : Nat) (g : Nat → Int) (v : Int) (hv : -128 ≤ v ∧ v ≤ 127) (hn : n ≤ 2147483647) : mV l yJ7_fill_031fb wsJ7_fill_031fb rmJ7_fill_031fb D vwCl (tyl cB cI cZ cL) [.ref a, .int (zI v)] [(a, zA cB n g)] 0 0 (fun w1 => ∃ g' : Nat → Int, (∀ k, k < n → g' k = v) ∧ w1 = [(a, zA cB n g')]) := by
  refine mV_of (own := RJ7) rfl (by decide) rfl (Nat.le_of_ble_eq_true rfl) ?_
  intro p e s m args below meth c C hr hlocks hname
  show J p l e rmJ7_fill_031fb s m args below meth c _ 4 D vwCl _ 0 [(0, .ref a), (1, .int (zI v))] [] [(a, zA cB n g)] 0 0
  refine j_iconst C eJ7_fill_031fb_0 ?_
  refine j_istore_n C eJ7_fill_031fb_1 rfl (by decide) (lv' := [(0, .ref a), (1, .int (zI v)), (2, .int (zI 0))]) rfl ?_
  refine j_aload_n C eJ7_fill_031fb_2 0 rfl ?_
  refine j_alen C 0 0 rfl rfl eJ7_fill_031fb_3 ?_
  refine j_istore_n C eJ7_fill_031fb_4 rfl (by decide) (lv' := [(0, .ref a), (1, .int (zI v)), (2, .int (zI 0)), (3, .int (zI ((n : Nat) : Int)))]) rfl ?_
  refine lpJ7_fill_031fb C hv hn (fun g' hg' => ?_) (n + 1) 0 g (by omega) (by omega) (fun k hk => absurd hk (Nat.not_lt_zero _))
  exact j_vret C hr hlocks eJ7_fill_031fb_20 ⟨g', hg', rfl⟩
abbrev rmJ9_floorDiv_7cf53 : Room := { frames := 0, cells := 0, slots := 0, locals := 0 }
set_option maxHeartbeats 4000000 in
set_option maxRecDepth 100000 in
theorem ctJ9_floorDiv_7cf53 (l : Launch) (D : va_G) (cB cI cZ cL : ClassId) (a b : Int) (ha : -2147483648 ≤ a ∧ a ≤ 2147483647) (hb : 0 < b ∧ b ≤ 2147483647) : mI l yJ9_floorDiv_7cf53 wsJ9_floorDiv_7cf53 rmJ9_floorDiv_7cf53 D vwCl (tyl cB cI cZ cL) [.int (zI a), .int (zI b)] [] 0 0 (fun z w1 => w1 = [] ∧ z = a / b) := by
  refine mI_ofF (own := RJ9) rfl (by decide +kernel) rfl (Nat.le_of_ble_eq_true rfl) ?_
  intro p e s m args below meth c C hr hlocks hname
  show J p l e rmJ9_floorDiv_7cf53 s m args below meth c _ 3 D vwCl _ 0 [(0, .int (zI a)), (1, .int (zI b))] [] [] 0 0
  refine j_iload_n C eJ9_floorDiv_7cf53_0 0 rfl ?_
  refine j_iload_n C eJ9_floorDiv_7cf53_1 1 rfl ?_
  refine j_idiv C eJ9_floorDiv_7cf53_2 (by omega) (by omega) ?_
  refine j_istore_n C eJ9_floorDiv_7cf53_3 rfl (by decide) (lv' := [(0, .int (zI a)), (1, .int (zI b)), (2, .int (zI (a.tdiv b)))]) rfl ?_
  refine j_iload_n C eJ9_floorDiv_7cf53_4 0 rfl ?_
  refine j_iload_n C eJ9_floorDiv_7cf53_5 1 rfl ?_
  refine j_xorS C eJ9_floorDiv_7cf53_6 ha hb (fun x hx hxs => ?_)
  refine j_if_ge C 21 eJ9_floorDiv_7cf53_7 (by decide) (by omega) (fun c7 => ?_) (fun c7 => ?_)
  ·
    refine j_iload_n C eJ9_floorDiv_7cf53_21 2 rfl ?_
    exact j_iret C hr hlocks rfl eJ9_floorDiv_7cf53_22 ⟨rfl, fl_div2 ha hb.1 (by first | exact Or.inl (hxs.mp c7) | exact Or.inr c14)⟩
  ·
    refine j_iload_n C eJ9_floorDiv_7cf53_10 2 rfl ?_
    refine j_iload_n C eJ9_floorDiv_7cf53_11 1 rfl ?_
    refine j_imul C eJ9_floorDiv_7cf53_12 ?_
    refine j_iload_n C eJ9_floorDiv_7cf53_13 0 rfl ?_
    refine j_icmp_eq C 21 eJ9_floorDiv_7cf53_14 (by decide) (by
        have h5 : -2147483648 ≤ a.tdiv b * b ∧ a.tdiv b * b ≤ 2147483647 := by
          have h6 := Int.tmod_add_mul_tdiv a b
          have h7 : a.tdiv b * b = b * a.tdiv b := Int.mul_comm _ _
          have h8 : (0 ≤ a → 0 ≤ a.tmod b ∧ a.tmod b ≤ a) ∧ (a < 0 → a ≤ a.tmod b ∧ a.tmod b ≤ 0) := fl_mod hb.1
          omega
        exact h5) (by omega) (fun c14 => ?_) (fun c14 => ?_)
    ·
      refine j_iload_n C eJ9_floorDiv_7cf53_21 2 rfl ?_
      exact j_iret C hr hlocks rfl eJ9_floorDiv_7cf53_22 ⟨rfl, fl_div2 ha hb.1 (by first | exact Or.inl (hxs.mp c7) | exact Or.inr c14)⟩
    ·
      refine j_iload_n C eJ9_floorDiv_7cf53_17 2 rfl ?_
      refine j_iconst C eJ9_floorDiv_7cf53_18 ?_
      refine j_isub C eJ9_floorDiv_7cf53_19 ?_
      exact j_iret C hr hlocks rfl eJ9_floorDiv_7cf53_20 ⟨rfl, fl_div1 ha hb.1 (by omega) c14⟩
abbrev rmJ9_floorMod_7cf53 : Room := { frames := 0, cells := 0, slots := 0, locals := 0 }
set_option maxHeartbeats 4000000 in
set_option maxRecDepth 100000 in
theorem ctJ9_floorMod_7cf53 (l : Launch) (D : va_G) (cB cI cZ cL : ClassId) (a b : Int) (ha : -2147483648 ≤ a ∧ a ≤ 2147483647) (hb : 0 < b ∧ b ≤ 2147483647) : mI l yJ9_floorMod_7cf53 wsJ9_floorMod_7cf53 rmJ9_floorMod_7cf53 D vwCl (tyl cB cI cZ cL) [.int (zI a), .int (zI b)] [] 0 0 (fun z w1 => w1 = [] ∧ z = a % b) := by
  refine mI_ofF (own := RJ9) rfl (by decide +kernel) rfl (Nat.le_of_ble_eq_true rfl) ?_
  intro p e s m args below meth c C hr hlocks hname
  show J p l e rmJ9_floorMod_7cf53 s m args below meth c _ 3 D vwCl _ 0 [(0, .int (zI a)), (1, .int (zI b))] [] [] 0 0
  refine j_iload_n C eJ9_floorMod_7cf53_0 0 rfl ?_
  refine j_iload_n C eJ9_floorMod_7cf53_1 1 rfl ?_
  refine j_irem C eJ9_floorMod_7cf53_2 (by omega) (by omega) ?_
  refine j_istore_n C eJ9_floorMod_7cf53_3 rfl (by decide) (lv' := [(0, .int (zI a)), (1, .int (zI b)), (2, .int (zI (a.tmod b)))]) rfl ?_
  refine j_iload_n C eJ9_floorMod_7cf53_4 0 rfl ?_
  refine j_iload_n C eJ9_floorMod_7cf53_5 1 rfl ?_
  refine j_xorS C eJ9_floorMod_7cf53_6 ha hb (fun x hx hxs => ?_)
  refine j_if_ge C 18 eJ9_floorMod_7cf53_7 (by decide) (by omega) (fun c7 => ?_) (fun c7 => ?_)
  ·
    refine j_iload_n C eJ9_floorMod_7cf53_18 2 rfl ?_
    exact j_iret C hr hlocks rfl eJ9_floorMod_7cf53_19 ⟨rfl, fl_mod2 ha hb.1 (by first | exact Or.inl (hxs.mp c7) | exact Or.inr c11)⟩
  ·
    refine j_iload_n C eJ9_floorMod_7cf53_10 2 rfl ?_
    refine j_if_eq C 18 eJ9_floorMod_7cf53_11 (by decide) (by have h8 := fl_mod (a := a) hb.1; omega) (fun c11 => ?_) (fun c11 => ?_)
    ·
      refine j_iload_n C eJ9_floorMod_7cf53_18 2 rfl ?_
      exact j_iret C hr hlocks rfl eJ9_floorMod_7cf53_19 ⟨rfl, fl_mod2 ha hb.1 (by first | exact Or.inl (hxs.mp c7) | exact Or.inr c11)⟩
    ·
      refine j_iload_n C eJ9_floorMod_7cf53_14 2 rfl ?_
      refine j_iload_n C eJ9_floorMod_7cf53_15 1 rfl ?_
      refine j_iadd C eJ9_floorMod_7cf53_16 ?_
      exact j_iret C hr hlocks rfl eJ9_floorMod_7cf53_17 ⟨rfl, fl_mod1 ha hb.1 (by omega) c11⟩
