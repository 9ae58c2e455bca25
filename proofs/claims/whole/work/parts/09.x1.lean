/-! THE CLASS: leaves -/
/-- how many of the first n places differ -/
def dif (f g : Nat → Int) : Nat → Int
  | 0 => 0
  | n + 1 => dif f g n + if f n = g n then 0 else 1
/-- bytes -/
def byt (n : Nat) (f : Nat → Int) : Prop := ∀ k, k < n → -128 ≤ f k ∧ f k ≤ 127

theorem hwsX0_isOnSheet : ∀ w ∈ u_ws RX0 TX0 16, w ∈ wsX0_isOnSheet := fun _ h => List.mem_cons_of_mem _ (List.mem_append_right _ h)
theorem kX0_isOnSheet_18 : Cond.fieldLink RX0 18 "SheetRows" (TX0 0).2.1 (TX0 0).2.2.1 ∈ wsX0_isOnSheet := by decide +kernel
theorem kX0_isOnSheet_22 : Cond.fieldLink RX0 22 "SheetRows" (TX0 1).2.1 (TX0 1).2.2.1 ∈ wsX0_isOnSheet := by decide +kernel
abbrev rmX0_isOnSheet : Room := { frames := 0, cells := 0, slots := 0, locals := 0 }
set_option maxHeartbeats 4000000 in
set_option maxRecDepth 100000 in
theorem ctX0_isOnSheet (l : Launch) (D : va_G) (cB cI cZ cL : ClassId) (ad : Nat → Nat) (w h : Nat) (hs : Sz w h) (aG aS : Nat) (G S CB SB DK DR RE PF PK CO : Nat → Int) (rc pn kn cn : Int) (x y : Int) (hx : -2147483648 ≤ x ∧ x ≤ 2147483647) (hy : -2147483648 ≤ y ∧ y ≤ 2147483647) : mI l yX0_isOnSheet wsX0_isOnSheet rmX0_isOnSheet D vwCl (tyl cB cI cZ cL) [.ref (ad 0), .int (zI x), .int (zI y)] (wX cB cI cZ ad w h aG aS G S CB SB DK DR RE PF PK CO rc pn kn cn) 0 0 (fun z w1 => w1 = wX cB cI cZ ad w h aG aS G S CB SB DK DR RE PF PK CO rc pn kn cn ∧ z = if (0 ≤ x ∧ x < (w : Int) ∧ 0 ≤ y ∧ y < (h : Int)) then 1 else 0) := by
  refine mI_of (own := RX0) rfl (by decide) rfl (Nat.le_of_ble_eq_true rfl) ?_
  intro p e s m args below meth c C hr hlocks hname
  show J p l e rmX0_isOnSheet s m args below meth c _ 3 D vwCl _ 0 [(0, .ref (ad 0)), (1, .int (zI x)), (2, .int (zI y))] [] (wX cB cI cZ ad w h aG aS G S CB SB DK DR RE PF PK CO rc pn kn cn) 0 0
  obtain ⟨h1, h2, h3, h4⟩ := id hs
  refine j_iload_n C eX0_isOnSheet_0 1 rfl ?_
  refine j_if_lt C 28 eX0_isOnSheet_1 (by decide) (by omega) (fun c1 => ?_) (fun c1 => ?_)
  ·
    refine j_iconst C eX0_isOnSheet_28 ?_
    exact j_iret C hr hlocks rfl eX0_isOnSheet_29 ⟨rfl, by rw [if_neg (by omega)]⟩
  ·
    refine j_iload_n C eX0_isOnSheet_4 1 rfl ?_
    refine j_aload_n C eX0_isOnSheet_5 0 rfl ?_
    refine j_getf C hwsX0_isOnSheet 0 rfl rfl 0 (by decide) kX0_isOnSheet_18 rfl rfl eX0_isOnSheet_6 ?_
    refine j_icmp_ge C 28 eX0_isOnSheet_9 (by decide) (by omega) (by omega) (fun c9 => ?_) (fun c9 => ?_)
    ·
      refine j_iconst C eX0_isOnSheet_28 ?_
      exact j_iret C hr hlocks rfl eX0_isOnSheet_29 ⟨rfl, by rw [if_neg (by omega)]⟩
    ·
      refine j_iload_n C eX0_isOnSheet_12 2 rfl ?_
      refine j_if_lt C 28 eX0_isOnSheet_13 (by decide) (by omega) (fun c13 => ?_) (fun c13 => ?_)
      ·
        refine j_iconst C eX0_isOnSheet_28 ?_
        exact j_iret C hr hlocks rfl eX0_isOnSheet_29 ⟨rfl, by rw [if_neg (by omega)]⟩
      ·
        refine j_iload_n C eX0_isOnSheet_16 2 rfl ?_
        refine j_aload_n C eX0_isOnSheet_17 0 rfl ?_
        refine j_getf C hwsX0_isOnSheet 0 rfl rfl 1 (by decide) kX0_isOnSheet_22 rfl rfl eX0_isOnSheet_18 ?_
        refine j_icmp_ge C 28 eX0_isOnSheet_21 (by decide) (by omega) (by omega) (fun c21 => ?_) (fun c21 => ?_)
        ·
          refine j_iconst C eX0_isOnSheet_28 ?_
          exact j_iret C hr hlocks rfl eX0_isOnSheet_29 ⟨rfl, by rw [if_neg (by omega)]⟩
        ·
          refine j_iconst C eX0_isOnSheet_24 ?_
          refine j_goto C 29 eX0_isOnSheet_25 (by decide) ?_
          exact j_iret C hr hlocks rfl eX0_isOnSheet_29 ⟨rfl, by rw [if_pos (by omega)]⟩
theorem hwsX0_takeSpare : ∀ w ∈ u_ws RX0 TX0 16, w ∈ wsX0_takeSpare := fun _ h => List.mem_cons_of_mem _ (List.mem_append_right _ h)
theorem kX0_takeSpare_25 : Cond.fieldLink RX0 25 "SheetRows" (TX0 2).2.1 (TX0 2).2.2.1 ∈ wsX0_takeSpare := by decide +kernel
theorem kX0_takeSpare_29 : Cond.fieldLink RX0 29 "SheetRows" (TX0 3).2.1 (TX0 3).2.2.1 ∈ wsX0_takeSpare := by decide +kernel
abbrev rmX0_takeSpare : Room := { frames := 0, cells := 0, slots := 0, locals := 0 }
set_option maxHeartbeats 4000000 in
set_option maxRecDepth 100000 in
theorem lpX0_takeSpare {p : Program} {l : Launch} {e : Env} {R : Room} {s : State} {m : MethodId} {args : Array Value} {below : List Frame} {meth : Method} {c : Code} {Q : State → Prop} {D : va_G} {A : Nat → Prop} {cB cI cZ cL : ClassId} {w h : Nat} {ad : Nat → Nat} {aG aS : Nat} {G S CB SB DK DR RE PF PK CO : Nat → Int} {rc pn kn cn : Int} (C : JC p m c cX0_takeSpare 3 s args wsX0_takeSpare RX0 D vwCl (tyl cB cI cZ cL) A) (hs : Sz w h) (hG : byt (w * h) G) (hS : byt (w * h) S)
    (kx : J p l e R s m args below meth c Q 3 D vwCl A 37 [(0, .ref (ad 0)), (1, .int (zI (dif G S (w * h)))), (2, .int (zI ((w * h) : Int)))] [] (wX cB cI cZ ad w h aG aS G S CB SB DK DR RE PF PK CO rc pn kn cn) 0 0) : ∀ (n i : Nat), i ≤ w * h → w * h - i < n → J p l e R s m args below meth c Q 3 D vwCl A 4 [(0, .ref (ad 0)), (1, .int (zI (dif G S i))), (2, .int (zI (i : Int)))] [] (wX cB cI cZ ad w h aG aS G S CB SB DK DR RE PF PK CO rc pn kn cn) 0 0 := by
  have hm := hs.mul
  intro n
  induction n with
  | zero => intro i _ hn; exact absurd hn (Nat.not_lt_zero _)
  | succ n ih =>
    intro i hi hn
    refine j_iload_n C eX0_takeSpare_4 2 rfl ?_
    refine j_aload_n C eX0_takeSpare_5 0 rfl ?_
    refine j_getf C hwsX0_takeSpare 0 rfl rfl 2 (by decide) kX0_takeSpare_25 rfl rfl eX0_takeSpare_6 ?_
    refine j_alen C 1 0 rfl rfl eX0_takeSpare_9 ?_
    refine j_icmp_ge C 37 eX0_takeSpare_10 (by decide) (by omega) (by omega) (fun c10 => ?_) (fun c10 => ?_)
    ·
      have he : i = w * h := by omega
      subst he
      exact kx
    ·
      have hg := hG i (by omega)
      have hs2 := hS i (by omega)
      refine j_aload_n C eX0_takeSpare_13 0 rfl ?_
      refine j_getf C hwsX0_takeSpare 0 rfl rfl 2 (by decide) kX0_takeSpare_25 rfl rfl eX0_takeSpare_14 ?_
      refine j_iload_n C eX0_takeSpare_17 2 rfl ?_
      refine j_bald C 1 0 rfl rfl i rfl (by omega) (by omega) eX0_takeSpare_18 ?_
      refine j_aload_n C eX0_takeSpare_19 0 rfl ?_
      refine j_getf C hwsX0_takeSpare 0 rfl rfl 3 (by decide) kX0_takeSpare_29 rfl rfl eX0_takeSpare_20 ?_
      refine j_iload_n C eX0_takeSpare_23 2 rfl ?_
      refine j_bald C 2 0 rfl rfl i rfl (by omega) (by omega) eX0_takeSpare_24 ?_
      refine j_icmp_eq C 31 eX0_takeSpare_25 (by decide) (by omega) (by omega) (fun c25 => ?_) (fun c25 => ?_)
      ·
        have e2 : G i = S i := c25
        refine j_iinc C eX0_takeSpare_31 2 rfl rfl (by decide) (lv' := [(0, .ref (ad 0)), (1, .int (zI (dif G S i))), (2, .int (zI ((i : Int) + 1)))]) rfl ?_
        refine j_goto C 4 eX0_takeSpare_34 (by decide) ?_
        have e1 : dif G S (i + 1) = dif G S i := by simp only [dif]; rw [if_pos e2]; omega
        have hb := ih (i + 1) (by omega) (by omega)
        rw [e1] at hb
        exact hb
      ·
        refine j_iinc C eX0_takeSpare_28 1 rfl rfl (by decide) (lv' := [(0, .ref (ad 0)), (1, .int (zI ((dif G S i) + 1))), (2, .int (zI (i : Int)))]) rfl ?_
        refine j_iinc C eX0_takeSpare_31 2 rfl rfl (by decide) (lv' := [(0, .ref (ad 0)), (1, .int (zI ((dif G S i) + 1))), (2, .int (zI ((i : Int) + 1)))]) rfl ?_
        refine j_goto C 4 eX0_takeSpare_34 (by decide) ?_
        have e1 : dif G S (i + 1) = dif G S i + 1 := by simp only [dif]; rw [if_neg c25]
        have hb := ih (i + 1) (by omega) (by omega)
        rw [e1] at hb
        exact hb
set_option maxHeartbeats 4000000 in
set_option maxRecDepth 100000 in
theorem ctX0_takeSpare (l : Launch) (D : va_G) (cB cI cZ cL : ClassId) (ad : Nat → Nat) (w h : Nat) (hs : Sz w h) (aG aS : Nat) (G S CB SB DK DR RE PF PK CO : Nat → Int) (rc pn kn cn : Int) (hG : byt (w * h) G) (hS : byt (w * h) S) : mI l yX0_takeSpare wsX0_takeSpare rmX0_takeSpare D vwCl (tyl cB cI cZ cL) [.ref (ad 0)] (wX cB cI cZ ad w h aG aS G S CB SB DK DR RE PF PK CO rc pn kn cn) 0 0 (fun z w1 => w1 = wX cB cI cZ ad w h aS aG S G CB SB DK DR RE PF PK CO rc pn kn cn ∧ z = dif G S (w * h)) := by
  refine mI_of (own := RX0) rfl (by decide) rfl (Nat.le_of_ble_eq_true rfl) ?_
  intro p e s m args below meth c C hr hlocks hname
  show J p l e rmX0_takeSpare s m args below meth c _ 3 D vwCl _ 0 [(0, .ref (ad 0))] [] (wX cB cI cZ ad w h aG aS G S CB SB DK DR RE PF PK CO rc pn kn cn) 0 0
  refine j_iconst C eX0_takeSpare_0 ?_
  refine j_istore_n C eX0_takeSpare_1 rfl (by decide) (lv' := [(0, .ref (ad 0)), (1, .int (zI 0))]) rfl ?_
  refine j_iconst C eX0_takeSpare_2 ?_
  refine j_istore_n C eX0_takeSpare_3 rfl (by decide) (lv' := [(0, .ref (ad 0)), (1, .int (zI 0)), (2, .int (zI 0))]) rfl ?_
  have hm := hs.mul
  refine lpX0_takeSpare C hs hG hS ?_ (w * h + 1) 0 (by omega) (by omega)
  refine j_aload_n C eX0_takeSpare_37 0 rfl ?_
  refine j_getf C hwsX0_takeSpare 0 rfl rfl 2 (by decide) kX0_takeSpare_25 rfl rfl eX0_takeSpare_38 ?_
  refine j_astore_n C eX0_takeSpare_41 rfl (by decide) (lv' := [(0, .ref (ad 0)), (1, .int (zI (dif G S (w * h)))), (2, .ref aG)]) rfl ?_
  refine j_aload_n C eX0_takeSpare_42 0 rfl ?_
  refine j_aload_n C eX0_takeSpare_43 0 rfl ?_
  refine j_getf C hwsX0_takeSpare 0 rfl rfl 3 (by decide) kX0_takeSpare_29 rfl rfl eX0_takeSpare_44 ?_
  refine j_putf C hwsX0_takeSpare tyX0 tyX0_ok nmX0 0 rfl rfl 2 (by decide) kX0_takeSpare_25 rfl rfl (tyX0_ok 2 (by decide)) rfl rfl (Nat.le_of_ble_eq_true rfl) eX0_takeSpare_47 (wd' := wXf cB cI cZ ad w h aS aS aG aS G S CB SB DK DR RE PF PK CO rc pn kn cn) rfl ?_
  refine j_aload_n C eX0_takeSpare_50 0 rfl ?_
  refine j_aload_n C eX0_takeSpare_51 2 rfl ?_
  refine j_putf C hwsX0_takeSpare tyX0 tyX0_ok nmX0 0 rfl rfl 3 (by decide) kX0_takeSpare_29 rfl rfl (tyX0_ok 3 (by decide)) rfl rfl (Nat.le_of_ble_eq_true rfl) eX0_takeSpare_52 (wd' := wXf cB cI cZ ad w h aS aG aG aS G S CB SB DK DR RE PF PK CO rc pn kn cn) rfl ?_
  refine j_perm [0, 2, 1, 3, 4, 5, 6, 7, 8, 9, 10] (by decide) (wd' := wX cB cI cZ ad w h aS aG S G CB SB DK DR RE PF PK CO rc pn kn cn) rfl ?_
  refine j_iload_n C eX0_takeSpare_55 1 rfl ?_
  exact j_iret C hr hlocks rfl eX0_takeSpare_56 ⟨rfl, rfl⟩
