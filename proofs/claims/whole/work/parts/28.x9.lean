/-! THE CLASS: put, grey, octet: on the sheet, and off it -/
set_option maxHeartbeats 4000000 in
set_option maxRecDepth 100000 in
theorem ctX0_isOnSheet_R (l : Launch) (D : va_G) (cB cI cZ cL : ClassId) (ad : Nat → Nat) (w h : Nat) (hs : Sz w h) (aG aS : Nat) (G S CB SB DK DR RE PF PK CO : Nat → Int) (rc pn kn cn : Int) (x y : Int) (hx : -2147483648 ≤ x ∧ x ≤ 2147483647) (hy : -2147483648 ≤ y ∧ y ≤ 2147483647) (hon : ¬ (0 ≤ x ∧ x < (w : Int) ∧ 0 ≤ y ∧ y < (h : Int))) : mR l yX0_isOnSheet wsX0_isOnSheet rmX0_isOnSheet D vwCl (tyl cB cI cZ cL) [.ref (ad 0), .int (zI x), .int (zI y)] (wX cB cI cZ ad w h aG aS G S CB SB DK DR RE PF PK CO rc pn kn cn) (fun z => z = 0) := by
  obtain ⟨h1, h2, h3, h4⟩ := id hs
  refine mR_of (own := RX0) rfl (by decide) rfl (Nat.le_of_ble_eq_true rfl) ?_
  intro p e s m args below meth c C hr hlocks
  show JR p l e rmX0_isOnSheet s m args below meth c _ 3 0 [(0, .ref (ad 0)), (1, .int (zI x)), (2, .int (zI y))] []
  refine r_iload_n C eX0_isOnSheet_0 1 rfl ?_
  refine r_if_lt C 28 eX0_isOnSheet_1 (by decide) (by omega) (fun c1 => ?_) (fun c1 => ?_)
  ·
    refine r_iconst C eX0_isOnSheet_28 ?_
    exact r_iret C hr hlocks rfl eX0_isOnSheet_29 rfl
  ·
    refine r_iload_n C eX0_isOnSheet_4 1 rfl ?_
    refine r_aload_n C eX0_isOnSheet_5 0 rfl ?_
    refine r_getf C hwsX0_isOnSheet 0 rfl rfl 0 (by decide) kX0_isOnSheet_18 rfl rfl eX0_isOnSheet_6 ?_
    refine r_icmp_ge C 28 eX0_isOnSheet_9 (by decide) (by omega) (by omega) (fun c9 => ?_) (fun c9 => ?_)
    ·
      refine r_iconst C eX0_isOnSheet_28 ?_
      exact r_iret C hr hlocks rfl eX0_isOnSheet_29 rfl
    ·
      refine r_iload_n C eX0_isOnSheet_12 2 rfl ?_
      refine r_if_lt C 28 eX0_isOnSheet_13 (by decide) (by omega) (fun c13 => ?_) (fun c13 => ?_)
      ·
        refine r_iconst C eX0_isOnSheet_28 ?_
        exact r_iret C hr hlocks rfl eX0_isOnSheet_29 rfl
      ·
        refine r_iload_n C eX0_isOnSheet_16 2 rfl ?_
        refine r_aload_n C eX0_isOnSheet_17 0 rfl ?_
        refine r_getf C hwsX0_isOnSheet 0 rfl rfl 1 (by decide) kX0_isOnSheet_22 rfl rfl eX0_isOnSheet_18 ?_
        refine r_icmp_ge C 28 eX0_isOnSheet_21 (by decide) (by omega) (by omega) (fun c21 => ?_) (fun c21 => ?_)
        ·
          refine r_iconst C eX0_isOnSheet_28 ?_
          exact r_iret C hr hlocks rfl eX0_isOnSheet_29 rfl
        ·
          refine r_iconst C eX0_isOnSheet_24 ?_
          refine r_goto C 29 eX0_isOnSheet_25 (by decide) ?_
          exact absurd hon (by omega)
theorem hwsX0_put : ∀ w ∈ u_ws RX0 TX0 16, w ∈ wsX0_put := by decide +kernel
theorem kX0_put_18 : Cond.fieldLink RX0 18 "SheetRows" (TX0 0).2.1 (TX0 0).2.2.1 ∈ wsX0_put := by decide +kernel
theorem kX0_put_25 : Cond.fieldLink RX0 25 "SheetRows" (TX0 2).2.1 (TX0 2).2.2.1 ∈ wsX0_put := by decide +kernel
abbrev rmX0_putT : Room := { frames := 7, cells := 1, slots := 6, locals := 120 }
set_option maxHeartbeats 4000000 in
set_option maxRecDepth 100000 in
theorem ctX0_put_T (l : Launch) (D : va_G) (cB cI cZ cL : ClassId) (ad : Nat → Nat) (w h : Nat) (hs : Sz w h) (aG aS : Nat) (G S CB SB DK DR RE PF PK CO : Nat → Int) (rc pn kn cn : Int) (hl9 : l.stackTraces = false) (x y v : Int) (hx : -2147483648 ≤ x ∧ x ≤ 2147483647) (hy : -2147483648 ≤ y ∧ y ≤ 2147483647) (hon : ¬ (0 ≤ x ∧ x < (w : Int) ∧ 0 ≤ y ∧ y < (h : Int))) : mT l yX0_put wsX0_put rmX0_putT D vwCl (tyl cB cI cZ cL) [.ref (ad 0), .int (zI x), .int (zI y), .int (zI v)] (wX cB cI cZ ad w h aG aS G S CB SB DK DR RE PF PK CO rc pn kn cn) := by
  have hm := hs.mul
  obtain ⟨h1, h2, h3, h4⟩ := id hs
  refine mT_of (own := RX0) rfl (by decide) rfl (Nat.le_of_ble_eq_true rfl) ?_
  intro p e s m args below meth c C hD hlocks hem hXP
  show JR p l e rmX0_putT s m args below meth c _ 4 0 [(0, .ref (ad 0)), (1, .int (zI x)), (2, .int (zI y)), (3, .int (zI v))] []
  refine r_aload_n C eX0_put_0 0 rfl ?_
  refine r_iload_n C eX0_put_1 1 rfl ?_
  refine r_iload_n C eX0_put_2 2 rfl ?_
  refine r_callV C (As := [.int (zI x), .int (zI y)]) (rest := []) hD (ctX0_isOnSheet_R l D cB cI cZ cL ad w h hs aG aS G S CB SB DK DR RE PF PK CO rc pn kn cn x y hx hy hon) (cwV 2 C.1.2.2.2.2 gX0_put_X0_isOnSheet rfl rfl rfl (by decide +kernel) ⟨Nat.le_of_ble_eq_true rfl, Nat.le_of_ble_eq_true rfl⟩) 0 rfl rfl rfl rfl (Nat.le_of_ble_eq_true rfl) eX0_put_3 (fun z hz => ?_)
  subst hz
  refine r_if_ne C 19 eX0_put_6 (by decide) (by omega) (fun c6 => ?_) (fun c6 => ?_)
  ·
    exact absurd c6 (by omega)
  ·
    exact r_throw C rfl hl9 hXP hem hlocks hXP.2.1 (by decide +kernel) (by decide +kernel) (by decide +kernel) eX0_put_9 eX0_put_12 eX0_put_13 eX0_put_15 eX0_put_18 (Nat.le_of_ble_eq_true rfl) (Nat.le_of_ble_eq_true rfl) (Nat.le_of_ble_eq_true rfl) (Nat.le_of_ble_eq_true rfl)
theorem hwsX0_grey : ∀ w ∈ u_ws RX0 TX0 16, w ∈ wsX0_grey := by decide +kernel
theorem kX0_grey_18 : Cond.fieldLink RX0 18 "SheetRows" (TX0 0).2.1 (TX0 0).2.2.1 ∈ wsX0_grey := by decide +kernel
theorem kX0_grey_25 : Cond.fieldLink RX0 25 "SheetRows" (TX0 2).2.1 (TX0 2).2.2.1 ∈ wsX0_grey := by decide +kernel
abbrev rmX0_greyT : Room := { frames := 7, cells := 1, slots := 6, locals := 120 }
set_option maxHeartbeats 4000000 in
set_option maxRecDepth 100000 in
theorem ctX0_grey_T (l : Launch) (D : va_G) (cB cI cZ cL : ClassId) (ad : Nat → Nat) (w h : Nat) (hs : Sz w h) (aG aS : Nat) (G S CB SB DK DR RE PF PK CO : Nat → Int) (rc pn kn cn : Int) (hl9 : l.stackTraces = false) (x y : Int) (hx : -2147483648 ≤ x ∧ x ≤ 2147483647) (hy : -2147483648 ≤ y ∧ y ≤ 2147483647) (hon : ¬ (0 ≤ x ∧ x < (w : Int) ∧ 0 ≤ y ∧ y < (h : Int))) : mT l yX0_grey wsX0_grey rmX0_greyT D vwCl (tyl cB cI cZ cL) [.ref (ad 0), .int (zI x), .int (zI y)] (wX cB cI cZ ad w h aG aS G S CB SB DK DR RE PF PK CO rc pn kn cn) := by
  have hm := hs.mul
  obtain ⟨h1, h2, h3, h4⟩ := id hs
  refine mT_of (own := RX0) rfl (by decide) rfl (Nat.le_of_ble_eq_true rfl) ?_
  intro p e s m args below meth c C hD hlocks hem hXP
  show JR p l e rmX0_greyT s m args below meth c _ 3 0 [(0, .ref (ad 0)), (1, .int (zI x)), (2, .int (zI y))] []
  refine r_aload_n C eX0_grey_0 0 rfl ?_
  refine r_iload_n C eX0_grey_1 1 rfl ?_
  refine r_iload_n C eX0_grey_2 2 rfl ?_
  refine r_callV C (As := [.int (zI x), .int (zI y)]) (rest := []) hD (ctX0_isOnSheet_R l D cB cI cZ cL ad w h hs aG aS G S CB SB DK DR RE PF PK CO rc pn kn cn x y hx hy hon) (cwV 2 C.1.2.2.2.2 gX0_grey_X0_isOnSheet rfl rfl rfl (by decide +kernel) ⟨Nat.le_of_ble_eq_true rfl, Nat.le_of_ble_eq_true rfl⟩) 0 rfl rfl rfl rfl (Nat.le_of_ble_eq_true rfl) eX0_grey_3 (fun z hz => ?_)
  subst hz
  refine r_if_ne C 19 eX0_grey_6 (by decide) (by omega) (fun c6 => ?_) (fun c6 => ?_)
  ·
    exact absurd c6 (by omega)
  ·
    exact r_throw C rfl hl9 hXP hem hlocks hXP.2.1 (by decide +kernel) (by decide +kernel) (by decide +kernel) eX0_grey_9 eX0_grey_12 eX0_grey_13 eX0_grey_15 eX0_grey_18 (Nat.le_of_ble_eq_true rfl) (Nat.le_of_ble_eq_true rfl) (Nat.le_of_ble_eq_true rfl) (Nat.le_of_ble_eq_true rfl)
theorem hwsX0_octet : ∀ w ∈ u_ws RX0 TX0 16, w ∈ wsX0_octet := by decide +kernel
theorem kX0_octet_52 : Cond.fieldLink RX0 52 "SheetRows" (TX0 12).2.1 (TX0 12).2.2.1 ∈ wsX0_octet := by decide +kernel
theorem kX0_octet_108 : Cond.fieldLink RX0 108 "SheetRows" (TX0 13).2.1 (TX0 13).2.2.1 ∈ wsX0_octet := by decide +kernel
abbrev rmX0_octetT : Room := { frames := 7, cells := 1, slots := 6, locals := 120 }
set_option maxHeartbeats 4000000 in
set_option maxRecDepth 100000 in
theorem ctX0_octet_T (l : Launch) (D : va_G) (cB cI cZ cL : ClassId) (ad : Nat → Nat) (w h : Nat) (hs : Sz w h) (aG aS : Nat) (G S CB SB DK DR RE PF PK CO : Nat → Int) (rc pn kn cn : Int) (hl9 : l.stackTraces = false) (i : Int) (hi : -2147483648 ≤ i ∧ i ≤ 2147483647) (hk : 0 ≤ kn ∧ kn ≤ 5000) (hno : ¬ (0 ≤ i ∧ i < kn)) : mT l yX0_octet wsX0_octet rmX0_octetT D vwCl (tyl cB cI cZ cL) [.ref (ad 0), .int (zI i)] (wX cB cI cZ ad w h aG aS G S CB SB DK DR RE PF PK CO rc pn kn cn) := by
  have hm := hs.mul
  obtain ⟨h1, h2, h3, h4⟩ := id hs
  refine mT_of (own := RX0) rfl (by decide) rfl (Nat.le_of_ble_eq_true rfl) ?_
  intro p e s m args below meth c C hD hlocks hem hXP
  show JR p l e rmX0_octetT s m args below meth c _ 2 0 [(0, .ref (ad 0)), (1, .int (zI i))] []
  refine r_iload_n C eX0_octet_0 1 rfl ?_
  refine r_if_lt C 12 eX0_octet_1 (by decide) (by omega) (fun c1 => ?_) (fun c1 => ?_)
  ·
    exact r_throw C rfl hl9 hXP hem hlocks hXP.2.2 (by decide +kernel) (by decide +kernel) (by decide +kernel) eX0_octet_12 eX0_octet_15 eX0_octet_16 eX0_octet_18 eX0_octet_21 (Nat.le_of_ble_eq_true rfl) (Nat.le_of_ble_eq_true rfl) (Nat.le_of_ble_eq_true rfl) (Nat.le_of_ble_eq_true rfl)
  ·
    refine r_iload_n C eX0_octet_4 1 rfl ?_
    refine r_aload_n C eX0_octet_5 0 rfl ?_
    refine r_getf C hwsX0_octet 0 rfl rfl 13 (by decide) kX0_octet_108 rfl rfl eX0_octet_6 ?_
    refine r_icmp_lt C 22 eX0_octet_9 (by decide) (by omega) (by omega) (fun c9 => ?_) (fun c9 => ?_)
    ·
      exact absurd hno (by omega)
    ·
      exact r_throw C rfl hl9 hXP hem hlocks hXP.2.2 (by decide +kernel) (by decide +kernel) (by decide +kernel) eX0_octet_12 eX0_octet_15 eX0_octet_16 eX0_octet_18 eX0_octet_21 (Nat.le_of_ble_eq_true rfl) (Nat.le_of_ble_eq_true rfl) (Nat.le_of_ble_eq_true rfl) (Nat.le_of_ble_eq_true rfl)
abbrev rmX0_put : Room := { frames := 1, cells := 0, slots := 0, locals := 22 }
set_option maxHeartbeats 4000000 in
set_option maxRecDepth 100000 in
theorem ctX0_put (l : Launch) (D : va_G) (cB cI cZ cL : ClassId) (ad : Nat → Nat) (w h : Nat) (hs : Sz w h) (aG aS : Nat) (G S CB SB DK DR RE PF PK CO : Nat → Int) (rc pn kn cn : Int) (x y : Nat) (hx : x < w) (hy : y < h) (v : Int) (hv : -128 ≤ v ∧ v ≤ 127) : mV l yX0_put wsX0_put rmX0_put D vwCl (tyl cB cI cZ cL) [.ref (ad 0), .int (zI (x : Int)), .int (zI (y : Int)), .int (zI v)] (wX cB cI cZ ad w h aG aS G S CB SB DK DR RE PF PK CO rc pn kn cn) 0 0 (fun w1 => w1 = wX cB cI cZ ad w h aG aS (zup G (y * w + x) v) S CB SB DK DR RE PF PK CO rc pn kn cn) := by
  refine mV_of (own := RX0) rfl (by decide) rfl (Nat.le_of_ble_eq_true rfl) ?_
  intro p e s m args below meth c C hr hlocks hname
  show J p l e rmX0_put s m args below meth c _ 4 D vwCl _ 0 [(0, .ref (ad 0)), (1, .int (zI (x : Int))), (2, .int (zI (y : Int))), (3, .int (zI v))] [] (wX cB cI cZ ad w h aG aS G S CB SB DK DR RE PF PK CO rc pn kn cn) 0 0
  have hm := hs.mul
  obtain ⟨h1, h2, h3, h4⟩ := id hs
  have h7 := ix_lt (w := w) (h := h) (x := x) (y := y) hx hy
  refine j_aload_n C eX0_put_0 0 rfl ?_
  refine j_iload_n C eX0_put_1 1 rfl ?_
  refine j_iload_n C eX0_put_2 2 rfl ?_
  refine j_callVi C (As := [.int (zI (x : Int)), .int (zI (y : Int))]) (rest := []) (ctX0_isOnSheet l D cB cI cZ cL ad w h hs aG aS G S CB SB DK DR RE PF PK CO rc pn kn cn (x : Int) (y : Int) (by omega) (by omega)) (cwV 2 C.1.2.2.2.2 gX0_put_X0_isOnSheet rfl rfl rfl (by decide +kernel) ⟨Nat.le_of_ble_eq_true rfl, Nat.le_of_ble_eq_true rfl⟩) [0, 1, 2, 3, 4, 5, 6, 7, 8, 9, 10] [] (wr := []) rfl (by decide) rfl (by decide) (by decide) 0 rfl rfl rfl rfl (Nat.le_of_ble_eq_true rfl) eX0_put_3 ⟨Nat.le_of_ble_eq_true rfl, Nat.le_of_ble_eq_true rfl⟩ (fun z w1 hp => ?_)
  obtain ⟨rfl, rfl⟩ := hp
  rw [if_pos (by omega)]
  rw [List.nil_append]
  refine j_if_ne C 19 eX0_put_6 (by decide) (by omega) (fun c6 => ?_) (fun c6 => ?_)
  ·
    refine j_aload_n C eX0_put_19 0 rfl ?_
    refine j_getf C hwsX0_put 0 rfl rfl 2 (by decide) kX0_put_25 rfl rfl eX0_put_20 ?_
    refine j_iload_n C eX0_put_23 2 rfl ?_
    refine j_aload_n C eX0_put_24 0 rfl ?_
    refine j_getf C hwsX0_put 0 rfl rfl 0 (by decide) kX0_put_18 rfl rfl eX0_put_25 ?_
    refine j_imul C eX0_put_28 ?_
    refine j_iload_n C eX0_put_29 1 rfl ?_
    refine j_iadd C eX0_put_30 ?_
    refine j_iload_n C eX0_put_31 3 rfl ?_
    refine j_bast C 1 0 rfl rfl (y * w + x) (by push_cast; rfl) h7 (by omega) (nar_b hv) eX0_put_32 (wd' := wX cB cI cZ ad w h aG aS (zup G (y * w + x) v) S CB SB DK DR RE PF PK CO rc pn kn cn) rfl ?_
    exact j_vret C hr hlocks eX0_put_33 rfl
  ·
    exact absurd c6 (by omega)
abbrev rmX0_grey : Room := { frames := 1, cells := 0, slots := 0, locals := 22 }
set_option maxHeartbeats 4000000 in
set_option maxRecDepth 100000 in
theorem ctX0_grey (l : Launch) (D : va_G) (cB cI cZ cL : ClassId) (ad : Nat → Nat) (w h : Nat) (hs : Sz w h) (aG aS : Nat) (G S CB SB DK DR RE PF PK CO : Nat → Int) (rc pn kn cn : Int) (x y : Nat) (hx : x < w) (hy : y < h) : mI l yX0_grey wsX0_grey rmX0_grey D vwCl (tyl cB cI cZ cL) [.ref (ad 0), .int (zI (x : Int)), .int (zI (y : Int))] (wX cB cI cZ ad w h aG aS G S CB SB DK DR RE PF PK CO rc pn kn cn) 0 0 (fun z w1 => w1 = wX cB cI cZ ad w h aG aS G S CB SB DK DR RE PF PK CO rc pn kn cn ∧ z = G (y * w + x) % 256) := by
  refine mI_of (own := RX0) rfl (by decide) rfl (Nat.le_of_ble_eq_true rfl) ?_
  intro p e s m args below meth c C hr hlocks hname
  show J p l e rmX0_grey s m args below meth c _ 3 D vwCl _ 0 [(0, .ref (ad 0)), (1, .int (zI (x : Int))), (2, .int (zI (y : Int)))] [] (wX cB cI cZ ad w h aG aS G S CB SB DK DR RE PF PK CO rc pn kn cn) 0 0
  have hm := hs.mul
  obtain ⟨h1, h2, h3, h4⟩ := id hs
  have h7 := ix_lt (w := w) (h := h) (x := x) (y := y) hx hy
  refine j_aload_n C eX0_grey_0 0 rfl ?_
  refine j_iload_n C eX0_grey_1 1 rfl ?_
  refine j_iload_n C eX0_grey_2 2 rfl ?_
  refine j_callVi C (As := [.int (zI (x : Int)), .int (zI (y : Int))]) (rest := []) (ctX0_isOnSheet l D cB cI cZ cL ad w h hs aG aS G S CB SB DK DR RE PF PK CO rc pn kn cn (x : Int) (y : Int) (by omega) (by omega)) (cwV 2 C.1.2.2.2.2 gX0_grey_X0_isOnSheet rfl rfl rfl (by decide +kernel) ⟨Nat.le_of_ble_eq_true rfl, Nat.le_of_ble_eq_true rfl⟩) [0, 1, 2, 3, 4, 5, 6, 7, 8, 9, 10] [] (wr := []) rfl (by decide) rfl (by decide) (by decide) 0 rfl rfl rfl rfl (Nat.le_of_ble_eq_true rfl) eX0_grey_3 ⟨Nat.le_of_ble_eq_true rfl, Nat.le_of_ble_eq_true rfl⟩ (fun z w1 hp => ?_)
  obtain ⟨rfl, rfl⟩ := hp
  rw [if_pos (by omega)]
  rw [List.nil_append]
  refine j_if_ne C 19 eX0_grey_6 (by decide) (by omega) (fun c6 => ?_) (fun c6 => ?_)
  ·
    refine j_aload_n C eX0_grey_19 0 rfl ?_
    refine j_getf C hwsX0_grey 0 rfl rfl 2 (by decide) kX0_grey_25 rfl rfl eX0_grey_20 ?_
    refine j_iload_n C eX0_grey_23 2 rfl ?_
    refine j_aload_n C eX0_grey_24 0 rfl ?_
    refine j_getf C hwsX0_grey 0 rfl rfl 0 (by decide) kX0_grey_18 rfl rfl eX0_grey_25 ?_
    refine j_imul C eX0_grey_28 ?_
    refine j_iload_n C eX0_grey_29 1 rfl ?_
    refine j_iadd C eX0_grey_30 ?_
    refine j_bald C 1 0 rfl rfl (y * w + x) (by push_cast; rfl) h7 (by omega) eX0_grey_31 ?_
    refine j_sipush C eX0_grey_32 (by decide +kernel) ?_
    refine j_and255 C eX0_grey_35 ?_
    exact j_iret C hr hlocks rfl eX0_grey_36 ⟨rfl, rfl⟩
  ·
    exact absurd c6 (by omega)
abbrev rmX0_octet : Room := { frames := 0, cells := 0, slots := 0, locals := 0 }
set_option maxHeartbeats 4000000 in
set_option maxRecDepth 100000 in
theorem ctX0_octet (l : Launch) (D : va_G) (cB cI cZ cL : ClassId) (ad : Nat → Nat) (w h : Nat) (hs : Sz w h) (aG aS : Nat) (G S CB SB DK DR RE PF PK CO : Nat → Int) (rc pn kn cn : Int) (i : Nat) (hi : (i : Int) < kn) (hk : kn ≤ ((2 * (w * h) : Nat) : Int)) (hb : -128 ≤ PK i ∧ PK i ≤ 127) : mI l yX0_octet wsX0_octet rmX0_octet D vwCl (tyl cB cI cZ cL) [.ref (ad 0), .int (zI (i : Int))] (wX cB cI cZ ad w h aG aS G S CB SB DK DR RE PF PK CO rc pn kn cn) 0 0 (fun z w1 => w1 = wX cB cI cZ ad w h aG aS G S CB SB DK DR RE PF PK CO rc pn kn cn ∧ z = PK i) := by
  refine mI_of (own := RX0) rfl (by decide) rfl (Nat.le_of_ble_eq_true rfl) ?_
  intro p e s m args below meth c C hr hlocks hname
  show J p l e rmX0_octet s m args below meth c _ 2 D vwCl _ 0 [(0, .ref (ad 0)), (1, .int (zI (i : Int)))] [] (wX cB cI cZ ad w h aG aS G S CB SB DK DR RE PF PK CO rc pn kn cn) 0 0
  have hm := hs.mul
  refine j_iload_n C eX0_octet_0 1 rfl ?_
  refine j_if_lt C 12 eX0_octet_1 (by decide) (by omega) (fun c1 => ?_) (fun c1 => ?_)
  ·
    exact absurd c1 (by omega)
  ·
    refine j_iload_n C eX0_octet_4 1 rfl ?_
    refine j_aload_n C eX0_octet_5 0 rfl ?_
    refine j_getf C hwsX0_octet 0 rfl rfl 13 (by decide) kX0_octet_108 rfl rfl eX0_octet_6 ?_
    refine j_icmp_lt C 22 eX0_octet_9 (by decide) (by omega) (by omega) (fun c9 => ?_) (fun c9 => ?_)
    ·
      refine j_aload_n C eX0_octet_22 0 rfl ?_
      refine j_getf C hwsX0_octet 0 rfl rfl 12 (by decide) kX0_octet_52 rfl rfl eX0_octet_23 ?_
      refine j_iload_n C eX0_octet_26 1 rfl ?_
      refine j_bald C 9 0 rfl rfl i rfl (by omega) (by omega) eX0_octet_27 ?_
      exact j_iret C hr hlocks (nar_byte hb) eX0_octet_28 ⟨rfl, rfl⟩
    ·
      exact absurd c9 (by omega)
