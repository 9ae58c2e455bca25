/-! THE REFERENCE: part, shears, change -/
theorem hwsX1_part : ∀ w ∈ u_ws RX1 TX1 15, w ∈ wsX1_part := fun _ h => List.mem_cons_of_mem _ (List.mem_append_right _ h)
theorem kX1_part_25 : Cond.fieldLink RX1 25 "SheetRowsModel" (TX1 10).2.1 (TX1 10).2.2.1 ∈ wsX1_part := by decide +kernel
theorem kX1_part_45 : Cond.fieldLink RX1 45 "SheetRowsModel" (TX1 0).2.1 (TX1 0).2.2.1 ∈ wsX1_part := by decide +kernel
theorem kX1_part_75 : Cond.fieldLink RX1 75 "SheetRowsModel" (TX1 8).2.1 (TX1 8).2.2.1 ∈ wsX1_part := by decide +kernel
abbrev rmX1_part : Room := { frames := 0, cells := 0, slots := 0, locals := 0 }
set_option maxHeartbeats 4000000 in
set_option maxRecDepth 100000 in
theorem ctX1_part (l : Launch) (D : va_G) (cB cI cZ cL : ClassId) (bd : Nat → Nat) (w h : Nat) (hs : Sz w h) (G O CT LB FS TD PR BY : Nat → Int) (th pn kn cn : Int) (i what : Int) (hi : -2147483648 ≤ i ∧ i ≤ 2147483647) (hw : -2147483648 ≤ what ∧ what ≤ 2147483647) (hp : 0 ≤ pn ∧ pn ≤ 2304) : mI l yX1_part wsX1_part rmX1_part D vwCl (tyl cB cI cZ cL) [.ref (bd 0), .int (zI i), .int (zI what)] (wM cB cI bd w h G O CT LB FS TD PR BY th pn kn cn) 0 0 (fun z w1 => w1 = wM cB cI bd w h G O CT LB FS TD PR BY 0 pn kn cn ∧ z = if 0 ≤ i ∧ i < (pn : Int) ∧ 0 ≤ what ∧ what < 7 then TD (i.toNat * 7 + what.toNat) else -1) := by
  refine mI_of (own := RX1) rfl (by decide) rfl (Nat.le_of_ble_eq_true rfl) ?_
  intro p e s m args below meth c C hr hlocks hname
  show J p l e rmX1_part s m args below meth c _ 3 D vwCl _ 0 [(0, .ref (bd 0)), (1, .int (zI i)), (2, .int (zI what))] [] (wM cB cI bd w h G O CT LB FS TD PR BY th pn kn cn) 0 0
  refine j_aload_n C eX1_part_0 0 rfl ?_
  refine j_iconst C eX1_part_1 ?_
  refine j_putf C hwsX1_part tyX1 tyX1_ok nmX1 0 rfl rfl 0 (by decide) kX1_part_45 rfl rfl (tyX1_ok 0 (by decide)) rfl rfl (Nat.le_of_ble_eq_true rfl) eX1_part_2 (wd' := wM cB cI bd w h G O CT LB FS TD PR BY 0 pn kn cn) rfl ?_
  refine j_iload_n C eX1_part_5 1 rfl ?_
  refine j_if_lt C 27 eX1_part_6 (by decide) (by omega) (fun c6 => ?_) (fun c6 => ?_)
  ·
    refine j_iconst C eX1_part_27 ?_
    refine j_goto C 42 eX1_part_28 (by decide) ?_
    exact j_iret C hr hlocks rfl eX1_part_42 ⟨rfl, by rw [if_neg (by omega)]⟩
  ·
    refine j_iload_n C eX1_part_9 1 rfl ?_
    refine j_aload_n C eX1_part_10 0 rfl ?_
    refine j_getf C hwsX1_part 0 rfl rfl 8 (by decide) kX1_part_75 rfl rfl eX1_part_11 ?_
    refine j_icmp_ge C 27 eX1_part_14 (by decide) (by omega) (by omega) (fun c14 => ?_) (fun c14 => ?_)
    ·
      refine j_iconst C eX1_part_27 ?_
      refine j_goto C 42 eX1_part_28 (by decide) ?_
      exact j_iret C hr hlocks rfl eX1_part_42 ⟨rfl, by rw [if_neg (by omega)]⟩
    ·
      refine j_iload_n C eX1_part_17 2 rfl ?_
      refine j_if_lt C 27 eX1_part_18 (by decide) (by omega) (fun c18 => ?_) (fun c18 => ?_)
      ·
        refine j_iconst C eX1_part_27 ?_
        refine j_goto C 42 eX1_part_28 (by decide) ?_
        exact j_iret C hr hlocks rfl eX1_part_42 ⟨rfl, by rw [if_neg (by omega)]⟩
      ·
        refine j_iload_n C eX1_part_21 2 rfl ?_
        refine j_bipush C eX1_part_22 (by decide +kernel) ?_
        refine j_icmp_le C 31 eX1_part_24 (by decide) (by omega) (by omega) (fun c24 => ?_) (fun c24 => ?_)
        ·
          refine j_aload_n C eX1_part_31 0 rfl ?_
          refine j_getf C hwsX1_part 0 rfl rfl 10 (by decide) kX1_part_25 rfl rfl eX1_part_32 ?_
          refine j_bipush C eX1_part_35 (by decide +kernel) ?_
          refine j_iload_n C eX1_part_37 1 rfl ?_
          refine j_imul C eX1_part_38 ?_
          refine j_iload_n C eX1_part_39 2 rfl ?_
          refine j_iadd C eX1_part_40 ?_
          refine j_iald C 6 1 rfl rfl (i.toNat * 7 + what.toNat) (by omega) (by omega) (by omega) eX1_part_41 ?_
          exact j_iret C hr hlocks rfl eX1_part_42 ⟨rfl, by rw [if_pos (by omega)]⟩
        ·
          refine j_iconst C eX1_part_27 ?_
          refine j_goto C 42 eX1_part_28 (by decide) ?_
          exact j_iret C hr hlocks rfl eX1_part_42 ⟨rfl, by rw [if_neg (by omega)]⟩
theorem hwsX1_octet : ∀ w ∈ u_ws RX1 TX1 15, w ∈ wsX1_octet := fun _ h => List.mem_cons_of_mem _ (List.mem_append_right _ h)
theorem kX1_octet_28 : Cond.fieldLink RX1 28 "SheetRowsModel" (TX1 12).2.1 (TX1 12).2.2.1 ∈ wsX1_octet := by decide +kernel
theorem kX1_octet_92 : Cond.fieldLink RX1 92 "SheetRowsModel" (TX1 11).2.1 (TX1 11).2.2.1 ∈ wsX1_octet := by decide +kernel
abbrev rmX1_octet : Room := { frames := 1, cells := 0, slots := 0, locals := 21 }
set_option maxHeartbeats 4000000 in
set_option maxRecDepth 100000 in
theorem ctX1_octet_on (l : Launch) (D : va_G) (cB cI cZ cL : ClassId) (bd : Nat → Nat) (w h : Nat) (hs : Sz w h) (G O CT LB FS TD PR BY : Nat → Int) (th pn kn cn : Int) (i : Nat) (hi : (i : Int) < kn) (hk : kn ≤ 4608) (hb : -128 ≤ PR i ∧ PR i ≤ 127) : mI l yX1_octet wsX1_octet rmX1_octet D vwCl (tyl cB cI cZ cL) [.ref (bd 0), .int (zI (i : Int))] (wM cB cI bd w h G O CT LB FS TD PR BY th pn kn cn) 0 0 (fun z w1 => w1 = wM cB cI bd w h G O CT LB FS TD PR BY 0 pn kn cn ∧ z = PR i) := by
  refine mI_of (own := RX1) rfl (by decide) rfl (Nat.le_of_ble_eq_true rfl) ?_
  intro p e s m args below meth c C hr hlocks hname
  show J p l e rmX1_octet s m args below meth c _ 2 D vwCl _ 0 [(0, .ref (bd 0)), (1, .int (zI (i : Int)))] [] (wM cB cI bd w h G O CT LB FS TD PR BY th pn kn cn) 0 0
  refine j_aload_n C eX1_octet_0 0 rfl ?_
  refine j_iload_n C eX1_octet_1 1 rfl ?_
  refine j_if_lt C 13 eX1_octet_2 (by decide) (by omega) (fun c2 => ?_) (fun c2 => ?_)
  ·
    refine j_iconst C eX1_octet_13 ?_
    refine j_goto C 18 eX1_octet_14 (by decide) ?_
    exact absurd hi (by omega)
  ·
    refine j_iload_n C eX1_octet_5 1 rfl ?_
    refine j_aload_n C eX1_octet_6 0 rfl ?_
    refine j_getf C hwsX1_octet 0 rfl rfl 11 (by decide) kX1_octet_92 rfl rfl eX1_octet_7 ?_
    refine j_icmp_lt C 17 eX1_octet_10 (by decide) (by omega) (by omega) (fun c10 => ?_) (fun c10 => ?_)
    ·
      refine j_iconst C eX1_octet_17 ?_
      refine j_callVi C (As := [.int (zI 0)]) (rest := []) (ctX1_refused l D cB cI cZ cL bd w h hs G O CT LB FS TD PR BY th pn kn cn 0 (by omega)) (cwV 1 C.1.2.2.2.2 gX1_octet_X1_refused rfl rfl rfl (by decide +kernel) ⟨Nat.le_of_ble_eq_true rfl, Nat.le_of_ble_eq_true rfl⟩) [0, 1, 2, 3, 4, 5, 6, 7, 8] [] (wr := []) rfl (by decide) rfl (by decide) (by decide) 0 rfl rfl rfl rfl (Nat.le_of_ble_eq_true rfl) eX1_octet_18 ⟨Nat.le_of_ble_eq_true rfl, Nat.le_of_ble_eq_true rfl⟩ (fun z w1 hp => ?_)
      obtain ⟨rfl, rfl⟩ := hp
      rw [List.nil_append]
      refine j_if_eq C 28 eX1_octet_21 (by decide) (by omega) (fun c21 => ?_) (fun c21 => ?_)
      ·
        refine j_aload_n C eX1_octet_28 0 rfl ?_
        refine j_getf C hwsX1_octet 0 rfl rfl 12 (by decide) kX1_octet_28 rfl rfl eX1_octet_29 ?_
        refine j_iload_n C eX1_octet_32 1 rfl ?_
        refine j_bald C 7 0 rfl rfl i rfl (by omega) (by omega) eX1_octet_33 ?_
        exact j_iret C hr hlocks (nar_byte hb) eX1_octet_34 ⟨rfl, rfl⟩
      ·
        exact absurd c21 (by omega)
    ·
      refine j_iconst C eX1_octet_13 ?_
      refine j_goto C 18 eX1_octet_14 (by decide) ?_
      exact absurd hi (by omega)
set_option maxHeartbeats 4000000 in
set_option maxRecDepth 100000 in
theorem ctX1_octet_off (l : Launch) (D : va_G) (cB cI cZ cL : ClassId) (bd : Nat → Nat) (w h : Nat) (hs : Sz w h) (G O CT LB FS TD PR BY : Nat → Int) (th pn kn cn : Int) (i : Int) (hi : -2147483648 ≤ i ∧ i ≤ 2147483647) (hk : 0 ≤ kn ∧ kn ≤ 4608) (hno : ¬ (0 ≤ i ∧ i < kn)) : mI l yX1_octet wsX1_octet rmX1_octet D vwCl (tyl cB cI cZ cL) [.ref (bd 0), .int (zI i)] (wM cB cI bd w h G O CT LB FS TD PR BY th pn kn cn) 0 0 (fun z w1 => w1 = wM cB cI bd w h G O CT LB FS TD PR BY 1 pn kn cn ∧ z = 0) := by
  refine mI_of (own := RX1) rfl (by decide) rfl (Nat.le_of_ble_eq_true rfl) ?_
  intro p e s m args below meth c C hr hlocks hname
  show J p l e rmX1_octet s m args below meth c _ 2 D vwCl _ 0 [(0, .ref (bd 0)), (1, .int (zI i))] [] (wM cB cI bd w h G O CT LB FS TD PR BY th pn kn cn) 0 0
  refine j_aload_n C eX1_octet_0 0 rfl ?_
  refine j_iload_n C eX1_octet_1 1 rfl ?_
  refine j_if_lt C 13 eX1_octet_2 (by decide) (by omega) (fun c2 => ?_) (fun c2 => ?_)
  ·
    refine j_iconst C eX1_octet_13 ?_
    refine j_goto C 18 eX1_octet_14 (by decide) ?_
    refine j_callVi C (As := [.int (zI 1)]) (rest := []) (ctX1_refused l D cB cI cZ cL bd w h hs G O CT LB FS TD PR BY th pn kn cn 1 (by omega)) (cwV 1 C.1.2.2.2.2 gX1_octet_X1_refused rfl rfl rfl (by decide +kernel) ⟨Nat.le_of_ble_eq_true rfl, Nat.le_of_ble_eq_true rfl⟩) [0, 1, 2, 3, 4, 5, 6, 7, 8] [] (wr := []) rfl (by decide) rfl (by decide) (by decide) 0 rfl rfl rfl rfl (Nat.le_of_ble_eq_true rfl) eX1_octet_18 ⟨Nat.le_of_ble_eq_true rfl, Nat.le_of_ble_eq_true rfl⟩ (fun z w1 hp => ?_)
    obtain ⟨rfl, rfl⟩ := hp
    rw [List.nil_append]
    refine j_if_eq C 28 eX1_octet_21 (by decide) (by omega) (fun c21 => ?_) (fun c21 => ?_)
    ·
      exact absurd c21 (by omega)
    ·
      refine j_iconst C eX1_octet_24 ?_
      refine j_goto C 34 eX1_octet_25 (by decide) ?_
      exact j_iret C hr hlocks rfl eX1_octet_34 ⟨rfl, rfl⟩
  ·
    refine j_iload_n C eX1_octet_5 1 rfl ?_
    refine j_aload_n C eX1_octet_6 0 rfl ?_
    refine j_getf C hwsX1_octet 0 rfl rfl 11 (by decide) kX1_octet_92 rfl rfl eX1_octet_7 ?_
    refine j_icmp_lt C 17 eX1_octet_10 (by decide) (by omega) (by omega) (fun c10 => ?_) (fun c10 => ?_)
    ·
      refine j_iconst C eX1_octet_17 ?_
      exact absurd hno (by omega)
    ·
      refine j_iconst C eX1_octet_13 ?_
      refine j_goto C 18 eX1_octet_14 (by decide) ?_
      refine j_callVi C (As := [.int (zI 1)]) (rest := []) (ctX1_refused l D cB cI cZ cL bd w h hs G O CT LB FS TD PR BY th pn kn cn 1 (by omega)) (cwV 1 C.1.2.2.2.2 gX1_octet_X1_refused rfl rfl rfl (by decide +kernel) ⟨Nat.le_of_ble_eq_true rfl, Nat.le_of_ble_eq_true rfl⟩) [0, 1, 2, 3, 4, 5, 6, 7, 8] [] (wr := []) rfl (by decide) rfl (by decide) (by decide) 0 rfl rfl rfl rfl (Nat.le_of_ble_eq_true rfl) eX1_octet_18 ⟨Nat.le_of_ble_eq_true rfl, Nat.le_of_ble_eq_true rfl⟩ (fun z w1 hp => ?_)
      obtain ⟨rfl, rfl⟩ := hp
      rw [List.nil_append]
      refine j_if_eq C 28 eX1_octet_21 (by decide) (by omega) (fun c21 => ?_) (fun c21 => ?_)
      ·
        exact absurd c21 (by omega)
      ·
        refine j_iconst C eX1_octet_24 ?_
        refine j_goto C 34 eX1_octet_25 (by decide) ?_
        exact j_iret C hr hlocks rfl eX1_octet_34 ⟨rfl, rfl⟩
theorem hwsX1_add : ∀ w ∈ u_ws RX1 TX1 15, w ∈ wsX1_add := fun _ h => List.mem_cons_of_mem _ (List.mem_append_right _ h)
theorem kX1_add_32 : Cond.fieldLink RX1 32 "SheetRowsModel" (TX1 14).2.1 (TX1 14).2.2.1 ∈ wsX1_add := by decide +kernel
theorem kX1_add_45 : Cond.fieldLink RX1 45 "SheetRowsModel" (TX1 0).2.1 (TX1 0).2.2.1 ∈ wsX1_add := by decide +kernel
theorem kX1_add_95 : Cond.fieldLink RX1 95 "SheetRowsModel" (TX1 13).2.1 (TX1 13).2.2.1 ∈ wsX1_add := by decide +kernel
abbrev rmX1_add : Room := { frames := 0, cells := 0, slots := 0, locals := 0 }
set_option maxHeartbeats 4000000 in
set_option maxRecDepth 100000 in
theorem ctX1_add (l : Launch) (D : va_G) (cB cI cZ cL : ClassId) (bd : Nat → Nat) (w h : Nat) (hs : Sz w h) (G O CT LB FS TD PR BY : Nat → Int) (th pn kn : Int) (k : Nat) (hk : k ≤ 5000) (v : Int) (hv : -128 ≤ v ∧ v ≤ 127) : mV l yX1_add wsX1_add rmX1_add D vwCl (tyl cB cI cZ cL) [.ref (bd 0), .int (zI v)] (wM cB cI bd w h G O CT LB FS TD PR BY th pn kn (k : Int)) 0 0 (fun w1 => w1 = if k < 5000 then wM cB cI bd w h G O CT LB FS TD PR (zup BY k v) 0 pn kn ((k : Int) + 1) else wM cB cI bd w h G O CT LB FS TD PR BY 0 pn kn (k : Int)) := by
  refine mV_of (own := RX1) rfl (by decide) rfl (Nat.le_of_ble_eq_true rfl) ?_
  intro p e s m args below meth c C hr hlocks hname
  show J p l e rmX1_add s m args below meth c _ 2 D vwCl _ 0 [(0, .ref (bd 0)), (1, .int (zI v))] [] (wM cB cI bd w h G O CT LB FS TD PR BY th pn kn (k : Int)) 0 0
  refine j_aload_n C eX1_add_0 0 rfl ?_
  refine j_iconst C eX1_add_1 ?_
  refine j_putf C hwsX1_add tyX1 tyX1_ok nmX1 0 rfl rfl 0 (by decide) kX1_add_45 rfl rfl (tyX1_ok 0 (by decide)) rfl rfl (Nat.le_of_ble_eq_true rfl) eX1_add_2 (wd' := wM cB cI bd w h G O CT LB FS TD PR BY 0 pn kn (k : Int)) rfl ?_
  refine j_aload_n C eX1_add_5 0 rfl ?_
  refine j_getf C hwsX1_add 0 rfl rfl 13 (by decide) kX1_add_95 rfl rfl eX1_add_6 ?_
  refine j_sipush C eX1_add_9 (by decide +kernel) ?_
  refine j_icmp_ge C 35 eX1_add_12 (by decide) (by omega) (by omega) (fun c12 => ?_) (fun c12 => ?_)
  ·
    exact j_vret C hr hlocks eX1_add_35 (by rw [if_neg (by omega)])
  ·
    refine j_aload_n C eX1_add_15 0 rfl ?_
    refine j_getf C hwsX1_add 0 rfl rfl 14 (by decide) kX1_add_32 rfl rfl eX1_add_16 ?_
    refine j_aload_n C eX1_add_19 0 rfl ?_
    refine j_getf C hwsX1_add 0 rfl rfl 13 (by decide) kX1_add_95 rfl rfl eX1_add_20 ?_
    refine j_iload_n C eX1_add_23 1 rfl ?_
    refine j_bast C 8 0 rfl rfl k rfl (by omega) (by omega) (nar_b (by omega)) eX1_add_24 (wd' := wM cB cI bd w h G O CT LB FS TD PR (zup BY k v) 0 pn kn (k : Int)) rfl ?_
    refine j_aload_n C eX1_add_25 0 rfl ?_
    refine j_dup C eX1_add_26 rfl ?_
    refine j_getf C hwsX1_add 0 rfl rfl 13 (by decide) kX1_add_95 rfl rfl eX1_add_27 ?_
    refine j_iconst C eX1_add_30 ?_
    refine j_iadd C eX1_add_31 ?_
    refine j_putf C hwsX1_add tyX1 tyX1_ok nmX1 0 rfl rfl 13 (by decide) kX1_add_95 rfl rfl (tyX1_ok 13 (by decide)) rfl rfl (Nat.le_of_ble_eq_true rfl) eX1_add_32 (wd' := wM cB cI bd w h G O CT LB FS TD PR (zup BY k v) 0 pn kn ((k : Int) + 1)) rfl ?_
    exact j_vret C hr hlocks eX1_add_35 (by rw [if_pos (by omega)])
theorem hwsX1_rowOf : ∀ w ∈ u_ws RX1 TX1 15, w ∈ wsX1_rowOf := fun _ h => List.mem_cons_of_mem _ (List.mem_append_right _ h)
theorem kX1_rowOf_39 : Cond.fieldLink RX1 39 "SheetRowsModel" (TX1 2).2.1 (TX1 2).2.2.1 ∈ wsX1_rowOf := by decide +kernel
abbrev rmX1_rowOf : Room := { frames := 0, cells := 0, slots := 0, locals := 0 }
theorem row_eq {h : Nat} (hh : 1 ≤ h) (b : Int) (x y : Nat) : ((y : Int) + b * (x : Int) / 32) % (h : Int) = (((y + shr h b x) % h : Nat) : Int) := by
  have h1 : ((shr h b x : Nat) : Int) = (b * (x : Int) / 32) % (h : Int) := Int.toNat_of_nonneg (Int.emod_nonneg _ (by omega))
  rw [Int.natCast_emod, Int.natCast_add, h1, Int.add_emod_emod]
set_option maxHeartbeats 4000000 in
set_option maxRecDepth 100000 in
theorem ctX1_rowOf (l : Launch) (D : va_G) (cB cI cZ cL : ClassId) (bd : Nat → Nat) (w h : Nat) (hs : Sz w h) (G O CT LB FS TD PR BY : Nat → Int) (th pn kn cn : Int) (x y : Nat) (hx : x < w) (hy : y < h) (b : Int) (hb : -100 ≤ b ∧ b ≤ 100) : mI l yX1_rowOf wsX1_rowOf rmX1_rowOf D vwCl (tyl cB cI cZ cL) [.ref (bd 0), .int (zI (x : Int)), .int (zI (y : Int)), .int (zI b)] (wM cB cI bd w h G O CT LB FS TD PR BY th pn kn cn) 0 0 (fun z w1 => w1 = wM cB cI bd w h G O CT LB FS TD PR BY th pn kn cn ∧ z = (((y + shr h b x) % h : Nat) : Int)) := by
  refine mI_of (own := RX1) rfl (by decide) rfl (Nat.le_of_ble_eq_true rfl) ?_
  intro p e s m args below meth c C hr hlocks hname
  show J p l e rmX1_rowOf s m args below meth c _ 5 D vwCl _ 0 [(0, .ref (bd 0)), (1, .int (zI (x : Int))), (2, .int (zI (y : Int))), (3, .int (zI b))] [] (wM cB cI bd w h G O CT LB FS TD PR BY th pn kn cn) 0 0
  obtain ⟨h1, h2, h3, h4⟩ := id hs
  have hbx : -4800 ≤ b * (x : Int) ∧ b * (x : Int) ≤ 4800 := by
    have hx2 : (x : Int) ≤ 48 := by omega
    have hx3 : (0 : Int) ≤ (x : Int) := by omega
    constructor
    · have := Int.mul_le_mul_of_nonneg_right (a := -100) (b := b) (c := (x : Int)) hb.1 hx3
      omega
    · have := Int.mul_le_mul_of_nonneg_right (a := b) (b := 100) (c := (x : Int)) hb.2 hx3
      omega
  obtain ⟨a9, ha9⟩ : ∃ a9 : Int, a9 = (y : Int) + b * (x : Int) / 32 := ⟨_, rfl⟩
  have hra : -200 ≤ a9 ∧ a9 ≤ 200 := by omega
  have hfm := fl_mod (a := a9) (b := (h : Int)) (by omega)
  have hre := row_eq h3 b x y
  rw [← ha9] at hre
  refine j_iload_n C eX1_rowOf_0 2 rfl ?_
  refine j_iload_n C eX1_rowOf_1 3 rfl ?_
  refine j_iload_n C eX1_rowOf_2 1 rfl ?_
  refine j_imul C eX1_rowOf_3 ?_
  refine j_iconst C eX1_rowOf_4 ?_
  refine j_shr5 C eX1_rowOf_5 (by omega) ?_
  refine j_iadd C eX1_rowOf_6 ?_
  refine j_aload_n C eX1_rowOf_7 0 rfl ?_
  refine j_getf C hwsX1_rowOf 0 rfl rfl 2 (by decide) kX1_rowOf_39 rfl rfl eX1_rowOf_8 ?_
  rw [← ha9]
  refine j_irem C eX1_rowOf_11 (by omega) (by omega) ?_
  refine j_istore C eX1_rowOf_12 rfl (by decide) (lv' := [(0, .ref (bd 0)), (1, .int (zI (x : Int))), (2, .int (zI (y : Int))), (3, .int (zI b)), (4, .int (zI (a9.tmod (h : Int))))]) rfl ?_
  refine j_iload C eX1_rowOf_14 4 rfl ?_
  refine j_if_ge C 29 eX1_rowOf_16 (by decide) (by omega) (fun c16 => ?_) (fun c16 => ?_)
  ·
    refine j_iload C eX1_rowOf_29 4 rfl ?_
    exact j_iret C hr hlocks rfl eX1_rowOf_31 ⟨rfl, by rw [← hre]; exact fl_mod2 (by omega) (by omega) (by omega)⟩
  ·
    refine j_iload C eX1_rowOf_19 4 rfl ?_
    refine j_aload_n C eX1_rowOf_21 0 rfl ?_
    refine j_getf C hwsX1_rowOf 0 rfl rfl 2 (by decide) kX1_rowOf_39 rfl rfl eX1_rowOf_22 ?_
    refine j_iadd C eX1_rowOf_25 ?_
    refine j_goto C 31 eX1_rowOf_26 (by decide) ?_
    exact j_iret C hr hlocks rfl eX1_rowOf_31 ⟨rfl, by rw [← hre]; exact fl_mod1 (by omega) (by omega) (by omega) (by omega)⟩
theorem hwsX1_change : ∀ w ∈ u_ws RX1 TX1 15, w ∈ wsX1_change := fun _ h => List.mem_cons_of_mem _ (List.mem_append_right _ h)
theorem kX1_change_7 : Cond.fieldLink RX1 7 "SheetRowsModel" (TX1 4).2.1 (TX1 4).2.2.1 ∈ wsX1_change := by decide +kernel
theorem kX1_change_13 : Cond.fieldLink RX1 13 "SheetRowsModel" (TX1 5).2.1 (TX1 5).2.2.1 ∈ wsX1_change := by decide +kernel
theorem kX1_change_42 : Cond.fieldLink RX1 42 "SheetRowsModel" (TX1 3).2.1 (TX1 3).2.2.1 ∈ wsX1_change := by decide +kernel
abbrev rmX1_change : Room := { frames := 0, cells := 0, slots := 0, locals := 0 }
set_option maxHeartbeats 4000000 in
set_option maxRecDepth 100000 in
theorem lpX1_change {p : Program} {l : Launch} {e : Env} {s : State} {m : MethodId} {args : Array Value} {below : List Frame} {meth : Method} {c : Code} {Q : State → Prop} {D : va_G} {A : Nat → Prop} {cB cI cZ cL : ClassId} {w h : Nat} {bd : Nat → Nat} {O CT LB FS TD PR BY : Nat → Int} {th pn kn cn : Int} (C : JC p m c cX1_change 3 s args wsX1_change RX1 D vwCl (tyl cB cI cZ cL) A) (hs : Sz w h) {G0 : Nat → Int} (hG : gry (w * h) G0) (hO : gry (w * h) O) (kx : ∀ G : Nat → Int, (∀ k, k < w * h → G k = O k) → J p l e rmX1_change s m args below meth c Q 3 D vwCl A 53 [(0, .ref (bd 0)), (1, .int (zI (dif G0 O (w * h)))), (2, .int (zI ((w * h) : Int)))] [] (wM cB cI bd w h G O CT LB FS TD PR BY th pn kn cn) 0 0) : ∀ (n i : Nat) (G : Nat → Int), i ≤ w * h → w * h - i < n → (∀ k, k < i → G k = O k) → (∀ k, i ≤ k → G k = G0 k) → J p l e rmX1_change s m args below meth c Q 3 D vwCl A 4 [(0, .ref (bd 0)), (1, .int (zI (dif G0 O i))), (2, .int (zI (i : Int)))] [] (wM cB cI bd w h G O CT LB FS TD PR BY th pn kn cn) 0 0 := by
  have hm := hs.mul
  intro n
  induction n with
  | zero => intro i G _ hn; exact absurd hn (Nat.not_lt_zero _)
  | succ n ih =>
    intro i G hi hn hA hB
    refine j_iload_n C eX1_change_4 2 rfl ?_
    refine j_aload_n C eX1_change_5 0 rfl ?_
    refine j_getf C hwsX1_change 0 rfl rfl 3 (by decide) kX1_change_42 rfl rfl eX1_change_6 ?_
    refine j_icmp_ge C 53 eX1_change_9 (by decide) (by omega) (by omega) (fun c9 => ?_) (fun c9 => ?_)
    ·
      have he : i = w * h := by omega
      subst he
      exact kx G hA
    ·
      have hgi := hG i (by omega)
      have hoi := hO i (by omega)
      have hgg := hB i (by omega)
      refine j_aload_n C eX1_change_12 0 rfl ?_
      refine j_getf C hwsX1_change 0 rfl rfl 5 (by decide) kX1_change_13 rfl rfl eX1_change_13 ?_
      refine j_iload_n C eX1_change_16 2 rfl ?_
      refine j_iald C 2 1 rfl rfl i rfl (by omega) (by omega) eX1_change_17 ?_
      refine j_aload_n C eX1_change_18 0 rfl ?_
      refine j_getf C hwsX1_change 0 rfl rfl 4 (by decide) kX1_change_7 rfl rfl eX1_change_19 ?_
      refine j_iload_n C eX1_change_22 2 rfl ?_
      refine j_iald C 1 1 rfl rfl i rfl (by omega) (by omega) eX1_change_23 ?_
      refine j_icmp_eq C 33 eX1_change_24 (by decide) (by omega) (by omega) (fun c24 => ?_) (fun c24 => ?_)
      ·
        refine j_iload_n C eX1_change_33 1 rfl ?_
        refine j_istore_n C eX1_change_34 rfl (by decide) (lv' := [(0, .ref (bd 0)), (1, .int (zI (dif G0 O i))), (2, .int (zI (i : Int)))]) rfl ?_
        refine j_aload_n C eX1_change_35 0 rfl ?_
        refine j_getf C hwsX1_change 0 rfl rfl 4 (by decide) kX1_change_7 rfl rfl eX1_change_36 ?_
        refine j_iload_n C eX1_change_39 2 rfl ?_
        refine j_aload_n C eX1_change_40 0 rfl ?_
        refine j_getf C hwsX1_change 0 rfl rfl 5 (by decide) kX1_change_13 rfl rfl eX1_change_41 ?_
        refine j_iload_n C eX1_change_44 2 rfl ?_
        refine j_iald C 2 1 rfl rfl i rfl (by omega) (by omega) eX1_change_45 ?_
        refine j_iast C 1 1 rfl rfl i rfl (by omega) (by omega) eX1_change_46 (wd' := wM cB cI bd w h (zup G i (O i)) O CT LB FS TD PR BY th pn kn cn) rfl ?_
        refine j_iinc C eX1_change_47 2 rfl rfl (by decide) (lv' := [(0, .ref (bd 0)), (1, .int (zI (dif G0 O i))), (2, .int (zI ((i : Int) + 1)))]) rfl ?_
        refine j_goto C 4 eX1_change_50 (by decide) ?_
        have e1 : dif G0 O (i + 1) = dif G0 O i + (if G0 i = O i then 0 else 1) := rfl
        rw [if_pos (by omega), Int.add_zero] at e1
        have hb := ih (i + 1) (zup G i (O i)) (by omega) (by omega) (fun k hk => by
          by_cases e : k = i
          · subst e; exact zup_s
          · rw [zup_n e]; exact hA k (by omega)) (fun k hk => by rw [zup_n (by omega)]; exact hB k (by omega))
        rw [e1] at hb
        exact hb
      ·
        refine j_iload_n C eX1_change_27 1 rfl ?_
        refine j_iconst C eX1_change_28 ?_
        refine j_iadd C eX1_change_29 ?_
        refine j_goto C 34 eX1_change_30 (by decide) ?_
        refine j_istore_n C eX1_change_34 rfl (by decide) (lv' := [(0, .ref (bd 0)), (1, .int (zI ((dif G0 O i) + 1))), (2, .int (zI (i : Int)))]) rfl ?_
        refine j_aload_n C eX1_change_35 0 rfl ?_
        refine j_getf C hwsX1_change 0 rfl rfl 4 (by decide) kX1_change_7 rfl rfl eX1_change_36 ?_
        refine j_iload_n C eX1_change_39 2 rfl ?_
        refine j_aload_n C eX1_change_40 0 rfl ?_
        refine j_getf C hwsX1_change 0 rfl rfl 5 (by decide) kX1_change_13 rfl rfl eX1_change_41 ?_
        refine j_iload_n C eX1_change_44 2 rfl ?_
        refine j_iald C 2 1 rfl rfl i rfl (by omega) (by omega) eX1_change_45 ?_
        refine j_iast C 1 1 rfl rfl i rfl (by omega) (by omega) eX1_change_46 (wd' := wM cB cI bd w h (zup G i (O i)) O CT LB FS TD PR BY th pn kn cn) rfl ?_
        refine j_iinc C eX1_change_47 2 rfl rfl (by decide) (lv' := [(0, .ref (bd 0)), (1, .int (zI ((dif G0 O i) + 1))), (2, .int (zI ((i : Int) + 1)))]) rfl ?_
        refine j_goto C 4 eX1_change_50 (by decide) ?_
        have e1 : dif G0 O (i + 1) = dif G0 O i + (if G0 i = O i then 0 else 1) := rfl
        rw [if_neg (by omega)] at e1
        have hb := ih (i + 1) (zup G i (O i)) (by omega) (by omega) (fun k hk => by
          by_cases e : k = i
          · subst e; exact zup_s
          · rw [zup_n e]; exact hA k (by omega)) (fun k hk => by rw [zup_n (by omega)]; exact hB k (by omega))
        rw [e1] at hb
        exact hb
set_option maxHeartbeats 4000000 in
set_option maxRecDepth 100000 in
theorem ctX1_change (l : Launch) (D : va_G) (cB cI cZ cL : ClassId) (bd : Nat → Nat) (w h : Nat) (hs : Sz w h) (G O CT LB FS TD PR BY : Nat → Int) (th pn kn cn : Int) (hG : gry (w * h) G) (hO : gry (w * h) O) : mI l yX1_change wsX1_change rmX1_change D vwCl (tyl cB cI cZ cL) [.ref (bd 0)] (wM cB cI bd w h G O CT LB FS TD PR BY th pn kn cn) 0 0 (fun z w1 => ∃ G' : Nat → Int, (∀ k, k < w * h → G' k = O k) ∧ z = dif G O (w * h) ∧ w1 = wM cB cI bd w h G' O CT LB FS TD PR BY th pn kn cn) := by
  refine mI_of (own := RX1) rfl (by decide) rfl (Nat.le_of_ble_eq_true rfl) ?_
  intro p e s m args below meth c C hr hlocks hname
  show J p l e rmX1_change s m args below meth c _ 3 D vwCl _ 0 [(0, .ref (bd 0))] [] (wM cB cI bd w h G O CT LB FS TD PR BY th pn kn cn) 0 0
  refine j_iconst C eX1_change_0 ?_
  refine j_istore_n C eX1_change_1 rfl (by decide) (lv' := [(0, .ref (bd 0)), (1, .int (zI 0))]) rfl ?_
  refine j_iconst C eX1_change_2 ?_
  refine j_istore_n C eX1_change_3 rfl (by decide) (lv' := [(0, .ref (bd 0)), (1, .int (zI 0)), (2, .int (zI 0))]) rfl ?_
  refine lpX1_change C hs hG hO (fun G' hG' => ?_) (w * h + 1) 0 G (by omega) (by omega) (fun k hk => absurd hk (Nat.not_lt_zero _)) (fun _ _ => rfl)
  refine j_iload_n C eX1_change_53 1 rfl ?_
  exact j_iret C hr hlocks rfl eX1_change_54 ⟨G', hG', rfl, rfl⟩
theorem hwsX1_turn : ∀ w ∈ u_ws RX1 TX1 15, w ∈ wsX1_turn := fun _ h => List.mem_cons_of_mem _ (List.mem_append_right _ h)
theorem kX1_turn_7 : Cond.fieldLink RX1 7 "SheetRowsModel" (TX1 4).2.1 (TX1 4).2.2.1 ∈ wsX1_turn := by decide +kernel
theorem kX1_turn_13 : Cond.fieldLink RX1 13 "SheetRowsModel" (TX1 5).2.1 (TX1 5).2.2.1 ∈ wsX1_turn := by decide +kernel
theorem kX1_turn_35 : Cond.fieldLink RX1 35 "SheetRowsModel" (TX1 1).2.1 (TX1 1).2.2.1 ∈ wsX1_turn := by decide +kernel
theorem kX1_turn_42 : Cond.fieldLink RX1 42 "SheetRowsModel" (TX1 3).2.1 (TX1 3).2.2.1 ∈ wsX1_turn := by decide +kernel
theorem kX1_turn_45 : Cond.fieldLink RX1 45 "SheetRowsModel" (TX1 0).2.1 (TX1 0).2.2.1 ∈ wsX1_turn := by decide +kernel
abbrev rmX1_turn : Room := { frames := 1, cells := 0, slots := 0, locals := 24 }
set_option maxHeartbeats 4000000 in
set_option maxRecDepth 100000 in
theorem lpX1_turn {p : Program} {l : Launch} {e : Env} {s : State} {m : MethodId} {args : Array Value} {below : List Frame} {meth : Method} {c : Code} {Q : State → Prop} {D : va_G} {A : Nat → Prop} {cB cI cZ cL : ClassId} {w h : Nat} {bd : Nat → Nat} {G CT LB FS TD PR BY : Nat → Int} {th pn kn cn : Int} (C : JC p m c cX1_turn 3 s args wsX1_turn RX1 D vwCl (tyl cB cI cZ cL) A) (hs : Sz w h) {b : Int} (hb : -100 ≤ b ∧ b ≤ 100) (kx : ∀ O : Nat → Int, (∀ k, k < w * h → O ((k / w + shr h b (k % w)) % h * w + k % w) = G k) → J p l e rmX1_turn s m args below meth c Q 3 D vwCl A 75 [(0, .ref (bd 0)), (1, .int (zI b)), (2, .int (zI ((w * h) : Int)))] [] (wM cB cI bd w h G O CT LB FS TD PR BY th pn kn cn) 0 0) : ∀ (n i : Nat) (O : Nat → Int), i ≤ w * h → w * h - i < n → (∀ k, k < i → O ((k / w + shr h b (k % w)) % h * w + k % w) = G k) → J p l e rmX1_turn s m args below meth c Q 3 D vwCl A 21 [(0, .ref (bd 0)), (1, .int (zI b)), (2, .int (zI (i : Int)))] [] (wM cB cI bd w h G O CT LB FS TD PR BY th pn kn cn) 0 0 := by
  have hm := hs.mul
  obtain ⟨h1, h2, h3, h4⟩ := id hs
  intro n
  induction n with
  | zero => intro i G _ hn; exact absurd hn (Nat.not_lt_zero _)
  | succ n ih =>
    intro i O hi hn hO
    refine j_iload_n C eX1_turn_21 2 rfl ?_
    refine j_aload_n C eX1_turn_22 0 rfl ?_
    refine j_getf C hwsX1_turn 0 rfl rfl 3 (by decide) kX1_turn_42 rfl rfl eX1_turn_23 ?_
    refine j_icmp_ge C 75 eX1_turn_26 (by decide) (by omega) (by omega) (fun c26 => ?_) (fun c26 => ?_)
    ·
      have he : i = w * h := by omega
      subst he
      exact kx O hO
    ·
      have hil : i < w * h := by omega
      obtain ⟨e1, e2, e3⟩ := ix_of h1 hil
      have hrl : (i / w + shr h b (i % w)) % h < h := Nat.mod_lt _ (by omega)
      have h8 := ix_lt (w := w) (h := h) (x := i % w) (y := (i / w + shr h b (i % w)) % h) e2 hrl
      refine j_aload_n C eX1_turn_29 0 rfl ?_
      refine j_getf C hwsX1_turn 0 rfl rfl 5 (by decide) kX1_turn_13 rfl rfl eX1_turn_30 ?_
      refine j_aload_n C eX1_turn_33 0 rfl ?_
      refine j_getf C hwsX1_turn 0 rfl rfl 1 (by decide) kX1_turn_35 rfl rfl eX1_turn_34 ?_
      refine j_aload_n C eX1_turn_37 0 rfl ?_
      refine j_iload_n C eX1_turn_38 2 rfl ?_
      refine j_aload_n C eX1_turn_39 0 rfl ?_
      refine j_getf C hwsX1_turn 0 rfl rfl 1 (by decide) kX1_turn_35 rfl rfl eX1_turn_40 ?_
      refine j_irem C eX1_turn_43 (by omega) (by omega) ?_
      refine j_top (y := zI ((i % w : Nat) : Int)) (by rw [tm_nat]) ?_
      refine j_iload_n C eX1_turn_44 2 rfl ?_
      refine j_aload_n C eX1_turn_45 0 rfl ?_
      refine j_getf C hwsX1_turn 0 rfl rfl 1 (by decide) kX1_turn_35 rfl rfl eX1_turn_46 ?_
      refine j_idiv C eX1_turn_49 (by omega) (by omega) ?_
      refine j_top (y := zI ((i / w : Nat) : Int)) (by rw [td_nat]) ?_
      refine j_iload_n C eX1_turn_50 1 rfl ?_
      refine j_callVi C (As := [.int (zI ((i % w : Nat) : Int)), .int (zI ((i / w : Nat) : Int)), .int (zI b)]) (rest := [.int (zI (w : Int)), .ref (bd 5)]) (ctX1_rowOf l D cB cI cZ cL bd w h hs G O CT LB FS TD PR BY th pn kn cn (i % w) (i / w) e2 e1 b hb) (cwV 3 C.1.2.2.2.2 gX1_turn_X1_rowOf rfl rfl rfl (by decide +kernel) ⟨Nat.le_of_ble_eq_true rfl, Nat.le_of_ble_eq_true rfl⟩) [0, 1, 2, 3, 4, 5, 6, 7, 8] [] (wr := []) rfl (by decide) rfl (by decide) (by decide) 0 rfl rfl rfl rfl (Nat.le_of_ble_eq_true rfl) eX1_turn_51 ⟨Nat.le_of_ble_eq_true rfl, Nat.le_of_ble_eq_true rfl⟩ (fun z w1 hp => ?_)
      obtain ⟨rfl, rfl⟩ := hp
      rw [List.nil_append]
      refine j_imul C eX1_turn_54 ?_
      refine j_iload_n C eX1_turn_55 2 rfl ?_
      refine j_aload_n C eX1_turn_56 0 rfl ?_
      refine j_getf C hwsX1_turn 0 rfl rfl 1 (by decide) kX1_turn_35 rfl rfl eX1_turn_57 ?_
      refine j_irem C eX1_turn_60 (by omega) (by omega) ?_
      refine j_top (y := zI ((i % w : Nat) : Int)) (by rw [tm_nat]) ?_
      refine j_iadd C eX1_turn_61 ?_
      refine j_aload_n C eX1_turn_62 0 rfl ?_
      refine j_getf C hwsX1_turn 0 rfl rfl 4 (by decide) kX1_turn_7 rfl rfl eX1_turn_63 ?_
      refine j_iload_n C eX1_turn_66 2 rfl ?_
      refine j_iald C 1 1 rfl rfl i rfl (by omega) (by omega) eX1_turn_67 ?_
      refine j_iast C 2 1 rfl rfl ((i / w + shr h b (i % w)) % h * w + i % w) (by rw [Int.mul_comm]; push_cast; rfl) (by omega) (by omega) eX1_turn_68 (wd' := wM cB cI bd w h G (zup O ((i / w + shr h b (i % w)) % h * w + i % w) (G i)) CT LB FS TD PR BY th pn kn cn) rfl ?_
      refine j_iinc C eX1_turn_69 2 rfl rfl (by decide) (lv' := [(0, .ref (bd 0)), (1, .int (zI b)), (2, .int (zI ((i : Int) + 1)))]) rfl ?_
      refine j_goto C 21 eX1_turn_72 (by decide) ?_
      refine ih (i + 1) _ (by omega) (by omega) (fun k hk => ?_)
      by_cases e : k = i
      · subst e; exact zup_s
      · rw [zup_n, hO k (by omega)]
        intro z
        have hk2 : k < w * h := by omega
        obtain ⟨f1, f2, f3⟩ := ix_of h1 hk2
        obtain ⟨g1, g2⟩ := ix_inj f2 e2 z
        rw [g2] at g1
        have g3 := mod_add_inj f1 e1 g1
        apply e
        rw [← f3, ← e3, g3, g2]
set_option maxHeartbeats 4000000 in
set_option maxRecDepth 100000 in
theorem ctX1_turn (l : Launch) (D : va_G) (cB cI cZ cL : ClassId) (bd : Nat → Nat) (w h : Nat) (hs : Sz w h) (G O CT LB FS TD PR BY : Nat → Int) (th pn kn cn : Int) (b : Int) (hb : -2147483648 ≤ b ∧ b ≤ 2147483647) (hG : gry (w * h) G) : mI l yX1_turn wsX1_turn rmX1_turn D vwCl (tyl cB cI cZ cL) [.ref (bd 0), .int (zI b)] (wM cB cI bd w h G O CT LB FS TD PR BY th pn kn cn) 0 0 (fun z w1 => if -100 ≤ b ∧ b ≤ 100 then ∃ O' G' : Nat → Int, tnd w h G b w 0 O' ∧ (∀ k, k < w * h → G' k = O' k) ∧ z = dif G O' (w * h) ∧ w1 = wM cB cI bd w h G' O' CT LB FS TD PR BY 0 pn kn cn else z = -1 ∧ w1 = wM cB cI bd w h G O CT LB FS TD PR BY 0 pn kn cn) := by
  refine mI_of (own := RX1) rfl (by decide) rfl (Nat.le_of_ble_eq_true rfl) ?_
  intro p e s m args below meth c C hr hlocks hname
  show J p l e rmX1_turn s m args below meth c _ 3 D vwCl _ 0 [(0, .ref (bd 0)), (1, .int (zI b))] [] (wM cB cI bd w h G O CT LB FS TD PR BY th pn kn cn) 0 0
  have hm := hs.mul
  refine j_aload_n C eX1_turn_0 0 rfl ?_
  refine j_iconst C eX1_turn_1 ?_
  refine j_putf C hwsX1_turn tyX1 tyX1_ok nmX1 0 rfl rfl 0 (by decide) kX1_turn_45 rfl rfl (tyX1_ok 0 (by decide)) rfl rfl (Nat.le_of_ble_eq_true rfl) eX1_turn_2 (wd' := wM cB cI bd w h G O CT LB FS TD PR BY 0 pn kn cn) rfl ?_
  refine j_iload_n C eX1_turn_5 1 rfl ?_
  refine j_bipush C eX1_turn_6 (by decide +kernel) ?_
  refine j_icmp_lt C 17 eX1_turn_8 (by decide) (by omega) (by omega) (fun c8 => ?_) (fun c8 => ?_)
  ·
    refine j_iconst C eX1_turn_17 ?_
    exact j_iret C hr hlocks rfl eX1_turn_18 (by rw [if_neg (by omega)]; exact ⟨rfl, rfl⟩)
  ·
    refine j_iload_n C eX1_turn_11 1 rfl ?_
    refine j_bipush C eX1_turn_12 (by decide +kernel) ?_
    refine j_icmp_le C 19 eX1_turn_14 (by decide) (by omega) (by omega) (fun c14 => ?_) (fun c14 => ?_)
    ·
      refine j_iconst C eX1_turn_19 ?_
      refine j_istore_n C eX1_turn_20 rfl (by decide) (lv' := [(0, .ref (bd 0)), (1, .int (zI b)), (2, .int (zI 0))]) rfl ?_
      refine lpX1_turn C hs (b := b) (by omega) (fun O' hO' => ?_) (w * h + 1) 0 O (by omega) (by omega) (fun k hk => absurd hk (Nat.not_lt_zero _))
      have hT : tnd w h G b w 0 O' := fun x y hx hy _ => by
        have := hO' (y * w + x) (ix_lt hx hy)
        rw [ix_mod hx, ix_div hx] at this
        exact this
      have hO9 : gry (w * h) O' := fun k hk => by
        obtain ⟨e, hl⟩ := tnd_all hs hT hk
        rw [e]
        exact hG _ hl
      refine j_aload_n C eX1_turn_75 0 rfl ?_
      refine j_callVi C (As := []) (rest := []) (ctX1_change l D cB cI cZ cL bd w h hs G O' CT LB FS TD PR BY 0 pn kn cn hG hO9) (cwV 0 C.1.2.2.2.2 gX1_turn_X1_change rfl rfl rfl (by decide +kernel) ⟨Nat.le_of_ble_eq_true rfl, Nat.le_of_ble_eq_true rfl⟩) [0, 1, 2, 3, 4, 5, 6, 7, 8] [] (wr := []) rfl (by decide) rfl (by decide) (by decide) 0 rfl rfl rfl rfl (Nat.le_of_ble_eq_true rfl) eX1_turn_76 ⟨Nat.le_of_ble_eq_true rfl, Nat.le_of_ble_eq_true rfl⟩ (fun z w1 hp => ?_)
      obtain ⟨G', hG', rfl, rfl⟩ := hp
      rw [List.nil_append]
      exact j_iret C hr hlocks rfl eX1_turn_79 (by rw [if_pos (by omega)]; exact ⟨O', G', hT, hG', rfl, rfl⟩)
    ·
      refine j_iconst C eX1_turn_17 ?_
      exact j_iret C hr hlocks rfl eX1_turn_18 (by rw [if_neg (by omega)]; exact ⟨rfl, rfl⟩)
theorem hwsX1_skew : ∀ w ∈ u_ws RX1 TX1 15, w ∈ wsX1_skew := fun _ h => List.mem_cons_of_mem _ (List.mem_append_right _ h)
theorem kX1_skew_13 : Cond.fieldLink RX1 13 "SheetRowsModel" (TX1 5).2.1 (TX1 5).2.2.1 ∈ wsX1_skew := by decide +kernel
theorem kX1_skew_16 : Cond.fieldLink RX1 16 "SheetRowsModel" (TX1 6).2.1 (TX1 6).2.2.1 ∈ wsX1_skew := by decide +kernel
theorem kX1_skew_35 : Cond.fieldLink RX1 35 "SheetRowsModel" (TX1 1).2.1 (TX1 1).2.2.1 ∈ wsX1_skew := by decide +kernel
theorem kX1_skew_39 : Cond.fieldLink RX1 39 "SheetRowsModel" (TX1 2).2.1 (TX1 2).2.2.1 ∈ wsX1_skew := by decide +kernel
theorem kX1_skew_42 : Cond.fieldLink RX1 42 "SheetRowsModel" (TX1 3).2.1 (TX1 3).2.2.1 ∈ wsX1_skew := by decide +kernel
theorem kX1_skew_45 : Cond.fieldLink RX1 45 "SheetRowsModel" (TX1 0).2.1 (TX1 0).2.2.1 ∈ wsX1_skew := by decide +kernel
abbrev rmX1_skew : Room := { frames := 3, cells := 0, slots := 0, locals := 75 }
theorem sumN_app (F : Nat → Int) (a : Nat) : ∀ b, sumN F (a + b) = sumN F a + sumN (fun i => F (a + i)) b
  | 0 => (Int.add_zero _).symm
  | b + 1 => by
    show sumN F (a + b) + F (a + b) = sumN F a + (sumN (fun i => F (a + i)) b + F (a + b))
    rw [sumN_app F a b]; omega
theorem sumN_rows (F : Nat → Int) (w : Nat) : ∀ h, sumN F (h * w) = sumN (fun y => sumN (fun x => F (y * w + x)) w) h
  | 0 => by rw [Nat.zero_mul]; rfl
  | h + 1 => by
    rw [Nat.succ_mul, sumN_app, sumN_rows F w h]
    rfl
theorem sumN_swap (f : Nat → Nat → Int) (w : Nat) : ∀ h, sumN (fun y => sumN (fun x => f x y) w) h = sumN (fun x => sumN (fun y => f x y) h) w
  | 0 => by
    show (0 : Int) = sumN (fun x => 0) w
    rw [sumN_c, Int.zero_mul]
  | h + 1 => by
    show sumN (fun y => sumN (fun x => f x y) w) h + sumN (fun x => f x h) w = sumN (fun x => sumN (fun y => f x y) h + f x h) w
    rw [sumN_swap f w h, sumN_add]
/-- the reference's way through a sheet gives the same counts -/
theorem rwc_flat {w h : Nat} (D : Nat → Int) (hD : ∀ k, k < w * h → D k = 0 ∨ D k = 1) (b : Int) (r : Nat) : sumN (fun k => if (k / w + shr h b (k % w)) % h = r then D k else 0) (w * h) = rwc w h D b r := by
  rw [Nat.mul_comm w h, sumN_rows, sumN_congr (g := fun y => sumN (fun x => ccl w h D b r x y) w), sumN_swap]
  · rfl
  · intro y hy
    refine sumN_congr (fun x hx => ?_)
    rw [ix_mod hx, ix_div hx]
    unfold ccl
    have hd := hD _ (ix_lt hx hy)
    by_cases c : (y + shr h b x) % h = r
    · rw [if_pos c]
      by_cases d : D (y * w + x) = 1
      · rw [if_pos ⟨d, c⟩, d]
      · rw [if_neg (fun z => d z.1)]; omega
    · rw [if_neg c, if_neg (fun z => c z.2)]
/-- the leans in the reference's order -/
def sqb (k : Nat) : Int := if k % 2 = 0 then ((k / 2 : Nat) : Int) else -1 - ((k / 2 : Nat) : Int)
def bst (f : Int → Int) : Nat → Int
  | 0 => 0
  | k + 1 => pk2 f (bst f k) (sqb (k + 1))
theorem bst_skb (f : Int → Int) : ∀ j, bst f (2 * j) = skb f j
  | 0 => rfl
  | j + 1 => by
    show pk2 f (pk2 f (bst f (2 * j)) (sqb (2 * j + 1))) (sqb (2 * j + 1 + 1)) = pk2 f (pk2 f (skb f j) (-((j : Int) + 1))) ((j : Int) + 1)
    rw [bst_skb f j]
    have e1 : sqb (2 * j + 1) = -((j : Int) + 1) := by unfold sqb; rw [if_neg (by omega)]; omega
    have e2 : sqb (2 * j + 1 + 1) = (j : Int) + 1 := by unfold sqb; rw [if_pos (by omega)]; omega
    rw [e1, e2]
theorem sqb_in {k : Nat} (hk : k < 17) : -8 ≤ sqb k ∧ sqb k ≤ 8 := by unfold sqb; split <;> omega
set_option maxHeartbeats 4000000 in
set_option maxRecDepth 100000 in
theorem lqX1_skew {p : Program} {l : Launch} {e : Env} {s : State} {m : MethodId} {args : Array Value} {below : List Frame} {meth : Method} {c : Code} {Q : State → Prop} {D : va_G} {A : Nat → Prop} {cB cI cZ cL : ClassId} {w h : Nat} {bd : Nat → Nat} {G O LB FS TD PR BY : Nat → Int} {th pn kn cn : Int} (C : JC p m c cX1_skew 7 s args wsX1_skew RX1 D vwCl (tyl cB cI cZ cL) A) (hs : Sz w h) {be mo b : Int} {k : Nat} (kx : ∀ CT : Nat → Int, (∀ r, r < h → CT r = 0) → J p l e rmX1_skew s m args below meth c Q 7 D vwCl A 66 [(0, .ref (bd 0)), (1, .int (zI be)), (2, .int (zI mo)), (3, .int (zI (k : Int))), (4, .int (zI b)), (5, .int (zI (h : Int)))] [] (wM cB cI bd w h G O CT LB FS TD PR BY th pn kn cn) 0 0) : ∀ (n y : Nat) (CT : Nat → Int), y ≤ h → h - y < n → (∀ r, r < y → CT r = 0) → J p l e rmX1_skew s m args below meth c Q 7 D vwCl A 43 [(0, .ref (bd 0)), (1, .int (zI be)), (2, .int (zI mo)), (3, .int (zI (k : Int))), (4, .int (zI b)), (5, .int (zI (y : Int)))] [] (wM cB cI bd w h G O CT LB FS TD PR BY th pn kn cn) 0 0 := by
  obtain ⟨h1, h2, h3, h4⟩ := id hs
  intro n
  induction n with
  | zero => intro i G _ hn; exact absurd hn (Nat.not_lt_zero _)
  | succ n ih =>
    intro y CT hi hn hC
    refine j_iload C eX1_skew_43 5 rfl ?_
    refine j_aload_n C eX1_skew_45 0 rfl ?_
    refine j_getf C hwsX1_skew 0 rfl rfl 2 (by decide) kX1_skew_39 rfl rfl eX1_skew_46 ?_
    refine j_icmp_ge C 66 eX1_skew_49 (by decide) (by omega) (by omega) (fun c49 => ?_) (fun c49 => ?_)
    ·
      have he : y = h := by omega
      subst he
      exact kx CT hC
    ·
      refine j_aload_n C eX1_skew_52 0 rfl ?_
      refine j_getf C hwsX1_skew 0 rfl rfl 6 (by decide) kX1_skew_16 rfl rfl eX1_skew_53 ?_
      refine j_iload C eX1_skew_56 5 rfl ?_
      refine j_iconst C eX1_skew_58 ?_
      refine j_iast C 3 1 rfl rfl y rfl (by omega) (by omega) eX1_skew_59 (wd' := wM cB cI bd w h G O (zup CT y 0) LB FS TD PR BY th pn kn cn) rfl ?_
      refine j_iinc C eX1_skew_60 5 rfl rfl (by decide) (lv' := [(0, .ref (bd 0)), (1, .int (zI be)), (2, .int (zI mo)), (3, .int (zI (k : Int))), (4, .int (zI b)), (5, .int (zI ((y : Int) + 1)))]) rfl ?_
      refine j_goto C 43 eX1_skew_63 (by decide) ?_
      exact ih (y + 1) _ (by omega) (by omega) (fun v hv => by
        by_cases e : v = y
        · subst e; exact zup_s
        · rw [zup_n e]; exact hC v (by omega))
set_option maxHeartbeats 4000000 in
set_option maxRecDepth 100000 in
theorem lrX1_skew {p : Program} {l : Launch} {e : Env} {s : State} {m : MethodId} {args : Array Value} {below : List Frame} {meth : Method} {c : Code} {Q : State → Prop} {D : va_G} {A : Nat → Prop} {cB cI cZ cL : ClassId} {w h : Nat} {bd : Nat → Nat} {G O LB FS TD PR BY : Nat → Int} {th pn kn cn : Int} (C : JC p m c cX1_skew 7 s args wsX1_skew RX1 D vwCl (tyl cB cI cZ cL) A) (hs : Sz w h) {be mo b : Int} {k : Nat} (hb : -100 ≤ b ∧ b ≤ 100) (kx : ∀ CT : Nat → Int, (∀ r, r < h → CT r = sumN (fun k => if (k / w + shr h b (k % w)) % h = r then O k else 0) (w * h)) → J p l e rmX1_skew s m args below meth c Q 7 D vwCl A 119 [(0, .ref (bd 0)), (1, .int (zI be)), (2, .int (zI mo)), (3, .int (zI (k : Int))), (4, .int (zI b)), (5, .int (zI ((w * h) : Int)))] [] (wM cB cI bd w h G O CT LB FS TD PR BY th pn kn cn) 0 0) : ∀ (n i : Nat) (CT : Nat → Int), i ≤ w * h → w * h - i < n → (∀ r, r < h → CT r = sumN (fun k => if (k / w + shr h b (k % w)) % h = r then O k else 0) i) → J p l e rmX1_skew s m args below meth c Q 7 D vwCl A 69 [(0, .ref (bd 0)), (1, .int (zI be)), (2, .int (zI mo)), (3, .int (zI (k : Int))), (4, .int (zI b)), (5, .int (zI (i : Int)))] [] (wM cB cI bd w h G O CT LB FS TD PR BY th pn kn cn) 0 0 := by
  have hm := hs.mul
  obtain ⟨h1, h2, h3, h4⟩ := id hs
  intro n
  induction n with
  | zero => intro i G _ hn; exact absurd hn (Nat.not_lt_zero _)
  | succ n ih =>
    intro i CT hi hn hC
    refine j_iload C eX1_skew_69 5 rfl ?_
    refine j_aload_n C eX1_skew_71 0 rfl ?_
    refine j_getf C hwsX1_skew 0 rfl rfl 3 (by decide) kX1_skew_42 rfl rfl eX1_skew_72 ?_
    refine j_icmp_ge C 119 eX1_skew_75 (by decide) (by omega) (by omega) (fun c75 => ?_) (fun c75 => ?_)
    ·
      have he : i = w * h := by omega
      subst he
      exact kx CT hC
    ·
      have hil : i < w * h := by omega
      obtain ⟨e1, e2, e3⟩ := ix_of h1 hil
      have hrl : (i / w + shr h b (i % w)) % h < h := Nat.mod_lt _ (by omega)
      refine j_aload_n C eX1_skew_78 0 rfl ?_
      refine j_getf C hwsX1_skew 0 rfl rfl 6 (by decide) kX1_skew_16 rfl rfl eX1_skew_79 ?_
      refine j_aload_n C eX1_skew_82 0 rfl ?_
      refine j_iload C eX1_skew_83 5 rfl ?_
      refine j_aload_n C eX1_skew_85 0 rfl ?_
      refine j_getf C hwsX1_skew 0 rfl rfl 1 (by decide) kX1_skew_35 rfl rfl eX1_skew_86 ?_
      refine j_irem C eX1_skew_89 (by omega) (by omega) ?_
      refine j_top (y := zI ((i % w : Nat) : Int)) (by rw [tm_nat]) ?_
      refine j_iload C eX1_skew_90 5 rfl ?_
      refine j_aload_n C eX1_skew_92 0 rfl ?_
      refine j_getf C hwsX1_skew 0 rfl rfl 1 (by decide) kX1_skew_35 rfl rfl eX1_skew_93 ?_
      refine j_idiv C eX1_skew_96 (by omega) (by omega) ?_
      refine j_top (y := zI ((i / w : Nat) : Int)) (by rw [td_nat]) ?_
      refine j_iload C eX1_skew_97 4 rfl ?_
      refine j_callVi C (As := [.int (zI ((i % w : Nat) : Int)), .int (zI ((i / w : Nat) : Int)), .int (zI b)]) (rest := [.ref (bd 6)]) (ctX1_rowOf l D cB cI cZ cL bd w h hs G O CT LB FS TD PR BY th pn kn cn (i % w) (i / w) e2 e1 b hb) (cwV 3 C.1.2.2.2.2 gX1_skew_X1_rowOf rfl rfl rfl (by decide +kernel) ⟨Nat.le_of_ble_eq_true rfl, Nat.le_of_ble_eq_true rfl⟩) [0, 1, 2, 3, 4, 5, 6, 7, 8] [] (wr := []) rfl (by decide) rfl (by decide) (by decide) 0 rfl rfl rfl rfl (Nat.le_of_ble_eq_true rfl) eX1_skew_99 ⟨Nat.le_of_ble_eq_true rfl, Nat.le_of_ble_eq_true rfl⟩ (fun z w1 hp => ?_)
      obtain ⟨rfl, rfl⟩ := hp
      rw [List.nil_append]
      refine j_dup2 C eX1_skew_102 rfl rfl ?_
      refine j_iald C 3 1 rfl rfl ((i / w + shr h b (i % w)) % h) rfl (by omega) (by omega) eX1_skew_103 ?_
      refine j_aload_n C eX1_skew_104 0 rfl ?_
      refine j_getf C hwsX1_skew 0 rfl rfl 5 (by decide) kX1_skew_13 rfl rfl eX1_skew_105 ?_
      refine j_iload C eX1_skew_108 5 rfl ?_
      refine j_iald C 2 1 rfl rfl i rfl (by omega) (by omega) eX1_skew_110 ?_
      refine j_iadd C eX1_skew_111 ?_
      refine j_iast C 3 1 rfl rfl ((i / w + shr h b (i % w)) % h) rfl (by omega) (by omega) eX1_skew_112 (wd' := wM cB cI bd w h G O (zup CT ((i / w + shr h b (i % w)) % h) ((CT ((i / w + shr h b (i % w)) % h)) + (O i))) LB FS TD PR BY th pn kn cn) rfl ?_
      refine j_iinc C eX1_skew_113 5 rfl rfl (by decide) (lv' := [(0, .ref (bd 0)), (1, .int (zI be)), (2, .int (zI mo)), (3, .int (zI (k : Int))), (4, .int (zI b)), (5, .int (zI ((i : Int) + 1)))]) rfl ?_
      refine j_goto C 69 eX1_skew_116 (by decide) ?_
      refine ih (i + 1) _ (by omega) (by omega) (fun r hr => ?_)
      have e5 : sumN (fun k => if (k / w + shr h b (k % w)) % h = r then O k else 0) (i + 1) = sumN (fun k => if (k / w + shr h b (k % w)) % h = r then O k else 0) i + (if (i / w + shr h b (i % w)) % h = r then O i else 0) := rfl
      rw [e5]
      by_cases e : r = (i / w + shr h b (i % w)) % h
      · rw [if_pos e.symm, e, zup_s, hC _ hrl]
      · rw [zup_n e, if_neg (fun z => e z.symm), hC r hr]; omega
set_option maxHeartbeats 4000000 in
set_option maxRecDepth 100000 in
theorem lsX1_skew {p : Program} {l : Launch} {e : Env} {s : State} {m : MethodId} {args : Array Value} {below : List Frame} {meth : Method} {c : Code} {Q : State → Prop} {D : va_G} {A : Nat → Prop} {cB cI cZ cL : ClassId} {w h : Nat} {bd : Nat → Nat} {G O CT LB FS TD PR BY : Nat → Int} {th pn kn cn : Int} (C : JC p m c cX1_skew 7 s args wsX1_skew RX1 D vwCl (tyl cB cI cZ cL) A) (hs : Sz w h) {be mo b : Int} {k : Nat} (hC : ∀ r, r < h → CT r = rwc w h O b r) (kx : J p l e rmX1_skew s m args below meth c Q 7 D vwCl A 160 [(0, .ref (bd 0)), (1, .int (zI be)), (2, .int (zI mo)), (3, .int (zI (k : Int))), (4, .int (zI b)), (5, .int (zI (sumN (fun r => rwc w h O b r * rwc w h O b r) h))), (6, .int (zI (h : Int)))] [] (wM cB cI bd w h G O CT LB FS TD PR BY th pn kn cn) 0 0) : ∀ (n r : Nat), r ≤ h → h - r < n → J p l e rmX1_skew s m args below meth c Q 7 D vwCl A 125 [(0, .ref (bd 0)), (1, .int (zI be)), (2, .int (zI mo)), (3, .int (zI (k : Int))), (4, .int (zI b)), (5, .int (zI (sumN (fun r => rwc w h O b r * rwc w h O b r) r))), (6, .int (zI (r : Int)))] [] (wM cB cI bd w h G O CT LB FS TD PR BY th pn kn cn) 0 0 := by
  obtain ⟨h1, h2, h3, h4⟩ := id hs
  intro n
  induction n with
  | zero => intro y _ hn; exact absurd hn (Nat.not_lt_zero _)
  | succ n ih =>
    intro r hr hn
    refine j_iload C eX1_skew_125 6 rfl ?_
    refine j_aload_n C eX1_skew_127 0 rfl ?_
    refine j_getf C hwsX1_skew 0 rfl rfl 2 (by decide) kX1_skew_39 rfl rfl eX1_skew_128 ?_
    refine j_icmp_ge C 160 eX1_skew_131 (by decide) (by omega) (by omega) (fun c131 => ?_) (fun c131 => ?_)
    ·
      have he : r = h := by omega
      subst he
      exact kx
    ·
      refine j_iload C eX1_skew_134 5 rfl ?_
      refine j_aload_n C eX1_skew_136 0 rfl ?_
      refine j_getf C hwsX1_skew 0 rfl rfl 6 (by decide) kX1_skew_16 rfl rfl eX1_skew_137 ?_
      refine j_iload C eX1_skew_140 6 rfl ?_
      refine j_iald C 3 1 rfl rfl r rfl (by omega) (by omega) eX1_skew_142 ?_
      refine j_aload_n C eX1_skew_143 0 rfl ?_
      refine j_getf C hwsX1_skew 0 rfl rfl 6 (by decide) kX1_skew_16 rfl rfl eX1_skew_144 ?_
      refine j_iload C eX1_skew_147 6 rfl ?_
      refine j_iald C 3 1 rfl rfl r rfl (by omega) (by omega) eX1_skew_149 ?_
      refine j_imul C eX1_skew_150 ?_
      refine j_iadd C eX1_skew_151 ?_
      refine j_istore C eX1_skew_152 rfl (by decide) (lv' := [(0, .ref (bd 0)), (1, .int (zI be)), (2, .int (zI mo)), (3, .int (zI (k : Int))), (4, .int (zI b)), (5, .int (zI ((sumN (fun r => rwc w h O b r * rwc w h O b r) r) + ((CT r) * (CT r))))), (6, .int (zI (r : Int)))]) rfl ?_
      refine j_iinc C eX1_skew_154 6 rfl rfl (by decide) (lv' := [(0, .ref (bd 0)), (1, .int (zI be)), (2, .int (zI mo)), (3, .int (zI (k : Int))), (4, .int (zI b)), (5, .int (zI ((sumN (fun r => rwc w h O b r * rwc w h O b r) r) + ((CT r) * (CT r))))), (6, .int (zI ((r : Int) + 1)))]) rfl ?_
      refine j_goto C 125 eX1_skew_157 (by decide) ?_
      have hb9 := ih (r + 1) (by omega) (by omega)
      rw [hC r (by omega)]
      exact hb9
theorem tm2 (k : Nat) : (k : Int).tmod 2 = ((k % 2 : Nat) : Int) := tm_nat k 2
theorem td2 (k : Nat) : (k : Int).tdiv 2 = ((k / 2 : Nat) : Int) := td_nat k 2
set_option maxHeartbeats 4000000 in
set_option maxRecDepth 100000 in
theorem lpX1_skew {p : Program} {l : Launch} {e : Env} {s : State} {m : MethodId} {args : Array Value} {below : List Frame} {meth : Method} {c : Code} {Q : State → Prop} {D : va_G} {A : Nat → Prop} {cB cI cZ cL : ClassId} {w h : Nat} {bd : Nat → Nat} {G O LB FS TD PR BY : Nat → Int} {th pn kn cn : Int} (C : JC p m c cX1_skew 7 s args wsX1_skew RX1 D vwCl (tyl cB cI cZ cL) A) (hs : Sz w h) (hO : ∀ k, k < w * h → O k = 0 ∨ O k = 1) (kx : ∀ (CT : Nat → Int) (be mo : Int), be = bst (ssq w h O) 16 → J p l e rmX1_skew s m args below meth c Q 7 D vwCl A 192 [(0, .ref (bd 0)), (1, .int (zI be)), (2, .int (zI mo)), (3, .int (zI (17 : Int)))] [] (wM cB cI bd w h G O CT LB FS TD PR BY th pn kn cn) 0 0) : ∀ (n k : Nat) (CT : Nat → Int) (be mo : Int), k ≤ 17 → 17 - k < n → ((k = 0 ∧ be = 0 ∧ mo = -1) ∨ (1 ≤ k ∧ be = bst (ssq w h O) (k - 1) ∧ mo = (ssq w h O) be)) → J p l e rmX1_skew s m args below meth c Q 7 D vwCl A 15 [(0, .ref (bd 0)), (1, .int (zI be)), (2, .int (zI mo)), (3, .int (zI (k : Int)))] [] (wM cB cI bd w h G O CT LB FS TD PR BY th pn kn cn) 0 0 := by
  have hm := hs.mul
  obtain ⟨h1, h2, h3, h4⟩ := id hs
  have hq : ∀ b : Int, 0 ≤ (ssq w h O) b ∧ (ssq w h O) b ≤ 254803968 := fun b => ssq_in hs O b
  intro n
  induction n with
  | zero => intro i G be mo _ hn; exact absurd hn (Nat.not_lt_zero _)
  | succ n ih =>
    intro k CT be mo hk hn hI
    refine j_iload_n C eX1_skew_15 3 rfl ?_
    refine j_bipush C eX1_skew_16 (by decide +kernel) ?_
    refine j_icmp_ge C 192 eX1_skew_18 (by decide) (by omega) (by omega) (fun c18 => ?_) (fun c18 => ?_)
    ·
      have he : k = 17 := by omega
      subst he
      exact kx CT be mo (by rcases hI with z | z; omega; exact z.2.1)
    ·
      refine j_iload_n C eX1_skew_21 3 rfl ?_
      refine j_iconst C eX1_skew_22 ?_
      refine j_irem C eX1_skew_23 (by omega) (by omega) ?_
      refine j_top (y := zI ((k % 2 : Nat) : Int)) (by rw [tm2]) ?_
      refine j_if_ne C 33 eX1_skew_24 (by decide) (by omega) (fun c24 => ?_) (fun c24 => ?_)
      ·
        refine j_iconst C eX1_skew_33 ?_
        refine j_iload_n C eX1_skew_34 3 rfl ?_
        refine j_iconst C eX1_skew_35 ?_
        refine j_idiv C eX1_skew_36 (by omega) (by omega) ?_
        refine j_isub C eX1_skew_37 ?_
        have hk2 := sqb_in (k := k) (by omega)
        refine j_top (y := zI (sqb k)) (by unfold sqb; rw [if_neg (by omega), td2 k]) ?_
        refine j_istore C eX1_skew_38 rfl (by decide) (lv' := [(0, .ref (bd 0)), (1, .int (zI be)), (2, .int (zI mo)), (3, .int (zI (k : Int))), (4, .int (zI (sqb k)))]) rfl ?_
        refine j_iconst C eX1_skew_40 ?_
        refine j_istore C eX1_skew_41 rfl (by decide) (lv' := [(0, .ref (bd 0)), (1, .int (zI be)), (2, .int (zI mo)), (3, .int (zI (k : Int))), (4, .int (zI (sqb k))), (5, .int (zI 0))]) rfl ?_
        refine lqX1_skew C hs (fun CT1 hC1 => ?_) (h + 1) 0 CT (by omega) (by omega) (fun r hr => absurd hr (Nat.not_lt_zero _))
        refine j_iconst C eX1_skew_66 ?_
        refine j_istore C eX1_skew_67 rfl (by decide) (lv' := [(0, .ref (bd 0)), (1, .int (zI be)), (2, .int (zI mo)), (3, .int (zI (k : Int))), (4, .int (zI (sqb k))), (5, .int (zI 0))]) rfl ?_
        refine lrX1_skew C hs (by omega) (fun CT2 hC2 => ?_) (w * h + 1) 0 CT1 (by omega) (by omega) (fun r hr => by rw [hC1 r hr]; rfl)
        refine j_iconst C eX1_skew_119 ?_
        refine j_istore C eX1_skew_120 rfl (by decide) (lv' := [(0, .ref (bd 0)), (1, .int (zI be)), (2, .int (zI mo)), (3, .int (zI (k : Int))), (4, .int (zI (sqb k))), (5, .int (zI 0))]) rfl ?_
        refine j_iconst C eX1_skew_122 ?_
        refine j_istore C eX1_skew_123 rfl (by decide) (lv' := [(0, .ref (bd 0)), (1, .int (zI be)), (2, .int (zI mo)), (3, .int (zI (k : Int))), (4, .int (zI (sqb k))), (5, .int (zI 0)), (6, .int (zI 0))]) rfl ?_
        refine lsX1_skew C hs (fun r hr => by rw [hC2 r hr]; exact rwc_flat O hO (sqb k) r) ?_ (h + 1) 0 (by omega) (by omega)
        show J p l e rmX1_skew s m args below meth c Q 7 D vwCl A 160 [(0, .ref (bd 0)), (1, .int (zI be)), (2, .int (zI mo)), (3, .int (zI (k : Int))), (4, .int (zI (sqb k))), (5, .int (zI (ssq w h O (sqb k)))), (6, .int (zI (h : Int)))] [] (wM cB cI bd w h G O CT2 LB FS TD PR BY th pn kn cn) 0 0
        have hq1 := hq (sqb k)
        have hmo : -1 ≤ mo ∧ mo ≤ 254803968 := by
          rcases hI with z | z
          · omega
          · have := hq be; omega
        refine j_iload C eX1_skew_160 5 rfl ?_
        refine j_iload_n C eX1_skew_162 2 rfl ?_
        refine j_icmp_le C 171 eX1_skew_163 (by decide) (by omega) (by omega) (fun c163 => ?_) (fun c163 => ?_)
        ·
          refine j_iload_n C eX1_skew_171 1 rfl ?_
          refine j_istore_n C eX1_skew_172 rfl (by decide) (lv' := [(0, .ref (bd 0)), (1, .int (zI be)), (2, .int (zI mo)), (3, .int (zI (k : Int))), (4, .int (zI (sqb k))), (5, .int (zI (ssq w h O (sqb k)))), (6, .int (zI (h : Int)))]) rfl ?_
          refine j_iload C eX1_skew_173 5 rfl ?_
          refine j_iload_n C eX1_skew_175 2 rfl ?_
          refine j_icmp_le C 184 eX1_skew_176 (by decide) (by omega) (by omega) (fun c176 => ?_) (fun c176 => ?_)
          ·
            refine j_iload_n C eX1_skew_184 2 rfl ?_
            refine j_istore_n C eX1_skew_185 rfl (by decide) (lv' := [(0, .ref (bd 0)), (1, .int (zI be)), (2, .int (zI mo)), (3, .int (zI (k : Int))), (4, .int (zI (sqb k))), (5, .int (zI (ssq w h O (sqb k)))), (6, .int (zI (h : Int)))]) rfl ?_
            refine j_iinc C eX1_skew_186 3 rfl rfl (by decide) (lv' := [(0, .ref (bd 0)), (1, .int (zI be)), (2, .int (zI mo)), (3, .int (zI ((k : Int) + 1))), (4, .int (zI (sqb k))), (5, .int (zI (ssq w h O (sqb k)))), (6, .int (zI (h : Int)))]) rfl ?_
            refine j_goto C 15 eX1_skew_189 (by decide) ?_
            refine j_loc [0, 1, 2, 3] (lv' := [(0, .ref (bd 0)), (1, .int (zI be)), (2, .int (zI mo)), (3, .int (zI ((k : Int) + 1)))]) rfl ?_
            refine ih (k + 1) CT2 be mo (by omega) (by omega) (Or.inr ⟨by omega, ?_, ?_⟩)
            · rw [show k + 1 - 1 = k by omega]
              rcases hI with z | z
              · omega
              · obtain ⟨j, rfl⟩ : ∃ j, k = j + 1 := ⟨k - 1, by omega⟩
                show _ = pk2 (ssq w h O) (bst (ssq w h O) j) (sqb (j + 1))
                have e9 : be = bst (ssq w h O) j := z.2.1
                unfold pk2
                rw [← e9, if_neg (by omega)]
            · rcases hI with z | z
              · omega
              · exact z.2.2
          ·
            refine j_iload C eX1_skew_179 5 rfl ?_
            refine j_goto C 185 eX1_skew_181 (by decide) ?_
            refine j_istore_n C eX1_skew_185 rfl (by decide) (lv' := [(0, .ref (bd 0)), (1, .int (zI be)), (2, .int (zI (ssq w h O (sqb k)))), (3, .int (zI (k : Int))), (4, .int (zI (sqb k))), (5, .int (zI (ssq w h O (sqb k)))), (6, .int (zI (h : Int)))]) rfl ?_
            refine j_iinc C eX1_skew_186 3 rfl rfl (by decide) (lv' := [(0, .ref (bd 0)), (1, .int (zI be)), (2, .int (zI (ssq w h O (sqb k)))), (3, .int (zI ((k : Int) + 1))), (4, .int (zI (sqb k))), (5, .int (zI (ssq w h O (sqb k)))), (6, .int (zI (h : Int)))]) rfl ?_
            refine j_goto C 15 eX1_skew_189 (by decide) ?_
            refine j_loc [0, 1, 2, 3] (lv' := [(0, .ref (bd 0)), (1, .int (zI be)), (2, .int (zI (ssq w h O (sqb k)))), (3, .int (zI ((k : Int) + 1)))]) rfl ?_
            exact absurd c163 (by omega)
        ·
          refine j_iload C eX1_skew_166 4 rfl ?_
          refine j_goto C 172 eX1_skew_168 (by decide) ?_
          refine j_istore_n C eX1_skew_172 rfl (by decide) (lv' := [(0, .ref (bd 0)), (1, .int (zI (sqb k))), (2, .int (zI mo)), (3, .int (zI (k : Int))), (4, .int (zI (sqb k))), (5, .int (zI (ssq w h O (sqb k)))), (6, .int (zI (h : Int)))]) rfl ?_
          refine j_iload C eX1_skew_173 5 rfl ?_
          refine j_iload_n C eX1_skew_175 2 rfl ?_
          refine j_icmp_le C 184 eX1_skew_176 (by decide) (by omega) (by omega) (fun c176 => ?_) (fun c176 => ?_)
          ·
            refine j_iload_n C eX1_skew_184 2 rfl ?_
            refine j_istore_n C eX1_skew_185 rfl (by decide) (lv' := [(0, .ref (bd 0)), (1, .int (zI (sqb k))), (2, .int (zI mo)), (3, .int (zI (k : Int))), (4, .int (zI (sqb k))), (5, .int (zI (ssq w h O (sqb k)))), (6, .int (zI (h : Int)))]) rfl ?_
            refine j_iinc C eX1_skew_186 3 rfl rfl (by decide) (lv' := [(0, .ref (bd 0)), (1, .int (zI (sqb k))), (2, .int (zI mo)), (3, .int (zI ((k : Int) + 1))), (4, .int (zI (sqb k))), (5, .int (zI (ssq w h O (sqb k)))), (6, .int (zI (h : Int)))]) rfl ?_
            refine j_goto C 15 eX1_skew_189 (by decide) ?_
            refine j_loc [0, 1, 2, 3] (lv' := [(0, .ref (bd 0)), (1, .int (zI (sqb k))), (2, .int (zI mo)), (3, .int (zI ((k : Int) + 1)))]) rfl ?_
            exact absurd c163 (by omega)
          ·
            refine j_iload C eX1_skew_179 5 rfl ?_
            refine j_goto C 185 eX1_skew_181 (by decide) ?_
            refine j_istore_n C eX1_skew_185 rfl (by decide) (lv' := [(0, .ref (bd 0)), (1, .int (zI (sqb k))), (2, .int (zI (ssq w h O (sqb k)))), (3, .int (zI (k : Int))), (4, .int (zI (sqb k))), (5, .int (zI (ssq w h O (sqb k)))), (6, .int (zI (h : Int)))]) rfl ?_
            refine j_iinc C eX1_skew_186 3 rfl rfl (by decide) (lv' := [(0, .ref (bd 0)), (1, .int (zI (sqb k))), (2, .int (zI (ssq w h O (sqb k)))), (3, .int (zI ((k : Int) + 1))), (4, .int (zI (sqb k))), (5, .int (zI (ssq w h O (sqb k)))), (6, .int (zI (h : Int)))]) rfl ?_
            refine j_goto C 15 eX1_skew_189 (by decide) ?_
            refine j_loc [0, 1, 2, 3] (lv' := [(0, .ref (bd 0)), (1, .int (zI (sqb k))), (2, .int (zI (ssq w h O (sqb k)))), (3, .int (zI ((k : Int) + 1)))]) rfl ?_
            refine ih (k + 1) CT2 (sqb k) (ssq w h O (sqb k)) (by omega) (by omega) (Or.inr ⟨by omega, ?_, ?_⟩)
            · rw [show k + 1 - 1 = k by omega]
              rcases hI with z | z
              · obtain ⟨rfl, -, -⟩ := z
                rfl
              · obtain ⟨j, rfl⟩ : ∃ j, k = j + 1 := ⟨k - 1, by omega⟩
                show _ = pk2 (ssq w h O) (bst (ssq w h O) j) (sqb (j + 1))
                have e9 : be = bst (ssq w h O) j := z.2.1
                unfold pk2
                rw [← e9, if_pos (by omega)]
            · rfl
      ·
        refine j_iload_n C eX1_skew_27 3 rfl ?_
        refine j_iconst C eX1_skew_28 ?_
        refine j_idiv C eX1_skew_29 (by omega) (by omega) ?_
        refine j_goto C 38 eX1_skew_30 (by decide) ?_
        have hk2 := sqb_in (k := k) (by omega)
        refine j_top (y := zI (sqb k)) (by unfold sqb; rw [if_pos (by omega), td2 k]) ?_
        refine j_istore C eX1_skew_38 rfl (by decide) (lv' := [(0, .ref (bd 0)), (1, .int (zI be)), (2, .int (zI mo)), (3, .int (zI (k : Int))), (4, .int (zI (sqb k)))]) rfl ?_
        refine j_iconst C eX1_skew_40 ?_
        refine j_istore C eX1_skew_41 rfl (by decide) (lv' := [(0, .ref (bd 0)), (1, .int (zI be)), (2, .int (zI mo)), (3, .int (zI (k : Int))), (4, .int (zI (sqb k))), (5, .int (zI 0))]) rfl ?_
        refine lqX1_skew C hs (fun CT1 hC1 => ?_) (h + 1) 0 CT (by omega) (by omega) (fun r hr => absurd hr (Nat.not_lt_zero _))
        refine j_iconst C eX1_skew_66 ?_
        refine j_istore C eX1_skew_67 rfl (by decide) (lv' := [(0, .ref (bd 0)), (1, .int (zI be)), (2, .int (zI mo)), (3, .int (zI (k : Int))), (4, .int (zI (sqb k))), (5, .int (zI 0))]) rfl ?_
        refine lrX1_skew C hs (by omega) (fun CT2 hC2 => ?_) (w * h + 1) 0 CT1 (by omega) (by omega) (fun r hr => by rw [hC1 r hr]; rfl)
        refine j_iconst C eX1_skew_119 ?_
        refine j_istore C eX1_skew_120 rfl (by decide) (lv' := [(0, .ref (bd 0)), (1, .int (zI be)), (2, .int (zI mo)), (3, .int (zI (k : Int))), (4, .int (zI (sqb k))), (5, .int (zI 0))]) rfl ?_
        refine j_iconst C eX1_skew_122 ?_
        refine j_istore C eX1_skew_123 rfl (by decide) (lv' := [(0, .ref (bd 0)), (1, .int (zI be)), (2, .int (zI mo)), (3, .int (zI (k : Int))), (4, .int (zI (sqb k))), (5, .int (zI 0)), (6, .int (zI 0))]) rfl ?_
        refine lsX1_skew C hs (fun r hr => by rw [hC2 r hr]; exact rwc_flat O hO (sqb k) r) ?_ (h + 1) 0 (by omega) (by omega)
        show J p l e rmX1_skew s m args below meth c Q 7 D vwCl A 160 [(0, .ref (bd 0)), (1, .int (zI be)), (2, .int (zI mo)), (3, .int (zI (k : Int))), (4, .int (zI (sqb k))), (5, .int (zI (ssq w h O (sqb k)))), (6, .int (zI (h : Int)))] [] (wM cB cI bd w h G O CT2 LB FS TD PR BY th pn kn cn) 0 0
        have hq1 := hq (sqb k)
        have hmo : -1 ≤ mo ∧ mo ≤ 254803968 := by
          rcases hI with z | z
          · omega
          · have := hq be; omega
        refine j_iload C eX1_skew_160 5 rfl ?_
        refine j_iload_n C eX1_skew_162 2 rfl ?_
        refine j_icmp_le C 171 eX1_skew_163 (by decide) (by omega) (by omega) (fun c163 => ?_) (fun c163 => ?_)
        ·
          refine j_iload_n C eX1_skew_171 1 rfl ?_
          refine j_istore_n C eX1_skew_172 rfl (by decide) (lv' := [(0, .ref (bd 0)), (1, .int (zI be)), (2, .int (zI mo)), (3, .int (zI (k : Int))), (4, .int (zI (sqb k))), (5, .int (zI (ssq w h O (sqb k)))), (6, .int (zI (h : Int)))]) rfl ?_
          refine j_iload C eX1_skew_173 5 rfl ?_
          refine j_iload_n C eX1_skew_175 2 rfl ?_
          refine j_icmp_le C 184 eX1_skew_176 (by decide) (by omega) (by omega) (fun c176 => ?_) (fun c176 => ?_)
          ·
            refine j_iload_n C eX1_skew_184 2 rfl ?_
            refine j_istore_n C eX1_skew_185 rfl (by decide) (lv' := [(0, .ref (bd 0)), (1, .int (zI be)), (2, .int (zI mo)), (3, .int (zI (k : Int))), (4, .int (zI (sqb k))), (5, .int (zI (ssq w h O (sqb k)))), (6, .int (zI (h : Int)))]) rfl ?_
            refine j_iinc C eX1_skew_186 3 rfl rfl (by decide) (lv' := [(0, .ref (bd 0)), (1, .int (zI be)), (2, .int (zI mo)), (3, .int (zI ((k : Int) + 1))), (4, .int (zI (sqb k))), (5, .int (zI (ssq w h O (sqb k)))), (6, .int (zI (h : Int)))]) rfl ?_
            refine j_goto C 15 eX1_skew_189 (by decide) ?_
            refine j_loc [0, 1, 2, 3] (lv' := [(0, .ref (bd 0)), (1, .int (zI be)), (2, .int (zI mo)), (3, .int (zI ((k : Int) + 1)))]) rfl ?_
            refine ih (k + 1) CT2 be mo (by omega) (by omega) (Or.inr ⟨by omega, ?_, ?_⟩)
            · rw [show k + 1 - 1 = k by omega]
              rcases hI with z | z
              · omega
              · obtain ⟨j, rfl⟩ : ∃ j, k = j + 1 := ⟨k - 1, by omega⟩
                show _ = pk2 (ssq w h O) (bst (ssq w h O) j) (sqb (j + 1))
                have e9 : be = bst (ssq w h O) j := z.2.1
                unfold pk2
                rw [← e9, if_neg (by omega)]
            · rcases hI with z | z
              · omega
              · exact z.2.2
          ·
            refine j_iload C eX1_skew_179 5 rfl ?_
            refine j_goto C 185 eX1_skew_181 (by decide) ?_
            refine j_istore_n C eX1_skew_185 rfl (by decide) (lv' := [(0, .ref (bd 0)), (1, .int (zI be)), (2, .int (zI (ssq w h O (sqb k)))), (3, .int (zI (k : Int))), (4, .int (zI (sqb k))), (5, .int (zI (ssq w h O (sqb k)))), (6, .int (zI (h : Int)))]) rfl ?_
            refine j_iinc C eX1_skew_186 3 rfl rfl (by decide) (lv' := [(0, .ref (bd 0)), (1, .int (zI be)), (2, .int (zI (ssq w h O (sqb k)))), (3, .int (zI ((k : Int) + 1))), (4, .int (zI (sqb k))), (5, .int (zI (ssq w h O (sqb k)))), (6, .int (zI (h : Int)))]) rfl ?_
            refine j_goto C 15 eX1_skew_189 (by decide) ?_
            refine j_loc [0, 1, 2, 3] (lv' := [(0, .ref (bd 0)), (1, .int (zI be)), (2, .int (zI (ssq w h O (sqb k)))), (3, .int (zI ((k : Int) + 1)))]) rfl ?_
            exact absurd c163 (by omega)
        ·
          refine j_iload C eX1_skew_166 4 rfl ?_
          refine j_goto C 172 eX1_skew_168 (by decide) ?_
          refine j_istore_n C eX1_skew_172 rfl (by decide) (lv' := [(0, .ref (bd 0)), (1, .int (zI (sqb k))), (2, .int (zI mo)), (3, .int (zI (k : Int))), (4, .int (zI (sqb k))), (5, .int (zI (ssq w h O (sqb k)))), (6, .int (zI (h : Int)))]) rfl ?_
          refine j_iload C eX1_skew_173 5 rfl ?_
          refine j_iload_n C eX1_skew_175 2 rfl ?_
          refine j_icmp_le C 184 eX1_skew_176 (by decide) (by omega) (by omega) (fun c176 => ?_) (fun c176 => ?_)
          ·
            refine j_iload_n C eX1_skew_184 2 rfl ?_
            refine j_istore_n C eX1_skew_185 rfl (by decide) (lv' := [(0, .ref (bd 0)), (1, .int (zI (sqb k))), (2, .int (zI mo)), (3, .int (zI (k : Int))), (4, .int (zI (sqb k))), (5, .int (zI (ssq w h O (sqb k)))), (6, .int (zI (h : Int)))]) rfl ?_
            refine j_iinc C eX1_skew_186 3 rfl rfl (by decide) (lv' := [(0, .ref (bd 0)), (1, .int (zI (sqb k))), (2, .int (zI mo)), (3, .int (zI ((k : Int) + 1))), (4, .int (zI (sqb k))), (5, .int (zI (ssq w h O (sqb k)))), (6, .int (zI (h : Int)))]) rfl ?_
            refine j_goto C 15 eX1_skew_189 (by decide) ?_
            refine j_loc [0, 1, 2, 3] (lv' := [(0, .ref (bd 0)), (1, .int (zI (sqb k))), (2, .int (zI mo)), (3, .int (zI ((k : Int) + 1)))]) rfl ?_
            exact absurd c163 (by omega)
          ·
            refine j_iload C eX1_skew_179 5 rfl ?_
            refine j_goto C 185 eX1_skew_181 (by decide) ?_
            refine j_istore_n C eX1_skew_185 rfl (by decide) (lv' := [(0, .ref (bd 0)), (1, .int (zI (sqb k))), (2, .int (zI (ssq w h O (sqb k)))), (3, .int (zI (k : Int))), (4, .int (zI (sqb k))), (5, .int (zI (ssq w h O (sqb k)))), (6, .int (zI (h : Int)))]) rfl ?_
            refine j_iinc C eX1_skew_186 3 rfl rfl (by decide) (lv' := [(0, .ref (bd 0)), (1, .int (zI (sqb k))), (2, .int (zI (ssq w h O (sqb k)))), (3, .int (zI ((k : Int) + 1))), (4, .int (zI (sqb k))), (5, .int (zI (ssq w h O (sqb k)))), (6, .int (zI (h : Int)))]) rfl ?_
            refine j_goto C 15 eX1_skew_189 (by decide) ?_
            refine j_loc [0, 1, 2, 3] (lv' := [(0, .ref (bd 0)), (1, .int (zI (sqb k))), (2, .int (zI (ssq w h O (sqb k)))), (3, .int (zI ((k : Int) + 1)))]) rfl ?_
            refine ih (k + 1) CT2 (sqb k) (ssq w h O (sqb k)) (by omega) (by omega) (Or.inr ⟨by omega, ?_, ?_⟩)
            · rw [show k + 1 - 1 = k by omega]
              rcases hI with z | z
              · obtain ⟨rfl, -, -⟩ := z
                rfl
              · obtain ⟨j, rfl⟩ : ∃ j, k = j + 1 := ⟨k - 1, by omega⟩
                show _ = pk2 (ssq w h O) (bst (ssq w h O) j) (sqb (j + 1))
                have e9 : be = bst (ssq w h O) j := z.2.1
                unfold pk2
                rw [← e9, if_pos (by omega)]
            · rfl
set_option maxHeartbeats 4000000 in
set_option maxRecDepth 100000 in
theorem ctX1_skew (l : Launch) (D : va_G) (cB cI cZ cL : ClassId) (bd : Nat → Nat) (w h : Nat) (hs : Sz w h) (G O CT LB FS TD PR BY : Nat → Int) (th pn kn cn : Int) (hG : gry (w * h) G) : mI l yX1_skew wsX1_skew rmX1_skew D vwCl (tyl cB cI cZ cL) [.ref (bd 0)] (wM cB cI bd w h G O CT LB FS TD PR BY th pn kn cn) 0 0 (fun z w1 => ∃ CT' O' : Nat → Int, w1 = wM cB cI bd w h G O' CT' LB FS TD PR BY 0 pn kn cn ∧ z = skb (ssq w h (dkf G (w * h))) 8) := by
  refine mI_of (own := RX1) rfl (by decide) rfl (Nat.le_of_ble_eq_true rfl) ?_
  intro p e s m args below meth c C hr hlocks hname
  show J p l e rmX1_skew s m args below meth c _ 7 D vwCl _ 0 [(0, .ref (bd 0))] [] (wM cB cI bd w h G O CT LB FS TD PR BY th pn kn cn) 0 0
  refine j_aload_n C eX1_skew_0 0 rfl ?_
  refine j_iconst C eX1_skew_1 ?_
  refine j_putf C hwsX1_skew tyX1 tyX1_ok nmX1 0 rfl rfl 0 (by decide) kX1_skew_45 rfl rfl (tyX1_ok 0 (by decide)) rfl rfl (Nat.le_of_ble_eq_true rfl) eX1_skew_2 (wd' := wM cB cI bd w h G O CT LB FS TD PR BY 0 pn kn cn) rfl ?_
  refine j_aload_n C eX1_skew_5 0 rfl ?_
  refine j_callVv C (As := []) (rest := []) (ctX1_darken l D cB cI cZ cL bd w h hs G O CT LB FS TD PR BY 0 pn kn cn hG) (cwV 0 C.1.2.2.2.2 gX1_skew_X1_darken rfl rfl rfl (by decide +kernel) ⟨Nat.le_of_ble_eq_true rfl, Nat.le_of_ble_eq_true rfl⟩) [0, 1, 2, 3, 4, 5, 6, 7, 8] [] (wr := []) rfl (by decide) rfl (by decide) (by decide) 0 rfl rfl rfl rfl (Nat.le_of_ble_eq_true rfl) eX1_skew_6 ⟨Nat.le_of_ble_eq_true rfl, Nat.le_of_ble_eq_true rfl⟩ (fun w1 hp => ?_)
  obtain ⟨CT1, O1, hO1, rfl⟩ := hp
  rw [List.nil_append]
  have hO : ∀ k, k < w * h → O1 k = 0 ∨ O1 k = 1 := fun k hk => by rw [hO1 k hk]; exact dkf_01 _ _ _
  refine j_iconst C eX1_skew_9 ?_
  refine j_istore_n C eX1_skew_10 rfl (by decide) (lv' := [(0, .ref (bd 0)), (1, .int (zI 0))]) rfl ?_
  refine j_iconst C eX1_skew_11 ?_
  refine j_istore_n C eX1_skew_12 rfl (by decide) (lv' := [(0, .ref (bd 0)), (1, .int (zI 0)), (2, .int (zI (-1)))]) rfl ?_
  refine j_iconst C eX1_skew_13 ?_
  refine j_istore_n C eX1_skew_14 rfl (by decide) (lv' := [(0, .ref (bd 0)), (1, .int (zI 0)), (2, .int (zI (-1))), (3, .int (zI 0))]) rfl ?_
  refine lpX1_skew C hs hO (fun CT2 be mo hbe => ?_) 18 0 CT1 0 (-1) (by omega) (by omega) (Or.inl ⟨rfl, rfl, rfl⟩)
  refine j_iload_n C eX1_skew_192 1 rfl ?_
  exact j_iret C hr hlocks rfl eX1_skew_193 ⟨CT2, O1, rfl, by rw [hbe, show (16 : Nat) = 2 * 8 from rfl, bst_skb]; exact skb_congr (fun b => ssq_congr hO1 b) 8⟩
