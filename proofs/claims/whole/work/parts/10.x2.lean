/-! THE CLASS: more leaves -/
theorem bm_in (z : Int) : -128 ≤ Int.bmod z 256 ∧ Int.bmod z 256 ≤ 127 := by simp only [Int.bmod_def]; omega
theorem nar_byte {v : Int} (h : -128 ≤ v ∧ v ≤ 127) : narrow .byte (.int (zI v)) = .int (zI v) := by
  have h1 : zI v = (zI v).toInt8.toInt32 := by rw [zI_i2b, bmod_byte h]
  rw [h1]
  exact pk_nb (zI v)
theorem nar_bool {v : Int} (h : 0 ≤ v ∧ v ≤ 1) : narrow .boolean (.int (zI v)) = .int (zI v) := by
  have h1 : v = 0 ∨ v = 1 := by omega
  rcases h1 with rfl | rfl <;> decide +kernel
theorem hwsX0_hasMostlyLow : ∀ w ∈ u_ws RX0 TX0 16, w ∈ wsX0_hasMostlyLow := fun _ h => List.mem_cons_of_mem _ (List.mem_append_right _ h)
theorem kX0_hasMostlyLow_25 : Cond.fieldLink RX0 25 "SheetRows" (TX0 2).2.1 (TX0 2).2.2.1 ∈ wsX0_hasMostlyLow := by decide +kernel
theorem kX0_hasMostlyLow_32 : Cond.fieldLink RX0 32 "SheetRows" (TX0 4).2.1 (TX0 4).2.2.1 ∈ wsX0_hasMostlyLow := by decide +kernel
abbrev rmX0_hasMostlyLow : Room := { frames := 0, cells := 0, slots := 0, locals := 0 }
set_option maxHeartbeats 4000000 in
set_option maxRecDepth 100000 in
theorem ctX0_hasMostlyLow (l : Launch) (D : va_G) (cB cI cZ cL : ClassId) (ad : Nat → Nat) (w h : Nat) (hs : Sz w h) (aG aS : Nat) (G S CB SB DK DR RE PF PK CO : Nat → Int) (rc pn kn cn : Int) (t : Nat) (ht : t ≤ 255) (hc : 0 ≤ CB (t + 1) ∧ CB (t + 1) ≤ 2304) : mI l yX0_hasMostlyLow wsX0_hasMostlyLow rmX0_hasMostlyLow D vwCl (tyl cB cI cZ cL) [.ref (ad 0), .int (zI (t : Int))] (wX cB cI cZ ad w h aG aS G S CB SB DK DR RE PF PK CO rc pn kn cn) 0 0 (fun z w1 => w1 = wX cB cI cZ ad w h aG aS G S CB SB DK DR RE PF PK CO rc pn kn cn ∧ z = if ((w * h : Nat) : Int) < 2 * CB (t + 1) then 1 else 0) := by
  refine mI_of (own := RX0) rfl (by decide) rfl (Nat.le_of_ble_eq_true rfl) ?_
  intro p e s m args below meth c C hr hlocks hname
  show J p l e rmX0_hasMostlyLow s m args below meth c _ 2 D vwCl _ 0 [(0, .ref (ad 0)), (1, .int (zI (t : Int)))] [] (wX cB cI cZ ad w h aG aS G S CB SB DK DR RE PF PK CO rc pn kn cn) 0 0
  have hm := hs.mul
  refine j_iconst C eX0_hasMostlyLow_0 ?_
  refine j_aload_n C eX0_hasMostlyLow_1 0 rfl ?_
  refine j_getf C hwsX0_hasMostlyLow 0 rfl rfl 4 (by decide) kX0_hasMostlyLow_32 rfl rfl eX0_hasMostlyLow_2 ?_
  refine j_iload_n C eX0_hasMostlyLow_5 1 rfl ?_
  refine j_iconst C eX0_hasMostlyLow_6 ?_
  refine j_iadd C eX0_hasMostlyLow_7 ?_
  refine j_iald C 3 1 rfl rfl (t + 1) (by push_cast; rfl) (by omega) (by omega) eX0_hasMostlyLow_8 ?_
  refine j_imul C eX0_hasMostlyLow_9 ?_
  refine j_aload_n C eX0_hasMostlyLow_10 0 rfl ?_
  refine j_getf C hwsX0_hasMostlyLow 0 rfl rfl 2 (by decide) kX0_hasMostlyLow_25 rfl rfl eX0_hasMostlyLow_11 ?_
  refine j_alen C 1 0 rfl rfl eX0_hasMostlyLow_14 ?_
  refine j_icmp_le C 22 eX0_hasMostlyLow_15 (by decide) (by omega) (by omega) (fun c15 => ?_) (fun c15 => ?_)
  ·
    refine j_iconst C eX0_hasMostlyLow_22 ?_
    exact j_iret C hr hlocks rfl eX0_hasMostlyLow_23 ⟨rfl, by rw [if_neg (by omega)]⟩
  ·
    refine j_iconst C eX0_hasMostlyLow_18 ?_
    refine j_goto C 23 eX0_hasMostlyLow_19 (by decide) ?_
    exact j_iret C hr hlocks rfl eX0_hasMostlyLow_23 ⟨rfl, by rw [if_pos (by omega)]⟩
theorem hwsX0_part : ∀ w ∈ u_ws RX0 TX0 16, w ∈ wsX0_part := fun _ h => List.mem_cons_of_mem _ (List.mem_append_right _ h)
theorem kX0_part_49 : Cond.fieldLink RX0 49 "SheetRows" (TX0 10).2.1 (TX0 10).2.2.1 ∈ wsX0_part := by decide +kernel
theorem kX0_part_85 : Cond.fieldLink RX0 85 "SheetRows" (TX0 11).2.1 (TX0 11).2.2.1 ∈ wsX0_part := by decide +kernel
abbrev rmX0_part : Room := { frames := 0, cells := 0, slots := 0, locals := 0 }
set_option maxHeartbeats 4000000 in
set_option maxRecDepth 100000 in
theorem ctX0_part (l : Launch) (D : va_G) (cB cI cZ cL : ClassId) (ad : Nat → Nat) (w h : Nat) (hs : Sz w h) (aG aS : Nat) (G S CB SB DK DR RE PF PK CO : Nat → Int) (rc pn kn cn : Int) (i what : Int) (hi : -2147483648 ≤ i ∧ i ≤ 2147483647) (hw : -2147483648 ≤ what ∧ what ≤ 2147483647) (hp : 0 ≤ pn ∧ pn ≤ ((w * h / 3 : Nat) : Int)) : mI l yX0_part wsX0_part rmX0_part D vwCl (tyl cB cI cZ cL) [.ref (ad 0), .int (zI i), .int (zI what)] (wX cB cI cZ ad w h aG aS G S CB SB DK DR RE PF PK CO rc pn kn cn) 0 0 (fun z w1 => w1 = wX cB cI cZ ad w h aG aS G S CB SB DK DR RE PF PK CO rc pn kn cn ∧ z = if 0 ≤ i ∧ i < (pn : Int) ∧ 0 ≤ what ∧ what < 7 then PF (i.toNat * 7 + what.toNat) else -1) := by
  refine mI_of (own := RX0) rfl (by decide) rfl (Nat.le_of_ble_eq_true rfl) ?_
  intro p e s m args below meth c C hr hlocks hname
  show J p l e rmX0_part s m args below meth c _ 3 D vwCl _ 0 [(0, .ref (ad 0)), (1, .int (zI i)), (2, .int (zI what))] [] (wX cB cI cZ ad w h aG aS G S CB SB DK DR RE PF PK CO rc pn kn cn) 0 0
  have hm := hs.mul
  refine j_iload_n C eX0_part_0 1 rfl ?_
  refine j_if_lt C 22 eX0_part_1 (by decide) (by omega) (fun c1 => ?_) (fun c1 => ?_)
  ·
    refine j_iconst C eX0_part_22 ?_
    exact j_iret C hr hlocks rfl eX0_part_23 ⟨rfl, by rw [if_neg (by omega)]⟩
  ·
    refine j_iload_n C eX0_part_4 1 rfl ?_
    refine j_aload_n C eX0_part_5 0 rfl ?_
    refine j_getf C hwsX0_part 0 rfl rfl 11 (by decide) kX0_part_85 rfl rfl eX0_part_6 ?_
    refine j_icmp_ge C 22 eX0_part_9 (by decide) (by omega) (by omega) (fun c9 => ?_) (fun c9 => ?_)
    ·
      refine j_iconst C eX0_part_22 ?_
      exact j_iret C hr hlocks rfl eX0_part_23 ⟨rfl, by rw [if_neg (by omega)]⟩
    ·
      refine j_iload_n C eX0_part_12 2 rfl ?_
      refine j_if_lt C 22 eX0_part_13 (by decide) (by omega) (fun c13 => ?_) (fun c13 => ?_)
      ·
        refine j_iconst C eX0_part_22 ?_
        exact j_iret C hr hlocks rfl eX0_part_23 ⟨rfl, by rw [if_neg (by omega)]⟩
      ·
        refine j_iload_n C eX0_part_16 2 rfl ?_
        refine j_bipush C eX0_part_17 (by decide +kernel) ?_
        refine j_icmp_lt C 24 eX0_part_19 (by decide) (by omega) (by omega) (fun c19 => ?_) (fun c19 => ?_)
        ·
          refine j_aload_n C eX0_part_24 0 rfl ?_
          refine j_getf C hwsX0_part 0 rfl rfl 10 (by decide) kX0_part_49 rfl rfl eX0_part_25 ?_
          refine j_iload_n C eX0_part_28 1 rfl ?_
          refine j_bipush C eX0_part_29 (by decide +kernel) ?_
          refine j_imul C eX0_part_31 ?_
          refine j_iload_n C eX0_part_32 2 rfl ?_
          refine j_iadd C eX0_part_33 ?_
          refine j_iald C 8 1 rfl rfl (i.toNat * 7 + what.toNat) (by omega) (by omega) (by omega) eX0_part_34 ?_
          exact j_iret C hr hlocks rfl eX0_part_35 ⟨rfl, by rw [if_pos (by omega)]⟩
        ·
          refine j_iconst C eX0_part_22 ?_
          exact j_iret C hr hlocks rfl eX0_part_23 ⟨rfl, by rw [if_neg (by omega)]⟩
theorem hwsX0_packStretch : ∀ w ∈ u_ws RX0 TX0 16, w ∈ wsX0_packStretch := fun _ h => List.mem_cons_of_mem _ (List.mem_append_right _ h)
theorem kX0_packStretch_52 : Cond.fieldLink RX0 52 "SheetRows" (TX0 12).2.1 (TX0 12).2.2.1 ∈ wsX0_packStretch := by decide +kernel
theorem kX0_packStretch_108 : Cond.fieldLink RX0 108 "SheetRows" (TX0 13).2.1 (TX0 13).2.2.1 ∈ wsX0_packStretch := by decide +kernel
abbrev rmX0_packStretch : Room := { frames := 0, cells := 0, slots := 0, locals := 0 }
set_option maxHeartbeats 4000000 in
set_option maxRecDepth 100000 in
theorem ctX0_packStretch (l : Launch) (D : va_G) (cB cI cZ cL : ClassId) (ad : Nat → Nat) (w h : Nat) (hs : Sz w h) (aG aS : Nat) (G S CB SB DK DR RE PF PK CO : Nat → Int) (rc pn cn : Int) (k n : Nat) (hk : k + 2 ≤ 2 * (w * h)) (hn : n ≤ 255) (v : Int) (hv : -128 ≤ v ∧ v ≤ 127) : mV l yX0_packStretch wsX0_packStretch rmX0_packStretch D vwCl (tyl cB cI cZ cL) [.ref (ad 0), .int (zI (n : Int)), .int (zI v)] (wX cB cI cZ ad w h aG aS G S CB SB DK DR RE PF PK CO rc pn (k : Int) cn) 0 0 (fun w1 => w1 = wX cB cI cZ ad w h aG aS G S CB SB DK DR RE PF (zup (zup PK k (Int.bmod (n : Int) 256)) (k + 1) v) CO rc pn ((k : Int) + 2) cn) := by
  refine mV_of (own := RX0) rfl (by decide) rfl (Nat.le_of_ble_eq_true rfl) ?_
  intro p e s m args below meth c C hr hlocks hname
  show J p l e rmX0_packStretch s m args below meth c _ 3 D vwCl _ 0 [(0, .ref (ad 0)), (1, .int (zI (n : Int))), (2, .int (zI v))] [] (wX cB cI cZ ad w h aG aS G S CB SB DK DR RE PF PK CO rc pn (k : Int) cn) 0 0
  have hm := hs.mul
  have hb : -128 ≤ Int.bmod (n : Int) 256 ∧ Int.bmod (n : Int) 256 ≤ 127 := by simp only [Int.bmod_def]; omega
  refine j_aload_n C eX0_packStretch_0 0 rfl ?_
  refine j_getf C hwsX0_packStretch 0 rfl rfl 13 (by decide) kX0_packStretch_108 rfl rfl eX0_packStretch_1 ?_
  refine j_iconst C eX0_packStretch_4 ?_
  refine j_iadd C eX0_packStretch_5 ?_
  refine j_aload_n C eX0_packStretch_6 0 rfl ?_
  refine j_getf C hwsX0_packStretch 0 rfl rfl 12 (by decide) kX0_packStretch_52 rfl rfl eX0_packStretch_7 ?_
  refine j_alen C 9 0 rfl rfl eX0_packStretch_10 ?_
  refine j_icmp_gt C 47 eX0_packStretch_11 (by decide) (by omega) (by omega) (fun c11 => ?_) (fun c11 => ?_)
  ·
    exact absurd c11 (by omega)
  ·
    refine j_aload_n C eX0_packStretch_14 0 rfl ?_
    refine j_getf C hwsX0_packStretch 0 rfl rfl 12 (by decide) kX0_packStretch_52 rfl rfl eX0_packStretch_15 ?_
    refine j_aload_n C eX0_packStretch_18 0 rfl ?_
    refine j_getf C hwsX0_packStretch 0 rfl rfl 13 (by decide) kX0_packStretch_108 rfl rfl eX0_packStretch_19 ?_
    refine j_iload_n C eX0_packStretch_22 1 rfl ?_
    refine j_i2bz C eX0_packStretch_23 ?_
    refine j_bast C 9 0 rfl rfl k rfl (by omega) (by omega) (nar_b (by omega)) eX0_packStretch_24 (wd' := wX cB cI cZ ad w h aG aS G S CB SB DK DR RE PF (zup PK k (Int.bmod (n : Int) 256)) CO rc pn (k : Int) cn) rfl ?_
    refine j_aload_n C eX0_packStretch_25 0 rfl ?_
    refine j_getf C hwsX0_packStretch 0 rfl rfl 12 (by decide) kX0_packStretch_52 rfl rfl eX0_packStretch_26 ?_
    refine j_aload_n C eX0_packStretch_29 0 rfl ?_
    refine j_getf C hwsX0_packStretch 0 rfl rfl 13 (by decide) kX0_packStretch_108 rfl rfl eX0_packStretch_30 ?_
    refine j_iconst C eX0_packStretch_33 ?_
    refine j_iadd C eX0_packStretch_34 ?_
    refine j_iload_n C eX0_packStretch_35 2 rfl ?_
    refine j_bast C 9 0 rfl rfl (k + 1) (by push_cast; rfl) (by omega) (by omega) (nar_b (by omega)) eX0_packStretch_36 (wd' := wX cB cI cZ ad w h aG aS G S CB SB DK DR RE PF (zup (zup PK k (Int.bmod (n : Int) 256)) (k + 1) v) CO rc pn (k : Int) cn) rfl ?_
    refine j_aload_n C eX0_packStretch_37 0 rfl ?_
    refine j_dup C eX0_packStretch_38 rfl ?_
    refine j_getf C hwsX0_packStretch 0 rfl rfl 13 (by decide) kX0_packStretch_108 rfl rfl eX0_packStretch_39 ?_
    refine j_iconst C eX0_packStretch_42 ?_
    refine j_iadd C eX0_packStretch_43 ?_
    refine j_putf C hwsX0_packStretch tyX0 tyX0_ok nmX0 0 rfl rfl 13 (by decide) kX0_packStretch_108 rfl rfl (tyX0_ok 13 (by decide)) rfl rfl (Nat.le_of_ble_eq_true rfl) eX0_packStretch_44 (wd' := wX cB cI cZ ad w h aG aS G S CB SB DK DR RE PF (zup (zup PK k (Int.bmod (n : Int) 256)) (k + 1) v) CO rc pn ((k : Int) + 2) cn) rfl ?_
    exact j_vret C hr hlocks eX0_packStretch_47 rfl
theorem hwsX0_add : ∀ w ∈ u_ws RX0 TX0 16, w ∈ wsX0_add := fun _ h => List.mem_cons_of_mem _ (List.mem_append_right _ h)
theorem kX0_add_55 : Cond.fieldLink RX0 55 "SheetRows" (TX0 14).2.1 (TX0 14).2.2.1 ∈ wsX0_add := by decide +kernel
theorem kX0_add_117 : Cond.fieldLink RX0 117 "SheetRows" (TX0 15).2.1 (TX0 15).2.2.1 ∈ wsX0_add := by decide +kernel
abbrev rmX0_add : Room := { frames := 0, cells := 0, slots := 0, locals := 0 }
set_option maxHeartbeats 4000000 in
set_option maxRecDepth 100000 in
theorem ctX0_add (l : Launch) (D : va_G) (cB cI cZ cL : ClassId) (ad : Nat → Nat) (w h : Nat) (hs : Sz w h) (aG aS : Nat) (G S CB SB DK DR RE PF PK CO : Nat → Int) (rc pn kn : Int) (k : Nat) (hk : k ≤ 5000) (v : Int) (hv : -128 ≤ v ∧ v ≤ 127) : mV l yX0_add wsX0_add rmX0_add D vwCl (tyl cB cI cZ cL) [.ref (ad 0), .int (zI v)] (wX cB cI cZ ad w h aG aS G S CB SB DK DR RE PF PK CO rc pn kn (k : Int)) 0 0 (fun w1 => w1 = if k < 5000 then wX cB cI cZ ad w h aG aS G S CB SB DK DR RE PF PK (zup CO k v) rc pn kn ((k : Int) + 1) else wX cB cI cZ ad w h aG aS G S CB SB DK DR RE PF PK CO rc pn kn (k : Int)) := by
  refine mV_of (own := RX0) rfl (by decide) rfl (Nat.le_of_ble_eq_true rfl) ?_
  intro p e s m args below meth c C hr hlocks hname
  show J p l e rmX0_add s m args below meth c _ 2 D vwCl _ 0 [(0, .ref (ad 0)), (1, .int (zI v))] [] (wX cB cI cZ ad w h aG aS G S CB SB DK DR RE PF PK CO rc pn kn (k : Int)) 0 0
  refine j_aload_n C eX0_add_0 0 rfl ?_
  refine j_getf C hwsX0_add 0 rfl rfl 15 (by decide) kX0_add_117 rfl rfl eX0_add_1 ?_
  refine j_sipush C eX0_add_4 (by decide +kernel) ?_
  refine j_icmp_ge C 30 eX0_add_7 (by decide) (by omega) (by omega) (fun c7 => ?_) (fun c7 => ?_)
  ·
    exact j_vret C hr hlocks eX0_add_30 (by rw [if_neg (by omega)])
  ·
    refine j_aload_n C eX0_add_10 0 rfl ?_
    refine j_getf C hwsX0_add 0 rfl rfl 14 (by decide) kX0_add_55 rfl rfl eX0_add_11 ?_
    refine j_aload_n C eX0_add_14 0 rfl ?_
    refine j_getf C hwsX0_add 0 rfl rfl 15 (by decide) kX0_add_117 rfl rfl eX0_add_15 ?_
    refine j_iload_n C eX0_add_18 1 rfl ?_
    refine j_bast C 10 0 rfl rfl k rfl (by omega) (by omega) (nar_b (by omega)) eX0_add_19 (wd' := wX cB cI cZ ad w h aG aS G S CB SB DK DR RE PF PK (zup CO k v) rc pn kn (k : Int)) rfl ?_
    refine j_aload_n C eX0_add_20 0 rfl ?_
    refine j_dup C eX0_add_21 rfl ?_
    refine j_getf C hwsX0_add 0 rfl rfl 15 (by decide) kX0_add_117 rfl rfl eX0_add_22 ?_
    refine j_iconst C eX0_add_25 ?_
    refine j_iadd C eX0_add_26 ?_
    refine j_putf C hwsX0_add tyX0 tyX0_ok nmX0 0 rfl rfl 15 (by decide) kX0_add_117 rfl rfl (tyX0_ok 15 (by decide)) rfl rfl (Nat.le_of_ble_eq_true rfl) eX0_add_27 (wd' := wX cB cI cZ ad w h aG aS G S CB SB DK DR RE PF PK (zup CO k v) rc pn kn ((k : Int) + 1)) rfl ?_
    exact j_vret C hr hlocks eX0_add_30 (by rw [if_pos (by omega)])
theorem hwsX0_reach : ∀ w ∈ u_ws RX0 TX0 16, w ∈ wsX0_reach := fun _ h => List.mem_cons_of_mem _ (List.mem_append_right _ h)
theorem kX0_reach_39 : Cond.fieldLink RX0 39 "SheetRows" (TX0 6).2.1 (TX0 6).2.2.1 ∈ wsX0_reach := by decide +kernel
theorem kX0_reach_46 : Cond.fieldLink RX0 46 "SheetRows" (TX0 8).2.1 (TX0 8).2.2.1 ∈ wsX0_reach := by decide +kernel
theorem kX0_reach_92 : Cond.fieldLink RX0 92 "SheetRows" (TX0 9).2.1 (TX0 9).2.2.1 ∈ wsX0_reach := by decide +kernel
abbrev rmX0_reach : Room := { frames := 0, cells := 0, slots := 0, locals := 0 }
set_option maxHeartbeats 4000000 in
set_option maxRecDepth 100000 in
theorem ctX0_reach (l : Launch) (D : va_G) (cB cI cZ cL : ClassId) (ad : Nat → Nat) (w h : Nat) (hs : Sz w h) (aG aS : Nat) (G S CB SB DK DR RE PF PK CO : Nat → Int) (pn kn cn : Int) (q r : Nat) (hq : q < w * h) (hr9 : DK q = 1 → r < w * h) (hd : DK q = 0 ∨ DK q = 1) : mV l yX0_reach wsX0_reach rmX0_reach D vwCl (tyl cB cI cZ cL) [.ref (ad 0), .int (zI (q : Int))] (wX cB cI cZ ad w h aG aS G S CB SB DK DR RE PF PK CO (r : Int) pn kn cn) 0 0 (fun w1 => w1 = if DK q = 1 then wX cB cI cZ ad w h aG aS G S CB SB (zup DK q 0) DR (zup RE r (q : Int)) PF PK CO ((r : Int) + 1) pn kn cn else wX cB cI cZ ad w h aG aS G S CB SB DK DR RE PF PK CO (r : Int) pn kn cn) := by
  refine mV_of (own := RX0) rfl (by decide) rfl (Nat.le_of_ble_eq_true rfl) ?_
  intro p e s m args below meth c C hr hlocks hname
  show J p l e rmX0_reach s m args below meth c _ 2 D vwCl _ 0 [(0, .ref (ad 0)), (1, .int (zI (q : Int)))] [] (wX cB cI cZ ad w h aG aS G S CB SB DK DR RE PF PK CO (r : Int) pn kn cn) 0 0
  have hm := hs.mul
  refine j_aload_n C eX0_reach_0 0 rfl ?_
  refine j_getf C hwsX0_reach 0 rfl rfl 6 (by decide) kX0_reach_39 rfl rfl eX0_reach_1 ?_
  refine j_iload_n C eX0_reach_4 1 rfl ?_
  refine j_zald C 5 2 rfl rfl q rfl (by omega) (by omega) eX0_reach_5 ?_
  refine j_if_eq C 48 eX0_reach_6 (by decide) (by omega) (fun c6 => ?_) (fun c6 => ?_)
  ·
    exact j_vret C hr hlocks eX0_reach_48 (by rw [if_neg (by omega)])
  ·
    have hr8 := hr9 (by omega)
    refine j_aload_n C eX0_reach_9 0 rfl ?_
    refine j_getf C hwsX0_reach 0 rfl rfl 9 (by decide) kX0_reach_92 rfl rfl eX0_reach_10 ?_
    refine j_aload_n C eX0_reach_13 0 rfl ?_
    refine j_getf C hwsX0_reach 0 rfl rfl 8 (by decide) kX0_reach_46 rfl rfl eX0_reach_14 ?_
    refine j_alen C 7 1 rfl rfl eX0_reach_17 ?_
    refine j_icmp_ge C 48 eX0_reach_18 (by decide) (by omega) (by omega) (fun c18 => ?_) (fun c18 => ?_)
    ·
      exact absurd c18 (by omega)
    ·
      refine j_aload_n C eX0_reach_21 0 rfl ?_
      refine j_getf C hwsX0_reach 0 rfl rfl 6 (by decide) kX0_reach_39 rfl rfl eX0_reach_22 ?_
      refine j_iload_n C eX0_reach_25 1 rfl ?_
      refine j_iconst C eX0_reach_26 ?_
      refine j_zast C 5 2 rfl rfl q rfl (by omega) (by omega) (nar_z (by omega)) eX0_reach_27 (wd' := wX cB cI cZ ad w h aG aS G S CB SB (zup DK q 0) DR RE PF PK CO (r : Int) pn kn cn) rfl ?_
      refine j_aload_n C eX0_reach_28 0 rfl ?_
      refine j_getf C hwsX0_reach 0 rfl rfl 8 (by decide) kX0_reach_46 rfl rfl eX0_reach_29 ?_
      refine j_aload_n C eX0_reach_32 0 rfl ?_
      refine j_getf C hwsX0_reach 0 rfl rfl 9 (by decide) kX0_reach_92 rfl rfl eX0_reach_33 ?_
      refine j_iload_n C eX0_reach_36 1 rfl ?_
      refine j_iast C 7 1 rfl rfl r rfl (by omega) (by omega) eX0_reach_37 (wd' := wX cB cI cZ ad w h aG aS G S CB SB (zup DK q 0) DR (zup RE r (q : Int)) PF PK CO (r : Int) pn kn cn) rfl ?_
      refine j_aload_n C eX0_reach_38 0 rfl ?_
      refine j_dup C eX0_reach_39 rfl ?_
      refine j_getf C hwsX0_reach 0 rfl rfl 9 (by decide) kX0_reach_92 rfl rfl eX0_reach_40 ?_
      refine j_iconst C eX0_reach_43 ?_
      refine j_iadd C eX0_reach_44 ?_
      refine j_putf C hwsX0_reach tyX0 tyX0_ok nmX0 0 rfl rfl 9 (by decide) kX0_reach_92 rfl rfl (tyX0_ok 9 (by decide)) rfl rfl (Nat.le_of_ble_eq_true rfl) eX0_reach_45 (wd' := wX cB cI cZ ad w h aG aS G S CB SB (zup DK q 0) DR (zup RE r (q : Int)) PF PK CO ((r : Int) + 1) pn kn cn) rfl ?_
      exact j_vret C hr hlocks eX0_reach_48 (by rw [if_pos (by omega)])
theorem hwsX0_meanOfFour : ∀ w ∈ u_ws RX0 TX0 16, w ∈ wsX0_meanOfFour := fun _ h => List.mem_cons_of_mem _ (List.mem_append_right _ h)
theorem kX0_meanOfFour_18 : Cond.fieldLink RX0 18 "SheetRows" (TX0 0).2.1 (TX0 0).2.2.1 ∈ wsX0_meanOfFour := by decide +kernel
theorem kX0_meanOfFour_25 : Cond.fieldLink RX0 25 "SheetRows" (TX0 2).2.1 (TX0 2).2.2.1 ∈ wsX0_meanOfFour := by decide +kernel
abbrev rmX0_meanOfFour : Room := { frames := 0, cells := 0, slots := 0, locals := 0 }
set_option maxHeartbeats 4000000 in
set_option maxRecDepth 100000 in
theorem ctX0_meanOfFour (l : Launch) (D : va_G) (cB cI cZ cL : ClassId) (ad : Nat → Nat) (w h : Nat) (hs : Sz w h) (aG aS : Nat) (G S CB SB DK DR RE PF PK CO : Nat → Int) (rc pn kn cn : Int) (q : Nat) (hq : q + w + 1 < w * h) : mI l yX0_meanOfFour wsX0_meanOfFour rmX0_meanOfFour D vwCl (tyl cB cI cZ cL) [.ref (ad 0), .int (zI (q : Int))] (wX cB cI cZ ad w h aG aS G S CB SB DK DR RE PF PK CO rc pn kn cn) 0 0 (fun z w1 => w1 = wX cB cI cZ ad w h aG aS G S CB SB DK DR RE PF PK CO rc pn kn cn ∧ z = Int.bmod ((G q % 256 + G (q + 1) % 256 + (G (q + w) % 256 + G (q + w + 1) % 256)) / 4) 256) := by
  refine mI_of (own := RX0) rfl (by decide) rfl (Nat.le_of_ble_eq_true rfl) ?_
  intro p e s m args below meth c C hr hlocks hname
  show J p l e rmX0_meanOfFour s m args below meth c _ 4 D vwCl _ 0 [(0, .ref (ad 0)), (1, .int (zI (q : Int)))] [] (wX cB cI cZ ad w h aG aS G S CB SB DK DR RE PF PK CO rc pn kn cn) 0 0
  have hm := hs.mul
  refine j_aload_n C eX0_meanOfFour_0 0 rfl ?_
  refine j_getf C hwsX0_meanOfFour 0 rfl rfl 2 (by decide) kX0_meanOfFour_25 rfl rfl eX0_meanOfFour_1 ?_
  refine j_iload_n C eX0_meanOfFour_4 1 rfl ?_
  refine j_bald C 1 0 rfl rfl q rfl (by omega) (by omega) eX0_meanOfFour_5 ?_
  refine j_sipush C eX0_meanOfFour_6 (by decide +kernel) ?_
  refine j_and255 C eX0_meanOfFour_9 ?_
  refine j_aload_n C eX0_meanOfFour_10 0 rfl ?_
  refine j_getf C hwsX0_meanOfFour 0 rfl rfl 2 (by decide) kX0_meanOfFour_25 rfl rfl eX0_meanOfFour_11 ?_
  refine j_iload_n C eX0_meanOfFour_14 1 rfl ?_
  refine j_iconst C eX0_meanOfFour_15 ?_
  refine j_iadd C eX0_meanOfFour_16 ?_
  refine j_bald C 1 0 rfl rfl (q + 1) (by push_cast; rfl) (by omega) (by omega) eX0_meanOfFour_17 ?_
  refine j_sipush C eX0_meanOfFour_18 (by decide +kernel) ?_
  refine j_and255 C eX0_meanOfFour_21 ?_
  refine j_iadd C eX0_meanOfFour_22 ?_
  refine j_istore_n C eX0_meanOfFour_23 rfl (by decide) (lv' := [(0, .ref (ad 0)), (1, .int (zI (q : Int))), (2, .int (zI (((G q) % 256) + ((G (q + 1)) % 256))))]) rfl ?_
  refine j_aload_n C eX0_meanOfFour_24 0 rfl ?_
  refine j_getf C hwsX0_meanOfFour 0 rfl rfl 2 (by decide) kX0_meanOfFour_25 rfl rfl eX0_meanOfFour_25 ?_
  refine j_iload_n C eX0_meanOfFour_28 1 rfl ?_
  refine j_aload_n C eX0_meanOfFour_29 0 rfl ?_
  refine j_getf C hwsX0_meanOfFour 0 rfl rfl 0 (by decide) kX0_meanOfFour_18 rfl rfl eX0_meanOfFour_30 ?_
  refine j_iadd C eX0_meanOfFour_33 ?_
  refine j_bald C 1 0 rfl rfl (q + w) (by push_cast; rfl) (by omega) (by omega) eX0_meanOfFour_34 ?_
  refine j_sipush C eX0_meanOfFour_35 (by decide +kernel) ?_
  refine j_and255 C eX0_meanOfFour_38 ?_
  refine j_aload_n C eX0_meanOfFour_39 0 rfl ?_
  refine j_getf C hwsX0_meanOfFour 0 rfl rfl 2 (by decide) kX0_meanOfFour_25 rfl rfl eX0_meanOfFour_40 ?_
  refine j_iload_n C eX0_meanOfFour_43 1 rfl ?_
  refine j_aload_n C eX0_meanOfFour_44 0 rfl ?_
  refine j_getf C hwsX0_meanOfFour 0 rfl rfl 0 (by decide) kX0_meanOfFour_18 rfl rfl eX0_meanOfFour_45 ?_
  refine j_iadd C eX0_meanOfFour_48 ?_
  refine j_iconst C eX0_meanOfFour_49 ?_
  refine j_iadd C eX0_meanOfFour_50 ?_
  refine j_bald C 1 0 rfl rfl ((q + w) + 1) (by push_cast; rfl) (by omega) (by omega) eX0_meanOfFour_51 ?_
  refine j_sipush C eX0_meanOfFour_52 (by decide +kernel) ?_
  refine j_and255 C eX0_meanOfFour_55 ?_
  refine j_iadd C eX0_meanOfFour_56 ?_
  refine j_istore_n C eX0_meanOfFour_57 rfl (by decide) (lv' := [(0, .ref (ad 0)), (1, .int (zI (q : Int))), (2, .int (zI (((G q) % 256) + ((G (q + 1)) % 256)))), (3, .int (zI (((G (q + w)) % 256) + ((G ((q + w) + 1)) % 256))))]) rfl ?_
  refine j_iload_n C eX0_meanOfFour_58 2 rfl ?_
  refine j_iload_n C eX0_meanOfFour_59 3 rfl ?_
  refine j_iadd C eX0_meanOfFour_60 ?_
  refine j_iconst C eX0_meanOfFour_61 ?_
  refine j_idiv C eX0_meanOfFour_62 (by omega) (by omega) ?_
  refine j_i2bz C eX0_meanOfFour_63 ?_
  refine j_iret C hr hlocks ?_ eX0_meanOfFour_64 ⟨rfl, ?_⟩
  · show narrow .byte _ = _
    exact nar_byte (bm_in _)
  · rw [Int.tdiv_eq_ediv_of_nonneg (by omega)]
