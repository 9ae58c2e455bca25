/-! THE REFERENCE: leaves, threshold, dark -/
def gry (n : Nat) (g : Nat → Int) : Prop := ∀ k, k < n → 0 ≤ g k ∧ g k ≤ 255
theorem hwsX1_thrown : ∀ w ∈ u_ws RX1 TX1 15, w ∈ wsX1_thrown := fun _ h => List.mem_cons_of_mem _ (List.mem_append_right _ h)
theorem kX1_thrown_45 : Cond.fieldLink RX1 45 "SheetRowsModel" (TX1 0).2.1 (TX1 0).2.2.1 ∈ wsX1_thrown := by decide +kernel
abbrev rmX1_thrown : Room := { frames := 0, cells := 0, slots := 0, locals := 0 }
set_option maxHeartbeats 4000000 in
set_option maxRecDepth 100000 in
theorem ctX1_thrown (l : Launch) (D : va_G) (cB cI cZ cL : ClassId) (bd : Nat → Nat) (w h : Nat) (hs : Sz w h) (G O CT LB FS TD PR BY : Nat → Int) (th pn kn cn : Int)  : mI l yX1_thrown wsX1_thrown rmX1_thrown D vwCl (tyl cB cI cZ cL) [.ref (bd 0)] (wM cB cI bd w h G O CT LB FS TD PR BY th pn kn cn) 0 0 (fun z w1 => w1 = wM cB cI bd w h G O CT LB FS TD PR BY th pn kn cn ∧ z = th) := by
  refine mI_of (own := RX1) rfl (by decide) rfl (Nat.le_of_ble_eq_true rfl) ?_
  intro p e s m args below meth c C hr hlocks hname
  show J p l e rmX1_thrown s m args below meth c _ 1 D vwCl _ 0 [(0, .ref (bd 0))] [] (wM cB cI bd w h G O CT LB FS TD PR BY th pn kn cn) 0 0
  refine j_aload_n C eX1_thrown_0 0 rfl ?_
  refine j_getf C hwsX1_thrown 0 rfl rfl 0 (by decide) kX1_thrown_45 rfl rfl eX1_thrown_1 ?_
  exact j_iret C hr hlocks rfl eX1_thrown_4 ⟨rfl, rfl⟩
theorem hwsX1_refused : ∀ w ∈ u_ws RX1 TX1 15, w ∈ wsX1_refused := fun _ h => List.mem_cons_of_mem _ (List.mem_append_right _ h)
theorem kX1_refused_45 : Cond.fieldLink RX1 45 "SheetRowsModel" (TX1 0).2.1 (TX1 0).2.2.1 ∈ wsX1_refused := by decide +kernel
abbrev rmX1_refused : Room := { frames := 0, cells := 0, slots := 0, locals := 0 }
set_option maxHeartbeats 4000000 in
set_option maxRecDepth 100000 in
theorem ctX1_refused (l : Launch) (D : va_G) (cB cI cZ cL : ClassId) (bd : Nat → Nat) (w h : Nat) (hs : Sz w h) (G O CT LB FS TD PR BY : Nat → Int) (th pn kn cn : Int) (b : Int) (hb : 0 ≤ b ∧ b ≤ 1) : mI l yX1_refused wsX1_refused rmX1_refused D vwCl (tyl cB cI cZ cL) [.ref (bd 0), .int (zI b)] (wM cB cI bd w h G O CT LB FS TD PR BY th pn kn cn) 0 0 (fun z w1 => w1 = wM cB cI bd w h G O CT LB FS TD PR BY b pn kn cn ∧ z = b) := by
  refine mI_of (own := RX1) rfl (by decide) rfl (Nat.le_of_ble_eq_true rfl) ?_
  intro p e s m args below meth c C hr hlocks hname
  show J p l e rmX1_refused s m args below meth c _ 2 D vwCl _ 0 [(0, .ref (bd 0)), (1, .int (zI b))] [] (wM cB cI bd w h G O CT LB FS TD PR BY th pn kn cn) 0 0
  refine j_aload_n C eX1_refused_0 0 rfl ?_
  refine j_iload_n C eX1_refused_1 1 rfl ?_
  refine j_if_eq C 9 eX1_refused_2 (by decide) (by omega) (fun c2 => ?_) (fun c2 => ?_)
  ·
    refine j_iconst C eX1_refused_9 ?_
    have hb9 : (0 : Int) = b := by omega
    refine j_top (y := zI b) (by rw [hb9]) ?_
    refine j_putf C hwsX1_refused tyX1 tyX1_ok nmX1 0 rfl rfl 0 (by decide) kX1_refused_45 rfl rfl (tyX1_ok 0 (by decide)) rfl rfl (Nat.le_of_ble_eq_true rfl) eX1_refused_10 (wd' := wM cB cI bd w h G O CT LB FS TD PR BY b pn kn cn) rfl ?_
    refine j_iload_n C eX1_refused_13 1 rfl ?_
    exact j_iret C hr hlocks (nar_bool hb) eX1_refused_14 ⟨rfl, rfl⟩
  ·
    refine j_iconst C eX1_refused_5 ?_
    refine j_goto C 10 eX1_refused_6 (by decide) ?_
    have hb9 : (1 : Int) = b := by omega
    refine j_top (y := zI b) (by rw [hb9]) ?_
    refine j_putf C hwsX1_refused tyX1 tyX1_ok nmX1 0 rfl rfl 0 (by decide) kX1_refused_45 rfl rfl (tyX1_ok 0 (by decide)) rfl rfl (Nat.le_of_ble_eq_true rfl) eX1_refused_10 (wd' := wM cB cI bd w h G O CT LB FS TD PR BY b pn kn cn) rfl ?_
    refine j_iload_n C eX1_refused_13 1 rfl ?_
    exact j_iret C hr hlocks (nar_bool hb) eX1_refused_14 ⟨rfl, rfl⟩
theorem hwsX1_isOn : ∀ w ∈ u_ws RX1 TX1 15, w ∈ wsX1_isOn := fun _ h => List.mem_cons_of_mem _ (List.mem_append_right _ h)
theorem kX1_isOn_35 : Cond.fieldLink RX1 35 "SheetRowsModel" (TX1 1).2.1 (TX1 1).2.2.1 ∈ wsX1_isOn := by decide +kernel
theorem kX1_isOn_39 : Cond.fieldLink RX1 39 "SheetRowsModel" (TX1 2).2.1 (TX1 2).2.2.1 ∈ wsX1_isOn := by decide +kernel
abbrev rmX1_isOn : Room := { frames := 0, cells := 0, slots := 0, locals := 0 }
set_option maxHeartbeats 4000000 in
set_option maxRecDepth 100000 in
theorem ctX1_isOn (l : Launch) (D : va_G) (cB cI cZ cL : ClassId) (bd : Nat → Nat) (w h : Nat) (hs : Sz w h) (G O CT LB FS TD PR BY : Nat → Int) (th pn kn cn : Int) (x y : Int) (hx : -2147483648 ≤ x ∧ x ≤ 2147483647) (hy : -2147483648 ≤ y ∧ y ≤ 2147483647) : mI l yX1_isOn wsX1_isOn rmX1_isOn D vwCl (tyl cB cI cZ cL) [.ref (bd 0), .int (zI x), .int (zI y)] (wM cB cI bd w h G O CT LB FS TD PR BY th pn kn cn) 0 0 (fun z w1 => w1 = wM cB cI bd w h G O CT LB FS TD PR BY th pn kn cn ∧ z = if (0 ≤ x ∧ x < (w : Int) ∧ 0 ≤ y ∧ y < (h : Int)) then 1 else 0) := by
  refine mI_of (own := RX1) rfl (by decide) rfl (Nat.le_of_ble_eq_true rfl) ?_
  intro p e s m args below meth c C hr hlocks hname
  show J p l e rmX1_isOn s m args below meth c _ 3 D vwCl _ 0 [(0, .ref (bd 0)), (1, .int (zI x)), (2, .int (zI y))] [] (wM cB cI bd w h G O CT LB FS TD PR BY th pn kn cn) 0 0
  obtain ⟨h1, h2, h3, h4⟩ := id hs
  refine j_iload_n C eX1_isOn_0 1 rfl ?_
  refine j_if_lt C 28 eX1_isOn_1 (by decide) (by omega) (fun c1 => ?_) (fun c1 => ?_)
  ·
    refine j_iconst C eX1_isOn_28 ?_
    exact j_iret C hr hlocks rfl eX1_isOn_29 ⟨rfl, by rw [if_neg (by omega)]⟩
  ·
    refine j_iload_n C eX1_isOn_4 1 rfl ?_
    refine j_aload_n C eX1_isOn_5 0 rfl ?_
    refine j_getf C hwsX1_isOn 0 rfl rfl 1 (by decide) kX1_isOn_35 rfl rfl eX1_isOn_6 ?_
    refine j_icmp_ge C 28 eX1_isOn_9 (by decide) (by omega) (by omega) (fun c9 => ?_) (fun c9 => ?_)
    ·
      refine j_iconst C eX1_isOn_28 ?_
      exact j_iret C hr hlocks rfl eX1_isOn_29 ⟨rfl, by rw [if_neg (by omega)]⟩
    ·
      refine j_iload_n C eX1_isOn_12 2 rfl ?_
      refine j_if_lt C 28 eX1_isOn_13 (by decide) (by omega) (fun c13 => ?_) (fun c13 => ?_)
      ·
        refine j_iconst C eX1_isOn_28 ?_
        exact j_iret C hr hlocks rfl eX1_isOn_29 ⟨rfl, by rw [if_neg (by omega)]⟩
      ·
        refine j_iload_n C eX1_isOn_16 2 rfl ?_
        refine j_aload_n C eX1_isOn_17 0 rfl ?_
        refine j_getf C hwsX1_isOn 0 rfl rfl 2 (by decide) kX1_isOn_39 rfl rfl eX1_isOn_18 ?_
        refine j_icmp_ge C 28 eX1_isOn_21 (by decide) (by omega) (by omega) (fun c21 => ?_) (fun c21 => ?_)
        ·
          refine j_iconst C eX1_isOn_28 ?_
          exact j_iret C hr hlocks rfl eX1_isOn_29 ⟨rfl, by rw [if_neg (by omega)]⟩
        ·
          refine j_iconst C eX1_isOn_24 ?_
          refine j_goto C 29 eX1_isOn_25 (by decide) ?_
          exact j_iret C hr hlocks rfl eX1_isOn_29 ⟨rfl, by rw [if_pos (by omega)]⟩
theorem hwsX1_put : ∀ w ∈ u_ws RX1 TX1 15, w ∈ wsX1_put := fun _ h => List.mem_cons_of_mem _ (List.mem_append_right _ h)
theorem kX1_put_7 : Cond.fieldLink RX1 7 "SheetRowsModel" (TX1 4).2.1 (TX1 4).2.2.1 ∈ wsX1_put := by decide +kernel
theorem kX1_put_35 : Cond.fieldLink RX1 35 "SheetRowsModel" (TX1 1).2.1 (TX1 1).2.2.1 ∈ wsX1_put := by decide +kernel
abbrev rmX1_put : Room := { frames := 1, cells := 0, slots := 0, locals := 22 }
set_option maxHeartbeats 4000000 in
set_option maxRecDepth 100000 in
theorem ctX1_put_on (l : Launch) (D : va_G) (cB cI cZ cL : ClassId) (bd : Nat → Nat) (w h : Nat) (hs : Sz w h) (G O CT LB FS TD PR BY : Nat → Int) (th pn kn cn : Int) (x y : Nat) (hx : x < w) (hy : y < h) (v : Int) : mV l yX1_put wsX1_put rmX1_put D vwCl (tyl cB cI cZ cL) [.ref (bd 0), .int (zI (x : Int)), .int (zI (y : Int)), .int (zI v)] (wM cB cI bd w h G O CT LB FS TD PR BY th pn kn cn) 0 0 (fun w1 => w1 = wM cB cI bd w h (zup G (y * w + x) (v % 256)) O CT LB FS TD PR BY 0 pn kn cn) := by
  refine mV_of (own := RX1) rfl (by decide) rfl (Nat.le_of_ble_eq_true rfl) ?_
  intro p e s m args below meth c C hr hlocks hname
  show J p l e rmX1_put s m args below meth c _ 4 D vwCl _ 0 [(0, .ref (bd 0)), (1, .int (zI (x : Int))), (2, .int (zI (y : Int))), (3, .int (zI v))] [] (wM cB cI bd w h G O CT LB FS TD PR BY th pn kn cn) 0 0
  have hm := hs.mul
  obtain ⟨h1, h2, h3, h4⟩ := id hs
  have h7 := ix_lt (w := w) (h := h) (x := x) (y := y) hx hy
  refine j_aload_n C eX1_put_0 0 rfl ?_
  refine j_aload_n C eX1_put_1 0 rfl ?_
  refine j_iload_n C eX1_put_2 1 rfl ?_
  refine j_iload_n C eX1_put_3 2 rfl ?_
  refine j_callVi C (As := [.int (zI (x : Int)), .int (zI (y : Int))]) (rest := [.ref (bd 0)]) (ctX1_isOn l D cB cI cZ cL bd w h hs G O CT LB FS TD PR BY th pn kn cn (x : Int) (y : Int) (by omega) (by omega)) (cwV 2 C.1.2.2.2.2 gX1_put_X1_isOn rfl rfl rfl (by decide +kernel) ⟨Nat.le_of_ble_eq_true rfl, Nat.le_of_ble_eq_true rfl⟩) [0, 1, 2, 3, 4, 5, 6, 7, 8] [] (wr := []) rfl (by decide) rfl (by decide) (by decide) 0 rfl rfl rfl rfl (Nat.le_of_ble_eq_true rfl) eX1_put_4 ⟨Nat.le_of_ble_eq_true rfl, Nat.le_of_ble_eq_true rfl⟩ (fun z w1 hp => ?_)
  obtain ⟨rfl, rfl⟩ := hp
  rw [if_pos (by omega)]
  rw [List.nil_append]
  refine j_if_ne C 14 eX1_put_7 (by decide) (by omega) (fun c7 => ?_) (fun c7 => ?_)
  ·
    refine j_iconst C eX1_put_14 ?_
    refine j_callVi C (As := [.int (zI 0)]) (rest := []) (ctX1_refused l D cB cI cZ cL bd w h hs G O CT LB FS TD PR BY th pn kn cn 0 (by omega)) (cwV 1 C.1.2.2.2.2 gX1_put_X1_refused rfl rfl rfl (by decide +kernel) ⟨Nat.le_of_ble_eq_true rfl, Nat.le_of_ble_eq_true rfl⟩) [0, 1, 2, 3, 4, 5, 6, 7, 8] [] (wr := []) rfl (by decide) rfl (by decide) (by decide) 0 rfl rfl rfl rfl (Nat.le_of_ble_eq_true rfl) eX1_put_15 ⟨Nat.le_of_ble_eq_true rfl, Nat.le_of_ble_eq_true rfl⟩ (fun z w1 hp => ?_)
    obtain ⟨rfl, rfl⟩ := hp
    rw [List.nil_append]
    refine j_if_ne C 39 eX1_put_18 (by decide) (by omega) (fun c18 => ?_) (fun c18 => ?_)
    ·
      exact absurd c18 (by omega)
    ·
      refine j_aload_n C eX1_put_21 0 rfl ?_
      refine j_getf C hwsX1_put 0 rfl rfl 4 (by decide) kX1_put_7 rfl rfl eX1_put_22 ?_
      refine j_aload_n C eX1_put_25 0 rfl ?_
      refine j_getf C hwsX1_put 0 rfl rfl 1 (by decide) kX1_put_35 rfl rfl eX1_put_26 ?_
      refine j_iload_n C eX1_put_29 2 rfl ?_
      refine j_imul C eX1_put_30 ?_
      refine j_iload_n C eX1_put_31 1 rfl ?_
      refine j_iadd C eX1_put_32 ?_
      refine j_iload_n C eX1_put_33 3 rfl ?_
      refine j_sipush C eX1_put_34 (by decide +kernel) ?_
      refine j_and255 C eX1_put_37 ?_
      refine j_iast C 1 1 rfl rfl (y * w + x) (by rw [Int.mul_comm]; push_cast; rfl) (by omega) (by omega) eX1_put_38 (wd' := wM cB cI bd w h (zup G (y * w + x) (v % 256)) O CT LB FS TD PR BY 0 pn kn cn) rfl ?_
      exact j_vret C hr hlocks eX1_put_39 rfl
  ·
    exact absurd c7 (by omega)
set_option maxHeartbeats 4000000 in
set_option maxRecDepth 100000 in
theorem ctX1_put_off (l : Launch) (D : va_G) (cB cI cZ cL : ClassId) (bd : Nat → Nat) (w h : Nat) (hs : Sz w h) (G O CT LB FS TD PR BY : Nat → Int) (th pn kn cn : Int) (x y : Int) (hx : -2147483648 ≤ x ∧ x ≤ 2147483647) (hy : -2147483648 ≤ y ∧ y ≤ 2147483647) (hon : ¬ (0 ≤ x ∧ x < (w : Int) ∧ 0 ≤ y ∧ y < (h : Int))) (v : Int) : mV l yX1_put wsX1_put rmX1_put D vwCl (tyl cB cI cZ cL) [.ref (bd 0), .int (zI x), .int (zI y), .int (zI v)] (wM cB cI bd w h G O CT LB FS TD PR BY th pn kn cn) 0 0 (fun w1 => w1 = wM cB cI bd w h G O CT LB FS TD PR BY 1 pn kn cn) := by
  refine mV_of (own := RX1) rfl (by decide) rfl (Nat.le_of_ble_eq_true rfl) ?_
  intro p e s m args below meth c C hr hlocks hname
  show J p l e rmX1_put s m args below meth c _ 4 D vwCl _ 0 [(0, .ref (bd 0)), (1, .int (zI x)), (2, .int (zI y)), (3, .int (zI v))] [] (wM cB cI bd w h G O CT LB FS TD PR BY th pn kn cn) 0 0
  have hm := hs.mul
  obtain ⟨h1, h2, h3, h4⟩ := id hs
  refine j_aload_n C eX1_put_0 0 rfl ?_
  refine j_aload_n C eX1_put_1 0 rfl ?_
  refine j_iload_n C eX1_put_2 1 rfl ?_
  refine j_iload_n C eX1_put_3 2 rfl ?_
  refine j_callVi C (As := [.int (zI x), .int (zI y)]) (rest := [.ref (bd 0)]) (ctX1_isOn l D cB cI cZ cL bd w h hs G O CT LB FS TD PR BY th pn kn cn x y (by omega) (by omega)) (cwV 2 C.1.2.2.2.2 gX1_put_X1_isOn rfl rfl rfl (by decide +kernel) ⟨Nat.le_of_ble_eq_true rfl, Nat.le_of_ble_eq_true rfl⟩) [0, 1, 2, 3, 4, 5, 6, 7, 8] [] (wr := []) rfl (by decide) rfl (by decide) (by decide) 0 rfl rfl rfl rfl (Nat.le_of_ble_eq_true rfl) eX1_put_4 ⟨Nat.le_of_ble_eq_true rfl, Nat.le_of_ble_eq_true rfl⟩ (fun z w1 hp => ?_)
  obtain ⟨rfl, rfl⟩ := hp
  rw [if_neg hon]
  rw [List.nil_append]
  refine j_if_ne C 14 eX1_put_7 (by decide) (by omega) (fun c7 => ?_) (fun c7 => ?_)
  ·
    exact absurd c7 (by omega)
  ·
    refine j_iconst C eX1_put_10 ?_
    refine j_goto C 15 eX1_put_11 (by decide) ?_
    refine j_callVi C (As := [.int (zI 1)]) (rest := []) (ctX1_refused l D cB cI cZ cL bd w h hs G O CT LB FS TD PR BY th pn kn cn 1 (by omega)) (cwV 1 C.1.2.2.2.2 gX1_put_X1_refused rfl rfl rfl (by decide +kernel) ⟨Nat.le_of_ble_eq_true rfl, Nat.le_of_ble_eq_true rfl⟩) [0, 1, 2, 3, 4, 5, 6, 7, 8] [] (wr := []) rfl (by decide) rfl (by decide) (by decide) 0 rfl rfl rfl rfl (Nat.le_of_ble_eq_true rfl) eX1_put_15 ⟨Nat.le_of_ble_eq_true rfl, Nat.le_of_ble_eq_true rfl⟩ (fun z w1 hp => ?_)
    obtain ⟨rfl, rfl⟩ := hp
    rw [List.nil_append]
    refine j_if_ne C 39 eX1_put_18 (by decide) (by omega) (fun c18 => ?_) (fun c18 => ?_)
    ·
      exact j_vret C hr hlocks eX1_put_39 rfl
    ·
      exact absurd c18 (by omega)
theorem hwsX1_grey : ∀ w ∈ u_ws RX1 TX1 15, w ∈ wsX1_grey := fun _ h => List.mem_cons_of_mem _ (List.mem_append_right _ h)
theorem kX1_grey_7 : Cond.fieldLink RX1 7 "SheetRowsModel" (TX1 4).2.1 (TX1 4).2.2.1 ∈ wsX1_grey := by decide +kernel
theorem kX1_grey_35 : Cond.fieldLink RX1 35 "SheetRowsModel" (TX1 1).2.1 (TX1 1).2.2.1 ∈ wsX1_grey := by decide +kernel
abbrev rmX1_grey : Room := { frames := 1, cells := 0, slots := 0, locals := 22 }
set_option maxHeartbeats 4000000 in
set_option maxRecDepth 100000 in
theorem ctX1_grey_on (l : Launch) (D : va_G) (cB cI cZ cL : ClassId) (bd : Nat → Nat) (w h : Nat) (hs : Sz w h) (G O CT LB FS TD PR BY : Nat → Int) (th pn kn cn : Int) (x y : Nat) (hx : x < w) (hy : y < h) : mI l yX1_grey wsX1_grey rmX1_grey D vwCl (tyl cB cI cZ cL) [.ref (bd 0), .int (zI (x : Int)), .int (zI (y : Int))] (wM cB cI bd w h G O CT LB FS TD PR BY th pn kn cn) 0 0 (fun z w1 => w1 = wM cB cI bd w h G O CT LB FS TD PR BY 0 pn kn cn ∧ z = G (y * w + x)) := by
  refine mI_of (own := RX1) rfl (by decide) rfl (Nat.le_of_ble_eq_true rfl) ?_
  intro p e s m args below meth c C hr hlocks hname
  show J p l e rmX1_grey s m args below meth c _ 3 D vwCl _ 0 [(0, .ref (bd 0)), (1, .int (zI (x : Int))), (2, .int (zI (y : Int)))] [] (wM cB cI bd w h G O CT LB FS TD PR BY th pn kn cn) 0 0
  have hm := hs.mul
  obtain ⟨h1, h2, h3, h4⟩ := id hs
  have h7 := ix_lt (w := w) (h := h) (x := x) (y := y) hx hy
  refine j_aload_n C eX1_grey_0 0 rfl ?_
  refine j_aload_n C eX1_grey_1 0 rfl ?_
  refine j_iload_n C eX1_grey_2 1 rfl ?_
  refine j_iload_n C eX1_grey_3 2 rfl ?_
  refine j_callVi C (As := [.int (zI (x : Int)), .int (zI (y : Int))]) (rest := [.ref (bd 0)]) (ctX1_isOn l D cB cI cZ cL bd w h hs G O CT LB FS TD PR BY th pn kn cn (x : Int) (y : Int) (by omega) (by omega)) (cwV 2 C.1.2.2.2.2 gX1_grey_X1_isOn rfl rfl rfl (by decide +kernel) ⟨Nat.le_of_ble_eq_true rfl, Nat.le_of_ble_eq_true rfl⟩) [0, 1, 2, 3, 4, 5, 6, 7, 8] [] (wr := []) rfl (by decide) rfl (by decide) (by decide) 0 rfl rfl rfl rfl (Nat.le_of_ble_eq_true rfl) eX1_grey_4 ⟨Nat.le_of_ble_eq_true rfl, Nat.le_of_ble_eq_true rfl⟩ (fun z w1 hp => ?_)
  obtain ⟨rfl, rfl⟩ := hp
  rw [if_pos (by omega)]
  rw [List.nil_append]
  refine j_if_ne C 14 eX1_grey_7 (by decide) (by omega) (fun c7 => ?_) (fun c7 => ?_)
  ·
    refine j_iconst C eX1_grey_14 ?_
    refine j_callVi C (As := [.int (zI 0)]) (rest := []) (ctX1_refused l D cB cI cZ cL bd w h hs G O CT LB FS TD PR BY th pn kn cn 0 (by omega)) (cwV 1 C.1.2.2.2.2 gX1_grey_X1_refused rfl rfl rfl (by decide +kernel) ⟨Nat.le_of_ble_eq_true rfl, Nat.le_of_ble_eq_true rfl⟩) [0, 1, 2, 3, 4, 5, 6, 7, 8] [] (wr := []) rfl (by decide) rfl (by decide) (by decide) 0 rfl rfl rfl rfl (Nat.le_of_ble_eq_true rfl) eX1_grey_15 ⟨Nat.le_of_ble_eq_true rfl, Nat.le_of_ble_eq_true rfl⟩ (fun z w1 hp => ?_)
    obtain ⟨rfl, rfl⟩ := hp
    rw [List.nil_append]
    refine j_if_eq C 25 eX1_grey_18 (by decide) (by omega) (fun c18 => ?_) (fun c18 => ?_)
    ·
      refine j_aload_n C eX1_grey_25 0 rfl ?_
      refine j_getf C hwsX1_grey 0 rfl rfl 4 (by decide) kX1_grey_7 rfl rfl eX1_grey_26 ?_
      refine j_aload_n C eX1_grey_29 0 rfl ?_
      refine j_getf C hwsX1_grey 0 rfl rfl 1 (by decide) kX1_grey_35 rfl rfl eX1_grey_30 ?_
      refine j_iload_n C eX1_grey_33 2 rfl ?_
      refine j_imul C eX1_grey_34 ?_
      refine j_iload_n C eX1_grey_35 1 rfl ?_
      refine j_iadd C eX1_grey_36 ?_
      refine j_iald C 1 1 rfl rfl (y * w + x) (by rw [Int.mul_comm]; push_cast; rfl) (by omega) (by omega) eX1_grey_37 ?_
      exact j_iret C hr hlocks rfl eX1_grey_38 ⟨rfl, rfl⟩
    ·
      exact absurd c18 (by omega)
  ·
    exact absurd c7 (by omega)
set_option maxHeartbeats 4000000 in
set_option maxRecDepth 100000 in
theorem ctX1_grey_off (l : Launch) (D : va_G) (cB cI cZ cL : ClassId) (bd : Nat → Nat) (w h : Nat) (hs : Sz w h) (G O CT LB FS TD PR BY : Nat → Int) (th pn kn cn : Int) (x y : Int) (hx : -2147483648 ≤ x ∧ x ≤ 2147483647) (hy : -2147483648 ≤ y ∧ y ≤ 2147483647) (hon : ¬ (0 ≤ x ∧ x < (w : Int) ∧ 0 ≤ y ∧ y < (h : Int))) : mI l yX1_grey wsX1_grey rmX1_grey D vwCl (tyl cB cI cZ cL) [.ref (bd 0), .int (zI x), .int (zI y)] (wM cB cI bd w h G O CT LB FS TD PR BY th pn kn cn) 0 0 (fun z w1 => w1 = wM cB cI bd w h G O CT LB FS TD PR BY 1 pn kn cn ∧ z = 0) := by
  refine mI_of (own := RX1) rfl (by decide) rfl (Nat.le_of_ble_eq_true rfl) ?_
  intro p e s m args below meth c C hr hlocks hname
  show J p l e rmX1_grey s m args below meth c _ 3 D vwCl _ 0 [(0, .ref (bd 0)), (1, .int (zI x)), (2, .int (zI y))] [] (wM cB cI bd w h G O CT LB FS TD PR BY th pn kn cn) 0 0
  have hm := hs.mul
  obtain ⟨h1, h2, h3, h4⟩ := id hs
  refine j_aload_n C eX1_grey_0 0 rfl ?_
  refine j_aload_n C eX1_grey_1 0 rfl ?_
  refine j_iload_n C eX1_grey_2 1 rfl ?_
  refine j_iload_n C eX1_grey_3 2 rfl ?_
  refine j_callVi C (As := [.int (zI x), .int (zI y)]) (rest := [.ref (bd 0)]) (ctX1_isOn l D cB cI cZ cL bd w h hs G O CT LB FS TD PR BY th pn kn cn x y (by omega) (by omega)) (cwV 2 C.1.2.2.2.2 gX1_grey_X1_isOn rfl rfl rfl (by decide +kernel) ⟨Nat.le_of_ble_eq_true rfl, Nat.le_of_ble_eq_true rfl⟩) [0, 1, 2, 3, 4, 5, 6, 7, 8] [] (wr := []) rfl (by decide) rfl (by decide) (by decide) 0 rfl rfl rfl rfl (Nat.le_of_ble_eq_true rfl) eX1_grey_4 ⟨Nat.le_of_ble_eq_true rfl, Nat.le_of_ble_eq_true rfl⟩ (fun z w1 hp => ?_)
  obtain ⟨rfl, rfl⟩ := hp
  rw [if_neg hon]
  rw [List.nil_append]
  refine j_if_ne C 14 eX1_grey_7 (by decide) (by omega) (fun c7 => ?_) (fun c7 => ?_)
  ·
    exact absurd c7 (by omega)
  ·
    refine j_iconst C eX1_grey_10 ?_
    refine j_goto C 15 eX1_grey_11 (by decide) ?_
    refine j_callVi C (As := [.int (zI 1)]) (rest := []) (ctX1_refused l D cB cI cZ cL bd w h hs G O CT LB FS TD PR BY th pn kn cn 1 (by omega)) (cwV 1 C.1.2.2.2.2 gX1_grey_X1_refused rfl rfl rfl (by decide +kernel) ⟨Nat.le_of_ble_eq_true rfl, Nat.le_of_ble_eq_true rfl⟩) [0, 1, 2, 3, 4, 5, 6, 7, 8] [] (wr := []) rfl (by decide) rfl (by decide) (by decide) 0 rfl rfl rfl rfl (Nat.le_of_ble_eq_true rfl) eX1_grey_15 ⟨Nat.le_of_ble_eq_true rfl, Nat.le_of_ble_eq_true rfl⟩ (fun z w1 hp => ?_)
    obtain ⟨rfl, rfl⟩ := hp
    rw [List.nil_append]
    refine j_if_eq C 25 eX1_grey_18 (by decide) (by omega) (fun c18 => ?_) (fun c18 => ?_)
    ·
      exact absurd c18 (by omega)
    ·
      refine j_iconst C eX1_grey_21 ?_
      refine j_goto C 38 eX1_grey_22 (by decide) ?_
      exact j_iret C hr hlocks rfl eX1_grey_38 ⟨rfl, rfl⟩
theorem hwsX1_spread : ∀ w ∈ u_ws RX1 TX1 15, w ∈ wsX1_spread := fun _ h => List.mem_cons_of_mem _ (List.mem_append_right _ h)
theorem kX1_spread_16 : Cond.fieldLink RX1 16 "SheetRowsModel" (TX1 6).2.1 (TX1 6).2.2.1 ∈ wsX1_spread := by decide +kernel
abbrev rmX1_spread : Room := { frames := 0, cells := 0, slots := 0, locals := 0 }
theorem far_congr {H H' : Nat → Int} (e : ∀ u, u < 256 → H u = H' u) {a b : Nat} (hab : a ≤ b) (hb : b ≤ 256) : far H a b = far H' a b := by
  have e1 : rs H a b = rs H' a b := rs_congr hab (fun u _ h2 => e u (by omega))
  have e2 : rs (fun u => (u : Int) * H u) a b = rs (fun u => (u : Int) * H' u) a b := rs_congr hab (fun u _ h2 => by rw [e u (by omega)])
  have e3 : mnH H a b = mnH H' a b := by unfold mnH; rw [e1, e2]
  unfold far
  rw [e3]
  exact rs_congr hab (fun u _ h2 => by rw [e u (by omega)])
set_option maxHeartbeats 4000000 in
set_option maxRecDepth 100000 in
theorem lqX1_spread {p : Program} {l : Launch} {e : Env} {s : State} {m : MethodId} {args : Array Value} {below : List Frame} {meth : Method} {c : Code} {Q : State → Prop} {D : va_G} {A : Nat → Prop} {cB cI cZ cL : ClassId} {w h : Nat} {bd : Nat → Nat} {G O CT LB FS TD PR BY : Nat → Int} {th pn kn cn : Int} (C : JC p m c cX1_spread 8 s args wsX1_spread RX1 D vwCl (tyl cB cI cZ cL) A) (hs : Sz w h) {gg : Nat → Int} {nn : Nat} (hnn : nn ≤ 2304) (hc : ∀ u, u < 256 → CT u = hst gg nn u) {a c9 : Nat} (ha : a ≤ c9 + 1) (hc9 : c9 ≤ 255) (kx : J p l e rmX1_spread s m args below meth c Q 8 D vwCl A 45 [(0, .ref (bd 0)), (1, .int (zI (a : Int))), (2, .int (zI (c9 : Int))), (3, .int (zI (rs (hst gg nn) a (c9 + 1)))), (4, .int (zI (rs (fun u => (u : Int) * (hst gg nn) u) a (c9 + 1)))), (5, .int (zI ((c9 + 1) : Int)))] [] (wM cB cI bd w h G O CT LB FS TD PR BY th pn kn cn) 0 0) : ∀ (n u : Nat), a ≤ u → u ≤ c9 + 1 → c9 + 1 - u < n → J p l e rmX1_spread s m args below meth c Q 8 D vwCl A 8 [(0, .ref (bd 0)), (1, .int (zI (a : Int))), (2, .int (zI (c9 : Int))), (3, .int (zI (rs (hst gg nn) a u))), (4, .int (zI (rs (fun u => (u : Int) * (hst gg nn) u) a u))), (5, .int (zI (u : Int)))] [] (wM cB cI bd w h G O CT LB FS TD PR BY th pn kn cn) 0 0 := by
  intro n
  induction n with
  | zero => intro u _ _ hn; exact absurd hn (Nat.not_lt_zero _)
  | succ n ih =>
    intro u h1 h2 hn
    refine j_iload C eX1_spread_8 5 rfl ?_
    refine j_iload_n C eX1_spread_10 2 rfl ?_
    refine j_icmp_gt C 45 eX1_spread_11 (by decide) (by omega) (by omega) (fun c11 => ?_) (fun c11 => ?_)
    ·
      have he : u = c9 + 1 := by omega
      subst he
      exact kx
    ·
      refine j_iload_n C eX1_spread_14 3 rfl ?_
      refine j_aload_n C eX1_spread_15 0 rfl ?_
      refine j_getf C hwsX1_spread 0 rfl rfl 6 (by decide) kX1_spread_16 rfl rfl eX1_spread_16 ?_
      refine j_iload C eX1_spread_19 5 rfl ?_
      refine j_iald C 3 1 rfl rfl u rfl (by omega) (by omega) eX1_spread_21 ?_
      refine j_top (y := zI ((hst gg nn) u)) (by rw [hc u (by omega)]) ?_
      refine j_iadd C eX1_spread_22 ?_
      refine j_istore_n C eX1_spread_23 rfl (by decide) (lv' := [(0, .ref (bd 0)), (1, .int (zI (a : Int))), (2, .int (zI (c9 : Int))), (3, .int (zI ((rs (hst gg nn) a u) + ((hst gg nn) u)))), (4, .int (zI (rs (fun u => (u : Int) * (hst gg nn) u) a u))), (5, .int (zI (u : Int)))]) rfl ?_
      refine j_iload C eX1_spread_24 4 rfl ?_
      refine j_iload C eX1_spread_26 5 rfl ?_
      refine j_aload_n C eX1_spread_28 0 rfl ?_
      refine j_getf C hwsX1_spread 0 rfl rfl 6 (by decide) kX1_spread_16 rfl rfl eX1_spread_29 ?_
      refine j_iload C eX1_spread_32 5 rfl ?_
      refine j_iald C 3 1 rfl rfl u rfl (by omega) (by omega) eX1_spread_34 ?_
      refine j_top (y := zI ((hst gg nn) u)) (by rw [hc u (by omega)]) ?_
      refine j_imul C eX1_spread_35 ?_
      refine j_iadd C eX1_spread_36 ?_
      refine j_istore C eX1_spread_37 rfl (by decide) (lv' := [(0, .ref (bd 0)), (1, .int (zI (a : Int))), (2, .int (zI (c9 : Int))), (3, .int (zI ((rs (hst gg nn) a u) + ((hst gg nn) u)))), (4, .int (zI ((rs (fun u => (u : Int) * (hst gg nn) u) a u) + ((u : Int) * ((hst gg nn) u))))), (5, .int (zI (u : Int)))]) rfl ?_
      refine j_iinc C eX1_spread_39 5 rfl rfl (by decide) (lv' := [(0, .ref (bd 0)), (1, .int (zI (a : Int))), (2, .int (zI (c9 : Int))), (3, .int (zI ((rs (hst gg nn) a u) + ((hst gg nn) u)))), (4, .int (zI ((rs (fun u => (u : Int) * (hst gg nn) u) a u) + ((u : Int) * ((hst gg nn) u))))), (5, .int (zI ((u : Int) + 1)))]) rfl ?_
      refine j_goto C 8 eX1_spread_42 (by decide) ?_
      have hb := ih (u + 1) (by omega) (by omega) (by omega)
      rw [rs_succ, rs_succ] at hb
      exact hb
set_option maxHeartbeats 4000000 in
set_option maxRecDepth 100000 in
theorem lpX1_spread {p : Program} {l : Launch} {e : Env} {s : State} {m : MethodId} {args : Array Value} {below : List Frame} {meth : Method} {c : Code} {Q : State → Prop} {D : va_G} {A : Nat → Prop} {cB cI cZ cL : ClassId} {w h : Nat} {bd : Nat → Nat} {G O CT LB FS TD PR BY : Nat → Int} {th pn kn cn : Int} (C : JC p m c cX1_spread 8 s args wsX1_spread RX1 D vwCl (tyl cB cI cZ cL) A) (hs : Sz w h) {gg : Nat → Int} {nn : Nat} (hnn : nn ≤ 2304) (hc : ∀ u, u < 256 → CT u = hst gg nn u) {a c9 : Nat} (ha : a ≤ c9 + 1) (hc9 : c9 ≤ 255) (hmm : 0 ≤ mnH (hst gg nn) a (c9 + 1) ∧ mnH (hst gg nn) a (c9 + 1) ≤ 256) (kx : J p l e rmX1_spread s m args below meth c Q 8 D vwCl A 110 [(0, .ref (bd 0)), (1, .int (zI (a : Int))), (2, .int (zI (c9 : Int))), (5, .int (zI (mnH (hst gg nn) a (c9 + 1)))), (6, .int (zI (rs (fun u => (hst gg nn) u * dst (mnH (hst gg nn) a (c9 + 1)) u) a (c9 + 1)))), (7, .int (zI ((c9 + 1) : Int)))] [] (wM cB cI bd w h G O CT LB FS TD PR BY th pn kn cn) 0 0) : ∀ (n u : Nat), a ≤ u → u ≤ c9 + 1 → c9 + 1 - u < n → J p l e rmX1_spread s m args below meth c Q 8 D vwCl A 65 [(0, .ref (bd 0)), (1, .int (zI (a : Int))), (2, .int (zI (c9 : Int))), (5, .int (zI (mnH (hst gg nn) a (c9 + 1)))), (6, .int (zI (rs (fun u => (hst gg nn) u * dst (mnH (hst gg nn) a (c9 + 1)) u) a u))), (7, .int (zI (u : Int)))] [] (wM cB cI bd w h G O CT LB FS TD PR BY th pn kn cn) 0 0 := by
  intro n
  induction n with
  | zero => intro u _ _ hn; exact absurd hn (Nat.not_lt_zero _)
  | succ n ih =>
    intro u h1 h2 hn
    refine j_iload C eX1_spread_65 5 rfl ?_
    refine j_iload_n C eX1_spread_67 2 rfl ?_
    refine j_icmp_gt C 110 eX1_spread_68 (by decide) (by omega) (by omega) (fun c68 => ?_) (fun c68 => ?_)
    ·
      have he : u = c9 + 1 := by omega
      subst he
      exact kx
    ·
      refine j_iload C eX1_spread_71 4 rfl ?_
      refine j_aload_n C eX1_spread_73 0 rfl ?_
      refine j_getf C hwsX1_spread 0 rfl rfl 6 (by decide) kX1_spread_16 rfl rfl eX1_spread_74 ?_
      refine j_iload C eX1_spread_77 5 rfl ?_
      refine j_iald C 3 1 rfl rfl u rfl (by omega) (by omega) eX1_spread_79 ?_
      refine j_top (y := zI ((hst gg nn) u)) (by rw [hc u (by omega)]) ?_
      refine j_iload C eX1_spread_80 5 rfl ?_
      refine j_iload C eX1_spread_82 3 rfl ?_
      refine j_icmp_ge C 95 eX1_spread_84 (by decide) (by omega) (by omega) (fun c84 => ?_) (fun c84 => ?_)
      ·
        refine j_iload C eX1_spread_95 5 rfl ?_
        refine j_iload C eX1_spread_97 3 rfl ?_
        refine j_isub C eX1_spread_99 ?_
        refine j_top (y := zI (dst (mnH (hst gg nn) a (c9 + 1)) u)) (by unfold dst; rw [if_neg (by omega)]) ?_
        refine j_imul C eX1_spread_100 ?_
        refine j_iadd C eX1_spread_101 ?_
        refine j_istore C eX1_spread_102 rfl (by decide) (lv' := [(0, .ref (bd 0)), (1, .int (zI (a : Int))), (2, .int (zI (c9 : Int))), (5, .int (zI (mnH (hst gg nn) a (c9 + 1)))), (6, .int (zI ((rs (fun u => (hst gg nn) u * dst (mnH (hst gg nn) a (c9 + 1)) u) a u) + (((hst gg nn) u) * (dst (mnH (hst gg nn) a (c9 + 1)) u))))), (7, .int (zI (u : Int)))]) rfl ?_
        refine j_iinc C eX1_spread_104 5 rfl rfl (by decide) (lv' := [(0, .ref (bd 0)), (1, .int (zI (a : Int))), (2, .int (zI (c9 : Int))), (5, .int (zI (mnH (hst gg nn) a (c9 + 1)))), (6, .int (zI ((rs (fun u => (hst gg nn) u * dst (mnH (hst gg nn) a (c9 + 1)) u) a u) + (((hst gg nn) u) * (dst (mnH (hst gg nn) a (c9 + 1)) u))))), (7, .int (zI ((u : Int) + 1)))]) rfl ?_
        refine j_goto C 65 eX1_spread_107 (by decide) ?_
        have hb := ih (u + 1) (by omega) (by omega) (by omega)
        rw [rs_succ] at hb
        exact hb
      ·
        refine j_iload C eX1_spread_87 3 rfl ?_
        refine j_iload C eX1_spread_89 5 rfl ?_
        refine j_isub C eX1_spread_91 ?_
        refine j_goto C 100 eX1_spread_92 (by decide) ?_
        refine j_top (y := zI (dst (mnH (hst gg nn) a (c9 + 1)) u)) (by unfold dst; rw [if_pos (by omega)]) ?_
        refine j_imul C eX1_spread_100 ?_
        refine j_iadd C eX1_spread_101 ?_
        refine j_istore C eX1_spread_102 rfl (by decide) (lv' := [(0, .ref (bd 0)), (1, .int (zI (a : Int))), (2, .int (zI (c9 : Int))), (5, .int (zI (mnH (hst gg nn) a (c9 + 1)))), (6, .int (zI ((rs (fun u => (hst gg nn) u * dst (mnH (hst gg nn) a (c9 + 1)) u) a u) + (((hst gg nn) u) * (dst (mnH (hst gg nn) a (c9 + 1)) u))))), (7, .int (zI (u : Int)))]) rfl ?_
        refine j_iinc C eX1_spread_104 5 rfl rfl (by decide) (lv' := [(0, .ref (bd 0)), (1, .int (zI (a : Int))), (2, .int (zI (c9 : Int))), (5, .int (zI (mnH (hst gg nn) a (c9 + 1)))), (6, .int (zI ((rs (fun u => (hst gg nn) u * dst (mnH (hst gg nn) a (c9 + 1)) u) a u) + (((hst gg nn) u) * (dst (mnH (hst gg nn) a (c9 + 1)) u))))), (7, .int (zI ((u : Int) + 1)))]) rfl ?_
        refine j_goto C 65 eX1_spread_107 (by decide) ?_
        have hb := ih (u + 1) (by omega) (by omega) (by omega)
        rw [rs_succ] at hb
        exact hb
set_option maxHeartbeats 4000000 in
set_option maxRecDepth 100000 in
theorem ctX1_spread (l : Launch) (D : va_G) (cB cI cZ cL : ClassId) (bd : Nat → Nat) (w h : Nat) (hs : Sz w h) (G O CT LB FS TD PR BY : Nat → Int) (th pn kn cn : Int) (gg : Nat → Int) (nn : Nat) (hnn : nn ≤ 2304) (hc : ∀ u, u < 256 → CT u = hst gg nn u) (a c9 : Nat) (ha : a ≤ c9 + 1) (hc9 : c9 ≤ 255) : mI l yX1_spread wsX1_spread rmX1_spread D vwCl (tyl cB cI cZ cL) [.ref (bd 0), .int (zI (a : Int)), .int (zI (c9 : Int))] (wM cB cI bd w h G O CT LB FS TD PR BY th pn kn cn) 0 0 (fun z w1 => w1 = wM cB cI bd w h G O CT LB FS TD PR BY th pn kn cn ∧ z = far (hst gg nn) a (c9 + 1)) := by
  refine mI_of (own := RX1) rfl (by decide) rfl (Nat.le_of_ble_eq_true rfl) ?_
  intro p e s m args below meth c C hr hlocks hname
  show J p l e rmX1_spread s m args below meth c _ 8 D vwCl _ 0 [(0, .ref (bd 0)), (1, .int (zI (a : Int))), (2, .int (zI (c9 : Int)))] [] (wM cB cI bd w h G O CT LB FS TD PR BY th pn kn cn) 0 0
  have hHn := hst_nn gg nn
  have hr1 := rs_nn (f := (hst gg nn)) ha (fun u _ _ => hHn u)
  have hc1 := cum_in gg nn a
  have hc2 := cum_in gg nn (c9 + 1)
  have hc3 := scum_in gg hnn (v := a) (by omega)
  have hc4 := scum_in gg hnn (v := c9 + 1) (by omega)
  have hd1 : rs (hst gg nn) a (c9 + 1) = sumN (hst gg nn) (c9 + 1) - sumN (hst gg nn) a := rfl
  have hd2 : rs (fun u => (u : Int) * (hst gg nn) u) a (c9 + 1) = sumN (fun u => (u : Int) * (hst gg nn) u) (c9 + 1) - sumN (fun u => (u : Int) * (hst gg nn) u) a := rfl
  have hr2 := rs_nn (f := (fun u => (u : Int) * (hst gg nn) u)) ha (fun u _ _ => Int.mul_nonneg (by omega) (hHn u))
  have hmm : 0 ≤ mnH (hst gg nn) a (c9 + 1) ∧ mnH (hst gg nn) a (c9 + 1) ≤ 256 := by
    by_cases h0 : rs (hst gg nn) a (c9 + 1) = 0
    · unfold mnH; rw [if_pos h0]; omega
    · have := mn_in hHn ha (by omega); omega
  refine j_iconst C eX1_spread_0 ?_
  refine j_istore_n C eX1_spread_1 rfl (by decide) (lv' := [(0, .ref (bd 0)), (1, .int (zI (a : Int))), (2, .int (zI (c9 : Int))), (3, .int (zI 0))]) rfl ?_
  refine j_iconst C eX1_spread_2 ?_
  refine j_istore C eX1_spread_3 rfl (by decide) (lv' := [(0, .ref (bd 0)), (1, .int (zI (a : Int))), (2, .int (zI (c9 : Int))), (3, .int (zI 0)), (4, .int (zI 0))]) rfl ?_
  refine j_iload_n C eX1_spread_5 1 rfl ?_
  refine j_istore C eX1_spread_6 rfl (by decide) (lv' := [(0, .ref (bd 0)), (1, .int (zI (a : Int))), (2, .int (zI (c9 : Int))), (3, .int (zI 0)), (4, .int (zI 0)), (5, .int (zI (a : Int)))]) rfl ?_
  refine j_eq (lv' := [(0, .ref (bd 0)), (1, .int (zI (a : Int))), (2, .int (zI (c9 : Int))), (3, .int (zI (rs (hst gg nn) a a))), (4, .int (zI (rs (fun u => (u : Int) * (hst gg nn) u) a a))), (5, .int (zI (a : Int)))]) (st' := []) (wd' := wM cB cI bd w h G O CT LB FS TD PR BY th pn kn cn) (by rw [rs_self, rs_self]) rfl rfl ?_
  refine lqX1_spread C hs hnn hc ha hc9 ?_ (c9 + 2) a (by omega) ha (by omega)
  refine j_iload_n C eX1_spread_45 3 rfl ?_
  refine j_if_ne C 53 eX1_spread_46 (by decide) (by omega) (fun c46 => ?_) (fun c46 => ?_)
  ·
    refine j_iload C eX1_spread_53 4 rfl ?_
    refine j_iload_n C eX1_spread_55 3 rfl ?_
    refine j_idiv C eX1_spread_56 (by omega) (by omega) ?_
    refine j_top (y := zI (mnH (hst gg nn) a (c9 + 1))) (by unfold mnH; rw [if_neg (by omega), Int.tdiv_eq_ediv_of_nonneg (by omega)]) ?_
    refine j_istore C eX1_spread_57 rfl (by decide) (lv' := [(0, .ref (bd 0)), (1, .int (zI (a : Int))), (2, .int (zI (c9 : Int))), (3, .int (zI (rs (hst gg nn) a (c9 + 1)))), (4, .int (zI (rs (fun u => (u : Int) * (hst gg nn) u) a (c9 + 1)))), (5, .int (zI (mnH (hst gg nn) a (c9 + 1))))]) rfl ?_
    refine j_iconst C eX1_spread_59 ?_
    refine j_istore C eX1_spread_60 rfl (by decide) (lv' := [(0, .ref (bd 0)), (1, .int (zI (a : Int))), (2, .int (zI (c9 : Int))), (3, .int (zI (rs (hst gg nn) a (c9 + 1)))), (4, .int (zI (rs (fun u => (u : Int) * (hst gg nn) u) a (c9 + 1)))), (5, .int (zI (mnH (hst gg nn) a (c9 + 1)))), (6, .int (zI 0))]) rfl ?_
    refine j_iload_n C eX1_spread_62 1 rfl ?_
    refine j_istore C eX1_spread_63 rfl (by decide) (lv' := [(0, .ref (bd 0)), (1, .int (zI (a : Int))), (2, .int (zI (c9 : Int))), (3, .int (zI (rs (hst gg nn) a (c9 + 1)))), (4, .int (zI (rs (fun u => (u : Int) * (hst gg nn) u) a (c9 + 1)))), (5, .int (zI (mnH (hst gg nn) a (c9 + 1)))), (6, .int (zI 0)), (7, .int (zI (a : Int)))]) rfl ?_
    refine j_loc [0, 1, 2, 5, 6, 7] (lv' := [(0, .ref (bd 0)), (1, .int (zI (a : Int))), (2, .int (zI (c9 : Int))), (5, .int (zI (mnH (hst gg nn) a (c9 + 1)))), (6, .int (zI 0)), (7, .int (zI (a : Int)))]) rfl ?_
    refine j_eq (lv' := [(0, .ref (bd 0)), (1, .int (zI (a : Int))), (2, .int (zI (c9 : Int))), (5, .int (zI (mnH (hst gg nn) a (c9 + 1)))), (6, .int (zI (rs (fun u => (hst gg nn) u * dst (mnH (hst gg nn) a (c9 + 1)) u) a a))), (7, .int (zI (a : Int)))]) (st' := []) (wd' := wM cB cI bd w h G O CT LB FS TD PR BY th pn kn cn) (by rw [rs_self]) rfl rfl ?_
    refine lpX1_spread C hs hnn hc ha hc9 hmm ?_ (c9 + 2) a (by omega) ha (by omega)
    refine j_iload C eX1_spread_110 4 rfl ?_
    exact j_iret C hr hlocks rfl eX1_spread_112 ⟨rfl, rfl⟩
  ·
    refine j_iconst C eX1_spread_49 ?_
    refine j_goto C 57 eX1_spread_50 (by decide) ?_
    refine j_top (y := zI (mnH (hst gg nn) a (c9 + 1))) (by unfold mnH; rw [if_pos (by omega)]) ?_
    refine j_istore C eX1_spread_57 rfl (by decide) (lv' := [(0, .ref (bd 0)), (1, .int (zI (a : Int))), (2, .int (zI (c9 : Int))), (3, .int (zI (rs (hst gg nn) a (c9 + 1)))), (4, .int (zI (rs (fun u => (u : Int) * (hst gg nn) u) a (c9 + 1)))), (5, .int (zI (mnH (hst gg nn) a (c9 + 1))))]) rfl ?_
    refine j_iconst C eX1_spread_59 ?_
    refine j_istore C eX1_spread_60 rfl (by decide) (lv' := [(0, .ref (bd 0)), (1, .int (zI (a : Int))), (2, .int (zI (c9 : Int))), (3, .int (zI (rs (hst gg nn) a (c9 + 1)))), (4, .int (zI (rs (fun u => (u : Int) * (hst gg nn) u) a (c9 + 1)))), (5, .int (zI (mnH (hst gg nn) a (c9 + 1)))), (6, .int (zI 0))]) rfl ?_
    refine j_iload_n C eX1_spread_62 1 rfl ?_
    refine j_istore C eX1_spread_63 rfl (by decide) (lv' := [(0, .ref (bd 0)), (1, .int (zI (a : Int))), (2, .int (zI (c9 : Int))), (3, .int (zI (rs (hst gg nn) a (c9 + 1)))), (4, .int (zI (rs (fun u => (u : Int) * (hst gg nn) u) a (c9 + 1)))), (5, .int (zI (mnH (hst gg nn) a (c9 + 1)))), (6, .int (zI 0)), (7, .int (zI (a : Int)))]) rfl ?_
    refine j_loc [0, 1, 2, 5, 6, 7] (lv' := [(0, .ref (bd 0)), (1, .int (zI (a : Int))), (2, .int (zI (c9 : Int))), (5, .int (zI (mnH (hst gg nn) a (c9 + 1)))), (6, .int (zI 0)), (7, .int (zI (a : Int)))]) rfl ?_
    refine j_eq (lv' := [(0, .ref (bd 0)), (1, .int (zI (a : Int))), (2, .int (zI (c9 : Int))), (5, .int (zI (mnH (hst gg nn) a (c9 + 1)))), (6, .int (zI (rs (fun u => (hst gg nn) u * dst (mnH (hst gg nn) a (c9 + 1)) u) a a))), (7, .int (zI (a : Int)))]) (st' := []) (wd' := wM cB cI bd w h G O CT LB FS TD PR BY th pn kn cn) (by rw [rs_self]) rfl rfl ?_
    refine lpX1_spread C hs hnn hc ha hc9 hmm ?_ (c9 + 2) a (by omega) ha (by omega)
    refine j_iload C eX1_spread_110 4 rfl ?_
    exact j_iret C hr hlocks rfl eX1_spread_112 ⟨rfl, rfl⟩
theorem hwsX1_thresholdNow : ∀ w ∈ u_ws RX1 TX1 15, w ∈ wsX1_thresholdNow := fun _ h => List.mem_cons_of_mem _ (List.mem_append_right _ h)
theorem kX1_thresholdNow_7 : Cond.fieldLink RX1 7 "SheetRowsModel" (TX1 4).2.1 (TX1 4).2.2.1 ∈ wsX1_thresholdNow := by decide +kernel
theorem kX1_thresholdNow_16 : Cond.fieldLink RX1 16 "SheetRowsModel" (TX1 6).2.1 (TX1 6).2.2.1 ∈ wsX1_thresholdNow := by decide +kernel
theorem kX1_thresholdNow_42 : Cond.fieldLink RX1 42 "SheetRowsModel" (TX1 3).2.1 (TX1 3).2.2.1 ∈ wsX1_thresholdNow := by decide +kernel
abbrev rmX1_thresholdNow : Room := { frames := 1, cells := 0, slots := 0, locals := 27 }
set_option maxHeartbeats 4000000 in
set_option maxRecDepth 100000 in
theorem lqX1_thresholdNow {p : Program} {l : Launch} {e : Env} {s : State} {m : MethodId} {args : Array Value} {below : List Frame} {meth : Method} {c : Code} {Q : State → Prop} {D : va_G} {A : Nat → Prop} {cB cI cZ cL : ClassId} {w h : Nat} {bd : Nat → Nat} {G O LB FS TD PR BY : Nat → Int} {th pn kn cn : Int} (C : JC p m c cX1_thresholdNow 5 s args wsX1_thresholdNow RX1 D vwCl (tyl cB cI cZ cL) A) (hs : Sz w h) (kx : ∀ CT : Nat → Int, (∀ v, v < 256 → CT v = 0) → J p l e rmX1_thresholdNow s m args below meth c Q 5 D vwCl A 22 [(0, .ref (bd 0)), (1, .int (zI 256))] [] (wM cB cI bd w h G O CT LB FS TD PR BY th pn kn cn) 0 0) : ∀ (n i : Nat) (CT : Nat → Int), i ≤ 256 → 256 - i < n → (∀ v, v < i → CT v = 0) → J p l e rmX1_thresholdNow s m args below meth c Q 5 D vwCl A 2 [(0, .ref (bd 0)), (1, .int (zI (i : Int)))] [] (wM cB cI bd w h G O CT LB FS TD PR BY th pn kn cn) 0 0 := by
  intro n
  induction n with
  | zero => intro u CT _ hn; exact absurd hn (Nat.not_lt_zero _)
  | succ n ih =>
    intro i CT hi hn hC
    refine j_iload_n C eX1_thresholdNow_2 1 rfl ?_
    refine j_sipush C eX1_thresholdNow_3 (by decide +kernel) ?_
    refine j_icmp_ge C 22 eX1_thresholdNow_6 (by decide) (by omega) (by omega) (fun c6 => ?_) (fun c6 => ?_)
    ·
      have he : i = 256 := by omega
      subst he
      exact kx CT hC
    ·
      refine j_aload_n C eX1_thresholdNow_9 0 rfl ?_
      refine j_getf C hwsX1_thresholdNow 0 rfl rfl 6 (by decide) kX1_thresholdNow_16 rfl rfl eX1_thresholdNow_10 ?_
      refine j_iload_n C eX1_thresholdNow_13 1 rfl ?_
      refine j_iconst C eX1_thresholdNow_14 ?_
      refine j_iast C 3 1 rfl rfl i rfl (by omega) (by omega) eX1_thresholdNow_15 (wd' := wM cB cI bd w h G O (zup CT i 0) LB FS TD PR BY th pn kn cn) rfl ?_
      refine j_iinc C eX1_thresholdNow_16 1 rfl rfl (by decide) (lv' := [(0, .ref (bd 0)), (1, .int (zI ((i : Int) + 1)))]) rfl ?_
      refine j_goto C 2 eX1_thresholdNow_19 (by decide) ?_
      exact ih (i + 1) _ (by omega) (by omega) (fun v hv => by
        by_cases e : v = i
        · subst e; exact zup_s
        · rw [zup_n e]; exact hC v (by omega))
set_option maxHeartbeats 4000000 in
set_option maxRecDepth 100000 in
theorem lrX1_thresholdNow {p : Program} {l : Launch} {e : Env} {s : State} {m : MethodId} {args : Array Value} {below : List Frame} {meth : Method} {c : Code} {Q : State → Prop} {D : va_G} {A : Nat → Prop} {cB cI cZ cL : ClassId} {w h : Nat} {bd : Nat → Nat} {G O LB FS TD PR BY : Nat → Int} {th pn kn cn : Int} (C : JC p m c cX1_thresholdNow 5 s args wsX1_thresholdNow RX1 D vwCl (tyl cB cI cZ cL) A) (hs : Sz w h) (hG : gry (w * h) G) (kx : ∀ CT : Nat → Int, (∀ v, v < 256 → CT v = hst G (w * h) v) → J p l e rmX1_thresholdNow s m args below meth c Q 5 D vwCl A 53 [(0, .ref (bd 0)), (1, .int (zI ((w * h) : Int)))] [] (wM cB cI bd w h G O CT LB FS TD PR BY th pn kn cn) 0 0) : ∀ (n i : Nat) (CT : Nat → Int), i ≤ w * h → w * h - i < n → (∀ v, v < 256 → CT v = hst G i v) → J p l e rmX1_thresholdNow s m args below meth c Q 5 D vwCl A 24 [(0, .ref (bd 0)), (1, .int (zI (i : Int)))] [] (wM cB cI bd w h G O CT LB FS TD PR BY th pn kn cn) 0 0 := by
  have hm := hs.mul
  intro n
  induction n with
  | zero => intro u CT _ hn; exact absurd hn (Nat.not_lt_zero _)
  | succ n ih =>
    intro i CT hi hn hC
    refine j_iload_n C eX1_thresholdNow_24 1 rfl ?_
    refine j_aload_n C eX1_thresholdNow_25 0 rfl ?_
    refine j_getf C hwsX1_thresholdNow 0 rfl rfl 3 (by decide) kX1_thresholdNow_42 rfl rfl eX1_thresholdNow_26 ?_
    refine j_icmp_ge C 53 eX1_thresholdNow_29 (by decide) (by omega) (by omega) (fun c29 => ?_) (fun c29 => ?_)
    ·
      have he : i = w * h := by omega
      subst he
      exact kx CT hC
    ·
      have hgi := hG i (by omega)
      refine j_aload_n C eX1_thresholdNow_32 0 rfl ?_
      refine j_getf C hwsX1_thresholdNow 0 rfl rfl 6 (by decide) kX1_thresholdNow_16 rfl rfl eX1_thresholdNow_33 ?_
      refine j_aload_n C eX1_thresholdNow_36 0 rfl ?_
      refine j_getf C hwsX1_thresholdNow 0 rfl rfl 4 (by decide) kX1_thresholdNow_7 rfl rfl eX1_thresholdNow_37 ?_
      refine j_iload_n C eX1_thresholdNow_40 1 rfl ?_
      refine j_iald C 1 1 rfl rfl i rfl (by omega) (by omega) eX1_thresholdNow_41 ?_
      refine j_dup2 C eX1_thresholdNow_42 rfl rfl ?_
      refine j_iald C 3 1 rfl rfl ((G i).toNat) (by omega) (by omega) (by omega) eX1_thresholdNow_43 ?_
      refine j_iconst C eX1_thresholdNow_44 ?_
      refine j_iadd C eX1_thresholdNow_45 ?_
      refine j_iast C 3 1 rfl rfl ((G i).toNat) (by omega) (by omega) (by omega) eX1_thresholdNow_46 (wd' := wM cB cI bd w h G O (zup CT ((G i).toNat) ((CT ((G i).toNat)) + 1)) LB FS TD PR BY th pn kn cn) rfl ?_
      refine j_iinc C eX1_thresholdNow_47 1 rfl rfl (by decide) (lv' := [(0, .ref (bd 0)), (1, .int (zI ((i : Int) + 1)))]) rfl ?_
      refine j_goto C 24 eX1_thresholdNow_50 (by decide) ?_
      refine ih (i + 1) _ (by omega) (by omega) (fun v hv => ?_)
      have e1 : hst G (i + 1) v = hst G i v + if G i = (v : Int) then 1 else 0 := rfl
      rw [e1]
      by_cases e : v = (G i).toNat
      · subst e
        rw [zup_s, hC _ hv, if_pos (by omega)]
      · rw [zup_n e, hC v hv, if_neg (by omega)]; omega
set_option maxHeartbeats 4000000 in
set_option maxRecDepth 100000 in
theorem lpX1_thresholdNow {p : Program} {l : Launch} {e : Env} {s : State} {m : MethodId} {args : Array Value} {below : List Frame} {meth : Method} {c : Code} {Q : State → Prop} {D : va_G} {A : Nat → Prop} {cB cI cZ cL : ClassId} {w h : Nat} {bd : Nat → Nat} {G O CT LB FS TD PR BY : Nat → Int} {th pn kn cn : Int} (C : JC p m c cX1_thresholdNow 5 s args wsX1_thresholdNow RX1 D vwCl (tyl cB cI cZ cL) A) (hs : Sz w h) (hC : ∀ v, v < 256 → CT v = hst G (w * h) v) (kx : J p l e rmX1_thresholdNow s m args below meth c Q 5 D vwCl A 130 [(0, .ref (bd 0)), (1, .int (zI ((am (spr (hst G (w * h))) 254) : Int))), (2, .int (zI ((spr (hst G (w * h))) (am (spr (hst G (w * h))) 254)))), (3, .int (zI ((254 + 1) : Int)))] [] (wM cB cI bd w h G O CT LB FS TD PR BY th pn kn cn) 0 0) : ∀ (n t : Nat), t ≤ 254 → 254 - t < n → J p l e rmX1_thresholdNow s m args below meth c Q 5 D vwCl A 73 [(0, .ref (bd 0)), (1, .int (zI ((am (spr (hst G (w * h))) t) : Int))), (2, .int (zI ((spr (hst G (w * h))) (am (spr (hst G (w * h))) t)))), (3, .int (zI ((t + 1) : Int)))] [] (wM cB cI bd w h G O CT LB FS TD PR BY th pn kn cn) 0 0 := by
  have hm := hs.mul
  intro n
  induction n with
  | zero => intro t _ hn; exact absurd hn (Nat.not_lt_zero _)
  | succ n ih =>
    intro t htt hn
    have hal := am_le (spr (hst G (w * h))) t
    have hr : ∀ u : Nat, u ≤ 254 → 0 ≤ (spr (hst G (w * h))) u ∧ (spr (hst G (w * h))) u ≤ 1179648 := fun u hu => by
      have h1 := far_in G (n := (w * h)) (by omega) (a := 0) (b := u + 1) (by omega) (by omega)
      have h2 := far_in G (n := (w * h)) (by omega) (a := u + 1) (b := 256) (by omega) (by omega)
      unfold spr
      omega
    refine j_iload_n C eX1_thresholdNow_73 3 rfl ?_
    refine j_sipush C eX1_thresholdNow_74 (by decide +kernel) ?_
    refine j_icmp_ge C 130 eX1_thresholdNow_77 (by decide) (by omega) (by omega) (fun c77 => ?_) (fun c77 => ?_)
    ·
      have he : t = 254 := by omega
      subst he
      exact kx
    ·
      refine j_aload_n C eX1_thresholdNow_80 0 rfl ?_
      refine j_iconst C eX1_thresholdNow_81 ?_
      refine j_iload_n C eX1_thresholdNow_82 3 rfl ?_
      refine j_callVi C (As := [.int (zI 0), .int (zI ((t + 1) : Int))]) (rest := []) (ctX1_spread l D cB cI cZ cL bd w h hs G O CT LB FS TD PR BY th pn kn cn G (w * h) (by omega) hC 0 (t + 1) (by omega) (by omega)) (cwV 2 C.1.2.2.2.2 gX1_thresholdNow_X1_spread rfl rfl rfl (by decide +kernel) ⟨Nat.le_of_ble_eq_true rfl, Nat.le_of_ble_eq_true rfl⟩) [0, 1, 2, 3, 4, 5, 6, 7, 8] [] (wr := []) rfl (by decide) rfl (by decide) (by decide) 0 rfl rfl rfl rfl (Nat.le_of_ble_eq_true rfl) eX1_thresholdNow_83 ⟨Nat.le_of_ble_eq_true rfl, Nat.le_of_ble_eq_true rfl⟩ (fun z w1 hp => ?_)
      obtain ⟨rfl, rfl⟩ := hp
      rw [List.nil_append]
      refine j_aload_n C eX1_thresholdNow_86 0 rfl ?_
      refine j_iload_n C eX1_thresholdNow_87 3 rfl ?_
      refine j_iconst C eX1_thresholdNow_88 ?_
      refine j_iadd C eX1_thresholdNow_89 ?_
      refine j_sipush C eX1_thresholdNow_90 (by decide +kernel) ?_
      refine j_callVi C (As := [.int (zI (((t + 1) : Int) + 1)), .int (zI 255)]) (rest := [.int (zI (far (hst G (w * h)) 0 (t + 1 + 1)))]) (ctX1_spread l D cB cI cZ cL bd w h hs G O CT LB FS TD PR BY th pn kn cn G (w * h) (by omega) hC (t + 1 + 1) 255 (by omega) (by omega)) (cwV 2 C.1.2.2.2.2 gX1_thresholdNow_X1_spread rfl rfl rfl (by decide +kernel) ⟨Nat.le_of_ble_eq_true rfl, Nat.le_of_ble_eq_true rfl⟩) [0, 1, 2, 3, 4, 5, 6, 7, 8] [] (wr := []) rfl (by decide) rfl (by decide) (by decide) 0 rfl rfl rfl rfl (Nat.le_of_ble_eq_true rfl) eX1_thresholdNow_93 ⟨Nat.le_of_ble_eq_true rfl, Nat.le_of_ble_eq_true rfl⟩ (fun z w1 hp => ?_)
      obtain ⟨rfl, rfl⟩ := hp
      rw [List.nil_append]
      refine j_iadd C eX1_thresholdNow_96 ?_
      have hr1 := hr (t + 1) (by omega)
      have hr2 := hr (am (spr (hst G (w * h))) t) (by omega)
      refine j_top (y := zI ((spr (hst G (w * h))) (t + 1))) rfl ?_
      refine j_istore C eX1_thresholdNow_97 rfl (by decide) (lv' := [(0, .ref (bd 0)), (1, .int (zI ((am (spr (hst G (w * h))) t) : Int))), (2, .int (zI ((spr (hst G (w * h))) (am (spr (hst G (w * h))) t)))), (3, .int (zI ((t + 1) : Int))), (4, .int (zI ((spr (hst G (w * h))) (t + 1))))]) rfl ?_
      refine j_iload C eX1_thresholdNow_99 4 rfl ?_
      refine j_iload_n C eX1_thresholdNow_101 2 rfl ?_
      refine j_icmp_ge C 109 eX1_thresholdNow_102 (by decide) (by omega) (by omega) (fun c102 => ?_) (fun c102 => ?_)
      ·
        refine j_iload_n C eX1_thresholdNow_109 1 rfl ?_
        refine j_istore_n C eX1_thresholdNow_110 rfl (by decide) (lv' := [(0, .ref (bd 0)), (1, .int (zI ((am (spr (hst G (w * h))) t) : Int))), (2, .int (zI ((spr (hst G (w * h))) (am (spr (hst G (w * h))) t)))), (3, .int (zI ((t + 1) : Int))), (4, .int (zI ((spr (hst G (w * h))) (t + 1))))]) rfl ?_
        refine j_iload C eX1_thresholdNow_111 4 rfl ?_
        refine j_iload_n C eX1_thresholdNow_113 2 rfl ?_
        refine j_icmp_ge C 122 eX1_thresholdNow_114 (by decide) (by omega) (by omega) (fun c114 => ?_) (fun c114 => ?_)
        ·
          refine j_iload_n C eX1_thresholdNow_122 2 rfl ?_
          refine j_istore_n C eX1_thresholdNow_123 rfl (by decide) (lv' := [(0, .ref (bd 0)), (1, .int (zI ((am (spr (hst G (w * h))) t) : Int))), (2, .int (zI ((spr (hst G (w * h))) (am (spr (hst G (w * h))) t)))), (3, .int (zI ((t + 1) : Int))), (4, .int (zI ((spr (hst G (w * h))) (t + 1))))]) rfl ?_
          refine j_iinc C eX1_thresholdNow_124 3 rfl rfl (by decide) (lv' := [(0, .ref (bd 0)), (1, .int (zI ((am (spr (hst G (w * h))) t) : Int))), (2, .int (zI ((spr (hst G (w * h))) (am (spr (hst G (w * h))) t)))), (3, .int (zI (((t + 1) : Int) + 1))), (4, .int (zI ((spr (hst G (w * h))) (t + 1))))]) rfl ?_
          refine j_goto C 73 eX1_thresholdNow_127 (by decide) ?_
          refine j_loc [0, 1, 2, 3] (lv' := [(0, .ref (bd 0)), (1, .int (zI ((am (spr (hst G (w * h))) t) : Int))), (2, .int (zI ((spr (hst G (w * h))) (am (spr (hst G (w * h))) t)))), (3, .int (zI (((t + 1) : Int) + 1)))]) rfl ?_
          have e1 : am (spr (hst G (w * h))) (t + 1) = am (spr (hst G (w * h))) t := by show (if (spr (hst G (w * h))) (t + 1) < (spr (hst G (w * h))) (am (spr (hst G (w * h))) t) then t + 1 else am (spr (hst G (w * h))) t) = _; rw [if_neg (by omega)]
          have hb := ih (t + 1) (by omega) (by omega)
          rw [e1] at hb
          exact hb
        ·
          refine j_iload C eX1_thresholdNow_117 4 rfl ?_
          refine j_goto C 123 eX1_thresholdNow_119 (by decide) ?_
          refine j_istore_n C eX1_thresholdNow_123 rfl (by decide) (lv' := [(0, .ref (bd 0)), (1, .int (zI ((am (spr (hst G (w * h))) t) : Int))), (2, .int (zI ((spr (hst G (w * h))) (t + 1)))), (3, .int (zI ((t + 1) : Int))), (4, .int (zI ((spr (hst G (w * h))) (t + 1))))]) rfl ?_
          refine j_iinc C eX1_thresholdNow_124 3 rfl rfl (by decide) (lv' := [(0, .ref (bd 0)), (1, .int (zI ((am (spr (hst G (w * h))) t) : Int))), (2, .int (zI ((spr (hst G (w * h))) (t + 1)))), (3, .int (zI (((t + 1) : Int) + 1))), (4, .int (zI ((spr (hst G (w * h))) (t + 1))))]) rfl ?_
          refine j_goto C 73 eX1_thresholdNow_127 (by decide) ?_
          refine j_loc [0, 1, 2, 3] (lv' := [(0, .ref (bd 0)), (1, .int (zI ((am (spr (hst G (w * h))) t) : Int))), (2, .int (zI ((spr (hst G (w * h))) (t + 1)))), (3, .int (zI (((t + 1) : Int) + 1)))]) rfl ?_
          exact absurd c102 (by omega)
      ·
        refine j_iload_n C eX1_thresholdNow_105 3 rfl ?_
        refine j_goto C 110 eX1_thresholdNow_106 (by decide) ?_
        refine j_istore_n C eX1_thresholdNow_110 rfl (by decide) (lv' := [(0, .ref (bd 0)), (1, .int (zI ((t + 1) : Int))), (2, .int (zI ((spr (hst G (w * h))) (am (spr (hst G (w * h))) t)))), (3, .int (zI ((t + 1) : Int))), (4, .int (zI ((spr (hst G (w * h))) (t + 1))))]) rfl ?_
        refine j_iload C eX1_thresholdNow_111 4 rfl ?_
        refine j_iload_n C eX1_thresholdNow_113 2 rfl ?_
        refine j_icmp_ge C 122 eX1_thresholdNow_114 (by decide) (by omega) (by omega) (fun c114 => ?_) (fun c114 => ?_)
        ·
          refine j_iload_n C eX1_thresholdNow_122 2 rfl ?_
          refine j_istore_n C eX1_thresholdNow_123 rfl (by decide) (lv' := [(0, .ref (bd 0)), (1, .int (zI ((t + 1) : Int))), (2, .int (zI ((spr (hst G (w * h))) (am (spr (hst G (w * h))) t)))), (3, .int (zI ((t + 1) : Int))), (4, .int (zI ((spr (hst G (w * h))) (t + 1))))]) rfl ?_
          refine j_iinc C eX1_thresholdNow_124 3 rfl rfl (by decide) (lv' := [(0, .ref (bd 0)), (1, .int (zI ((t + 1) : Int))), (2, .int (zI ((spr (hst G (w * h))) (am (spr (hst G (w * h))) t)))), (3, .int (zI (((t + 1) : Int) + 1))), (4, .int (zI ((spr (hst G (w * h))) (t + 1))))]) rfl ?_
          refine j_goto C 73 eX1_thresholdNow_127 (by decide) ?_
          refine j_loc [0, 1, 2, 3] (lv' := [(0, .ref (bd 0)), (1, .int (zI ((t + 1) : Int))), (2, .int (zI ((spr (hst G (w * h))) (am (spr (hst G (w * h))) t)))), (3, .int (zI (((t + 1) : Int) + 1)))]) rfl ?_
          exact absurd c102 (by omega)
        ·
          refine j_iload C eX1_thresholdNow_117 4 rfl ?_
          refine j_goto C 123 eX1_thresholdNow_119 (by decide) ?_
          refine j_istore_n C eX1_thresholdNow_123 rfl (by decide) (lv' := [(0, .ref (bd 0)), (1, .int (zI ((t + 1) : Int))), (2, .int (zI ((spr (hst G (w * h))) (t + 1)))), (3, .int (zI ((t + 1) : Int))), (4, .int (zI ((spr (hst G (w * h))) (t + 1))))]) rfl ?_
          refine j_iinc C eX1_thresholdNow_124 3 rfl rfl (by decide) (lv' := [(0, .ref (bd 0)), (1, .int (zI ((t + 1) : Int))), (2, .int (zI ((spr (hst G (w * h))) (t + 1)))), (3, .int (zI (((t + 1) : Int) + 1))), (4, .int (zI ((spr (hst G (w * h))) (t + 1))))]) rfl ?_
          refine j_goto C 73 eX1_thresholdNow_127 (by decide) ?_
          refine j_loc [0, 1, 2, 3] (lv' := [(0, .ref (bd 0)), (1, .int (zI ((t + 1) : Int))), (2, .int (zI ((spr (hst G (w * h))) (t + 1)))), (3, .int (zI (((t + 1) : Int) + 1)))]) rfl ?_
          have e1 : am (spr (hst G (w * h))) (t + 1) = t + 1 := by show (if (spr (hst G (w * h))) (t + 1) < (spr (hst G (w * h))) (am (spr (hst G (w * h))) t) then t + 1 else am (spr (hst G (w * h))) t) = _; rw [if_pos c102]
          have hb := ih (t + 1) (by omega) (by omega)
          rw [e1] at hb
          exact hb
set_option maxHeartbeats 4000000 in
set_option maxRecDepth 100000 in
theorem ctX1_thresholdNow (l : Launch) (D : va_G) (cB cI cZ cL : ClassId) (bd : Nat → Nat) (w h : Nat) (hs : Sz w h) (G O CT LB FS TD PR BY : Nat → Int) (th pn kn cn : Int) (hG : gry (w * h) G) : mI l yX1_thresholdNow wsX1_thresholdNow rmX1_thresholdNow D vwCl (tyl cB cI cZ cL) [.ref (bd 0)] (wM cB cI bd w h G O CT LB FS TD PR BY th pn kn cn) 0 0 (fun z w1 => ∃ CT' : Nat → Int, w1 = wM cB cI bd w h G O CT' LB FS TD PR BY th pn kn cn ∧ z = ((thr G (w * h) : Nat) : Int)) := by
  refine mI_of (own := RX1) rfl (by decide) rfl (Nat.le_of_ble_eq_true rfl) ?_
  intro p e s m args below meth c C hr hlocks hname
  show J p l e rmX1_thresholdNow s m args below meth c _ 5 D vwCl _ 0 [(0, .ref (bd 0))] [] (wM cB cI bd w h G O CT LB FS TD PR BY th pn kn cn) 0 0
  have hm := hs.mul
  refine j_iconst C eX1_thresholdNow_0 ?_
  refine j_istore_n C eX1_thresholdNow_1 rfl (by decide) (lv' := [(0, .ref (bd 0)), (1, .int (zI 0))]) rfl ?_
  refine lqX1_thresholdNow C hs (fun CT1 hC1 => ?_) 257 0 CT (by omega) (by omega) (fun v hv => absurd hv (Nat.not_lt_zero _))
  refine j_iconst C eX1_thresholdNow_22 ?_
  refine j_istore_n C eX1_thresholdNow_23 rfl (by decide) (lv' := [(0, .ref (bd 0)), (1, .int (zI 0))]) rfl ?_
  refine lrX1_thresholdNow C hs hG (fun CT2 hC2 => ?_) (w * h + 1) 0 CT1 (by omega) (by omega) (fun v hv => by rw [hC1 v hv]; rfl)
  refine j_iconst C eX1_thresholdNow_53 ?_
  refine j_istore_n C eX1_thresholdNow_54 rfl (by decide) (lv' := [(0, .ref (bd 0)), (1, .int (zI 0))]) rfl ?_
  refine j_aload_n C eX1_thresholdNow_55 0 rfl ?_
  refine j_iconst C eX1_thresholdNow_56 ?_
  refine j_iconst C eX1_thresholdNow_57 ?_
  refine j_callVi C (As := [.int (zI 0), .int (zI 0)]) (rest := []) (ctX1_spread l D cB cI cZ cL bd w h hs G O CT2 LB FS TD PR BY th pn kn cn G (w * h) (by omega) hC2 0 0 (by omega) (by omega)) (cwV 2 C.1.2.2.2.2 gX1_thresholdNow_X1_spread rfl rfl rfl (by decide +kernel) ⟨Nat.le_of_ble_eq_true rfl, Nat.le_of_ble_eq_true rfl⟩) [0, 1, 2, 3, 4, 5, 6, 7, 8] [] (wr := []) rfl (by decide) rfl (by decide) (by decide) 0 rfl rfl rfl rfl (Nat.le_of_ble_eq_true rfl) eX1_thresholdNow_58 ⟨Nat.le_of_ble_eq_true rfl, Nat.le_of_ble_eq_true rfl⟩ (fun z w1 hp => ?_)
  obtain ⟨rfl, rfl⟩ := hp
  rw [List.nil_append]
  refine j_aload_n C eX1_thresholdNow_61 0 rfl ?_
  refine j_iconst C eX1_thresholdNow_62 ?_
  refine j_sipush C eX1_thresholdNow_63 (by decide +kernel) ?_
  refine j_callVi C (As := [.int (zI 1), .int (zI 255)]) (rest := [.int (zI (far (hst G (w * h)) 0 (0 + 1)))]) (ctX1_spread l D cB cI cZ cL bd w h hs G O CT2 LB FS TD PR BY th pn kn cn G (w * h) (by omega) hC2 1 255 (by omega) (by omega)) (cwV 2 C.1.2.2.2.2 gX1_thresholdNow_X1_spread rfl rfl rfl (by decide +kernel) ⟨Nat.le_of_ble_eq_true rfl, Nat.le_of_ble_eq_true rfl⟩) [0, 1, 2, 3, 4, 5, 6, 7, 8] [] (wr := []) rfl (by decide) rfl (by decide) (by decide) 0 rfl rfl rfl rfl (Nat.le_of_ble_eq_true rfl) eX1_thresholdNow_66 ⟨Nat.le_of_ble_eq_true rfl, Nat.le_of_ble_eq_true rfl⟩ (fun z w1 hp => ?_)
  obtain ⟨rfl, rfl⟩ := hp
  rw [List.nil_append]
  refine j_iadd C eX1_thresholdNow_69 ?_
  refine j_istore_n C eX1_thresholdNow_70 rfl (by decide) (lv' := [(0, .ref (bd 0)), (1, .int (zI 0)), (2, .int (zI ((far (hst G (w * h)) 0 (0 + 1)) + (far (hst G (w * h)) 1 (255 + 1)))))]) rfl ?_
  refine j_iconst C eX1_thresholdNow_71 ?_
  refine j_istore_n C eX1_thresholdNow_72 rfl (by decide) (lv' := [(0, .ref (bd 0)), (1, .int (zI 0)), (2, .int (zI ((far (hst G (w * h)) 0 (0 + 1)) + (far (hst G (w * h)) 1 (255 + 1))))), (3, .int (zI 1))]) rfl ?_
  refine lpX1_thresholdNow C hs hC2 ?_ 255 0 (by omega) (by omega)
  refine j_iload_n C eX1_thresholdNow_130 1 rfl ?_
  exact j_iret C hr hlocks rfl eX1_thresholdNow_131 ⟨CT2, rfl, by rw [thr_eq]⟩
theorem hwsX1_threshold : ∀ w ∈ u_ws RX1 TX1 15, w ∈ wsX1_threshold := fun _ h => List.mem_cons_of_mem _ (List.mem_append_right _ h)
theorem kX1_threshold_45 : Cond.fieldLink RX1 45 "SheetRowsModel" (TX1 0).2.1 (TX1 0).2.2.1 ∈ wsX1_threshold := by decide +kernel
abbrev rmX1_threshold : Room := { frames := 2, cells := 0, slots := 0, locals := 51 }
set_option maxHeartbeats 4000000 in
set_option maxRecDepth 100000 in
theorem ctX1_threshold (l : Launch) (D : va_G) (cB cI cZ cL : ClassId) (bd : Nat → Nat) (w h : Nat) (hs : Sz w h) (G O CT LB FS TD PR BY : Nat → Int) (th pn kn cn : Int) (hG : gry (w * h) G) : mI l yX1_threshold wsX1_threshold rmX1_threshold D vwCl (tyl cB cI cZ cL) [.ref (bd 0)] (wM cB cI bd w h G O CT LB FS TD PR BY th pn kn cn) 0 0 (fun z w1 => ∃ CT' : Nat → Int, w1 = wM cB cI bd w h G O CT' LB FS TD PR BY 0 pn kn cn ∧ z = ((thr G (w * h) : Nat) : Int)) := by
  refine mI_of (own := RX1) rfl (by decide) rfl (Nat.le_of_ble_eq_true rfl) ?_
  intro p e s m args below meth c C hr hlocks hname
  show J p l e rmX1_threshold s m args below meth c _ 1 D vwCl _ 0 [(0, .ref (bd 0))] [] (wM cB cI bd w h G O CT LB FS TD PR BY th pn kn cn) 0 0
  refine j_aload_n C eX1_threshold_0 0 rfl ?_
  refine j_iconst C eX1_threshold_1 ?_
  refine j_putf C hwsX1_threshold tyX1 tyX1_ok nmX1 0 rfl rfl 0 (by decide) kX1_threshold_45 rfl rfl (tyX1_ok 0 (by decide)) rfl rfl (Nat.le_of_ble_eq_true rfl) eX1_threshold_2 (wd' := wM cB cI bd w h G O CT LB FS TD PR BY 0 pn kn cn) rfl ?_
  refine j_aload_n C eX1_threshold_5 0 rfl ?_
  refine j_callVi C (As := []) (rest := []) (ctX1_thresholdNow l D cB cI cZ cL bd w h hs G O CT LB FS TD PR BY 0 pn kn cn hG) (cwV 0 C.1.2.2.2.2 gX1_threshold_X1_thresholdNow rfl rfl rfl (by decide +kernel) ⟨Nat.le_of_ble_eq_true rfl, Nat.le_of_ble_eq_true rfl⟩) [0, 1, 2, 3, 4, 5, 6, 7, 8] [] (wr := []) rfl (by decide) rfl (by decide) (by decide) 0 rfl rfl rfl rfl (Nat.le_of_ble_eq_true rfl) eX1_threshold_6 ⟨Nat.le_of_ble_eq_true rfl, Nat.le_of_ble_eq_true rfl⟩ (fun z w1 hp => ?_)
  obtain ⟨CT1, rfl, rfl⟩ := hp
  rw [List.nil_append]
  exact j_iret C hr hlocks rfl eX1_threshold_9 ⟨CT1, rfl, rfl⟩
theorem hwsX1_isInverted : ∀ w ∈ u_ws RX1 TX1 15, w ∈ wsX1_isInverted := fun _ h => List.mem_cons_of_mem _ (List.mem_append_right _ h)
theorem kX1_isInverted_7 : Cond.fieldLink RX1 7 "SheetRowsModel" (TX1 4).2.1 (TX1 4).2.2.1 ∈ wsX1_isInverted := by decide +kernel
theorem kX1_isInverted_42 : Cond.fieldLink RX1 42 "SheetRowsModel" (TX1 3).2.1 (TX1 3).2.2.1 ∈ wsX1_isInverted := by decide +kernel
abbrev rmX1_isInverted : Room := { frames := 0, cells := 0, slots := 0, locals := 0 }
set_option maxHeartbeats 4000000 in
set_option maxRecDepth 100000 in
theorem lpX1_isInverted {p : Program} {l : Launch} {e : Env} {s : State} {m : MethodId} {args : Array Value} {below : List Frame} {meth : Method} {c : Code} {Q : State → Prop} {D : va_G} {A : Nat → Prop} {cB cI cZ cL : ClassId} {w h : Nat} {bd : Nat → Nat} {G O CT LB FS TD PR BY : Nat → Int} {th pn kn cn : Int} (C : JC p m c cX1_isInverted 4 s args wsX1_isInverted RX1 D vwCl (tyl cB cI cZ cL) A) (hs : Sz w h) (hG : gry (w * h) G) {t : Nat} (ht : t ≤ 255) (kx : J p l e rmX1_isInverted s m args below meth c Q 4 D vwCl A 36 [(0, .ref (bd 0)), (1, .int (zI (t : Int))), (2, .int (zI (sumN (fun k => if 0 ≤ G k ∧ G k < ((t + 1 : Nat) : Int) then (1 : Int) else 0) (w * h)))), (3, .int (zI ((w * h) : Int)))] [] (wM cB cI bd w h G O CT LB FS TD PR BY th pn kn cn) 0 0) : ∀ (n i : Nat), i ≤ w * h → w * h - i < n → J p l e rmX1_isInverted s m args below meth c Q 4 D vwCl A 4 [(0, .ref (bd 0)), (1, .int (zI (t : Int))), (2, .int (zI (sumN (fun k => if 0 ≤ G k ∧ G k < ((t + 1 : Nat) : Int) then (1 : Int) else 0) i))), (3, .int (zI (i : Int)))] [] (wM cB cI bd w h G O CT LB FS TD PR BY th pn kn cn) 0 0 := by
  have hm := hs.mul
  intro n
  induction n with
  | zero => intro u _ hn; exact absurd hn (Nat.not_lt_zero _)
  | succ n ih =>
    intro i hi hn
    refine j_iload_n C eX1_isInverted_4 3 rfl ?_
    refine j_aload_n C eX1_isInverted_5 0 rfl ?_
    refine j_getf C hwsX1_isInverted 0 rfl rfl 3 (by decide) kX1_isInverted_42 rfl rfl eX1_isInverted_6 ?_
    refine j_icmp_ge C 36 eX1_isInverted_9 (by decide) (by omega) (by omega) (fun c9 => ?_) (fun c9 => ?_)
    ·
      have he : i = w * h := by omega
      subst he
      exact kx
    ·
      have hgi := hG i (by omega)
      refine j_aload_n C eX1_isInverted_12 0 rfl ?_
      refine j_getf C hwsX1_isInverted 0 rfl rfl 4 (by decide) kX1_isInverted_7 rfl rfl eX1_isInverted_13 ?_
      refine j_iload_n C eX1_isInverted_16 3 rfl ?_
      refine j_iald C 1 1 rfl rfl i rfl (by omega) (by omega) eX1_isInverted_17 ?_
      refine j_iload_n C eX1_isInverted_18 1 rfl ?_
      refine j_icmp_gt C 28 eX1_isInverted_19 (by decide) (by omega) (by omega) (fun c19 => ?_) (fun c19 => ?_)
      ·
        refine j_iload_n C eX1_isInverted_28 2 rfl ?_
        refine j_istore_n C eX1_isInverted_29 rfl (by decide) (lv' := [(0, .ref (bd 0)), (1, .int (zI (t : Int))), (2, .int (zI (sumN (fun k => if 0 ≤ G k ∧ G k < ((t + 1 : Nat) : Int) then (1 : Int) else 0) i))), (3, .int (zI (i : Int)))]) rfl ?_
        refine j_iinc C eX1_isInverted_30 3 rfl rfl (by decide) (lv' := [(0, .ref (bd 0)), (1, .int (zI (t : Int))), (2, .int (zI (sumN (fun k => if 0 ≤ G k ∧ G k < ((t + 1 : Nat) : Int) then (1 : Int) else 0) i))), (3, .int (zI ((i : Int) + 1)))]) rfl ?_
        refine j_goto C 4 eX1_isInverted_33 (by decide) ?_
        have e1 : sumN (fun k => if 0 ≤ G k ∧ G k < ((t + 1 : Nat) : Int) then (1 : Int) else 0) (i + 1) = sumN (fun k => if 0 ≤ G k ∧ G k < ((t + 1 : Nat) : Int) then (1 : Int) else 0) i + (if 0 ≤ G i ∧ G i < ((t + 1 : Nat) : Int) then (1 : Int) else 0) := rfl
        rw [if_neg (by omega), Int.add_zero] at e1
        have hb := ih (i + 1) (by omega) (by omega)
        rw [e1] at hb
        exact hb
      ·
        refine j_iload_n C eX1_isInverted_22 2 rfl ?_
        refine j_iconst C eX1_isInverted_23 ?_
        refine j_iadd C eX1_isInverted_24 ?_
        refine j_goto C 29 eX1_isInverted_25 (by decide) ?_
        refine j_istore_n C eX1_isInverted_29 rfl (by decide) (lv' := [(0, .ref (bd 0)), (1, .int (zI (t : Int))), (2, .int (zI ((sumN (fun k => if 0 ≤ G k ∧ G k < ((t + 1 : Nat) : Int) then (1 : Int) else 0) i) + 1))), (3, .int (zI (i : Int)))]) rfl ?_
        refine j_iinc C eX1_isInverted_30 3 rfl rfl (by decide) (lv' := [(0, .ref (bd 0)), (1, .int (zI (t : Int))), (2, .int (zI ((sumN (fun k => if 0 ≤ G k ∧ G k < ((t + 1 : Nat) : Int) then (1 : Int) else 0) i) + 1))), (3, .int (zI ((i : Int) + 1)))]) rfl ?_
        refine j_goto C 4 eX1_isInverted_33 (by decide) ?_
        have e1 : sumN (fun k => if 0 ≤ G k ∧ G k < ((t + 1 : Nat) : Int) then (1 : Int) else 0) (i + 1) = sumN (fun k => if 0 ≤ G k ∧ G k < ((t + 1 : Nat) : Int) then (1 : Int) else 0) i + (if 0 ≤ G i ∧ G i < ((t + 1 : Nat) : Int) then (1 : Int) else 0) := rfl
        rw [if_pos (by omega)] at e1
        have hb := ih (i + 1) (by omega) (by omega)
        rw [e1] at hb
        exact hb
set_option maxHeartbeats 4000000 in
set_option maxRecDepth 100000 in
theorem ctX1_isInverted (l : Launch) (D : va_G) (cB cI cZ cL : ClassId) (bd : Nat → Nat) (w h : Nat) (hs : Sz w h) (G O CT LB FS TD PR BY : Nat → Int) (th pn kn cn : Int) (t : Nat) (ht : t ≤ 255) (hG : gry (w * h) G) : mI l yX1_isInverted wsX1_isInverted rmX1_isInverted D vwCl (tyl cB cI cZ cL) [.ref (bd 0), .int (zI (t : Int))] (wM cB cI bd w h G O CT LB FS TD PR BY th pn kn cn) 0 0 (fun z w1 => w1 = wM cB cI bd w h G O CT LB FS TD PR BY th pn kn cn ∧ z = if ((w * h : Nat) : Int) < 2 * sumN (hst G (w * h)) (t + 1) then 1 else 0) := by
  refine mI_of (own := RX1) rfl (by decide) rfl (Nat.le_of_ble_eq_true rfl) ?_
  intro p e s m args below meth c C hr hlocks hname
  show J p l e rmX1_isInverted s m args below meth c _ 4 D vwCl _ 0 [(0, .ref (bd 0)), (1, .int (zI (t : Int)))] [] (wM cB cI bd w h G O CT LB FS TD PR BY th pn kn cn) 0 0
  have hm := hs.mul
  have hcm := cum_in G (w * h) (t + 1)
  have hce := hst_cum G (t + 1) (w * h)
  refine j_iconst C eX1_isInverted_0 ?_
  refine j_istore_n C eX1_isInverted_1 rfl (by decide) (lv' := [(0, .ref (bd 0)), (1, .int (zI (t : Int))), (2, .int (zI 0))]) rfl ?_
  refine j_iconst C eX1_isInverted_2 ?_
  refine j_istore_n C eX1_isInverted_3 rfl (by decide) (lv' := [(0, .ref (bd 0)), (1, .int (zI (t : Int))), (2, .int (zI 0)), (3, .int (zI 0))]) rfl ?_
  refine lpX1_isInverted C hs hG ht ?_ (w * h + 1) 0 (by omega) (by omega)
  rw [← hce]
  refine j_iconst C eX1_isInverted_36 ?_
  refine j_iload_n C eX1_isInverted_37 2 rfl ?_
  refine j_imul C eX1_isInverted_38 ?_
  refine j_aload_n C eX1_isInverted_39 0 rfl ?_
  refine j_getf C hwsX1_isInverted 0 rfl rfl 3 (by decide) kX1_isInverted_42 rfl rfl eX1_isInverted_40 ?_
  refine j_icmp_le C 50 eX1_isInverted_43 (by decide) (by omega) (by omega) (fun c43 => ?_) (fun c43 => ?_)
  ·
    refine j_iconst C eX1_isInverted_50 ?_
    exact j_iret C hr hlocks rfl eX1_isInverted_51 ⟨rfl, by rw [if_neg (by omega)]⟩
  ·
    refine j_iconst C eX1_isInverted_46 ?_
    refine j_goto C 51 eX1_isInverted_47 (by decide) ?_
    exact j_iret C hr hlocks rfl eX1_isInverted_51 ⟨rfl, by rw [if_pos (by omega)]⟩
theorem hwsX1_inverted : ∀ w ∈ u_ws RX1 TX1 15, w ∈ wsX1_inverted := fun _ h => List.mem_cons_of_mem _ (List.mem_append_right _ h)
theorem kX1_inverted_45 : Cond.fieldLink RX1 45 "SheetRowsModel" (TX1 0).2.1 (TX1 0).2.2.1 ∈ wsX1_inverted := by decide +kernel
abbrev rmX1_inverted : Room := { frames := 2, cells := 0, slots := 0, locals := 51 }
set_option maxHeartbeats 4000000 in
set_option maxRecDepth 100000 in
theorem ctX1_inverted (l : Launch) (D : va_G) (cB cI cZ cL : ClassId) (bd : Nat → Nat) (w h : Nat) (hs : Sz w h) (G O CT LB FS TD PR BY : Nat → Int) (th pn kn cn : Int) (hG : gry (w * h) G) : mI l yX1_inverted wsX1_inverted rmX1_inverted D vwCl (tyl cB cI cZ cL) [.ref (bd 0)] (wM cB cI bd w h G O CT LB FS TD PR BY th pn kn cn) 0 0 (fun z w1 => ∃ CT' : Nat → Int, w1 = wM cB cI bd w h G O CT' LB FS TD PR BY 0 pn kn cn ∧ z = if ivt G (w * h) then 1 else 0) := by
  refine mI_of (own := RX1) rfl (by decide) rfl (Nat.le_of_ble_eq_true rfl) ?_
  intro p e s m args below meth c C hr hlocks hname
  show J p l e rmX1_inverted s m args below meth c _ 1 D vwCl _ 0 [(0, .ref (bd 0))] [] (wM cB cI bd w h G O CT LB FS TD PR BY th pn kn cn) 0 0
  have htl := thr_le G (w * h)
  refine j_aload_n C eX1_inverted_0 0 rfl ?_
  refine j_iconst C eX1_inverted_1 ?_
  refine j_putf C hwsX1_inverted tyX1 tyX1_ok nmX1 0 rfl rfl 0 (by decide) kX1_inverted_45 rfl rfl (tyX1_ok 0 (by decide)) rfl rfl (Nat.le_of_ble_eq_true rfl) eX1_inverted_2 (wd' := wM cB cI bd w h G O CT LB FS TD PR BY 0 pn kn cn) rfl ?_
  refine j_aload_n C eX1_inverted_5 0 rfl ?_
  refine j_aload_n C eX1_inverted_6 0 rfl ?_
  refine j_callVi C (As := []) (rest := [.ref (bd 0)]) (ctX1_thresholdNow l D cB cI cZ cL bd w h hs G O CT LB FS TD PR BY 0 pn kn cn hG) (cwV 0 C.1.2.2.2.2 gX1_inverted_X1_thresholdNow rfl rfl rfl (by decide +kernel) ⟨Nat.le_of_ble_eq_true rfl, Nat.le_of_ble_eq_true rfl⟩) [0, 1, 2, 3, 4, 5, 6, 7, 8] [] (wr := []) rfl (by decide) rfl (by decide) (by decide) 0 rfl rfl rfl rfl (Nat.le_of_ble_eq_true rfl) eX1_inverted_7 ⟨Nat.le_of_ble_eq_true rfl, Nat.le_of_ble_eq_true rfl⟩ (fun z w1 hp => ?_)
  obtain ⟨CT1, rfl, rfl⟩ := hp
  rw [List.nil_append]
  refine j_callVi C (As := [.int (zI ((thr G (w * h) : Nat) : Int))]) (rest := []) (ctX1_isInverted l D cB cI cZ cL bd w h hs G O CT1 LB FS TD PR BY 0 pn kn cn (thr G (w * h)) (by omega) hG) (cwV 1 C.1.2.2.2.2 gX1_inverted_X1_isInverted rfl rfl rfl (by decide +kernel) ⟨Nat.le_of_ble_eq_true rfl, Nat.le_of_ble_eq_true rfl⟩) [0, 1, 2, 3, 4, 5, 6, 7, 8] [] (wr := []) rfl (by decide) rfl (by decide) (by decide) 0 rfl rfl rfl rfl (Nat.le_of_ble_eq_true rfl) eX1_inverted_10 ⟨Nat.le_of_ble_eq_true rfl, Nat.le_of_ble_eq_true rfl⟩ (fun z w1 hp => ?_)
  obtain ⟨rfl, rfl⟩ := hp
  rw [List.nil_append]
  exact j_iret C hr hlocks (nar_bool (by split <;> omega)) eX1_inverted_13 ⟨CT1, rfl, rfl⟩
theorem hwsX1_darken : ∀ w ∈ u_ws RX1 TX1 15, w ∈ wsX1_darken := fun _ h => List.mem_cons_of_mem _ (List.mem_append_right _ h)
theorem kX1_darken_7 : Cond.fieldLink RX1 7 "SheetRowsModel" (TX1 4).2.1 (TX1 4).2.2.1 ∈ wsX1_darken := by decide +kernel
theorem kX1_darken_13 : Cond.fieldLink RX1 13 "SheetRowsModel" (TX1 5).2.1 (TX1 5).2.2.1 ∈ wsX1_darken := by decide +kernel
theorem kX1_darken_42 : Cond.fieldLink RX1 42 "SheetRowsModel" (TX1 3).2.1 (TX1 3).2.2.1 ∈ wsX1_darken := by decide +kernel
abbrev rmX1_darken : Room := { frames := 2, cells := 0, slots := 0, locals := 51 }
set_option maxHeartbeats 4000000 in
set_option maxRecDepth 100000 in
theorem lpX1_darken {p : Program} {l : Launch} {e : Env} {s : State} {m : MethodId} {args : Array Value} {below : List Frame} {meth : Method} {c : Code} {Q : State → Prop} {D : va_G} {A : Nat → Prop} {cB cI cZ cL : ClassId} {w h : Nat} {bd : Nat → Nat} {G CT LB FS TD PR BY : Nat → Int} {th pn kn cn : Int} (C : JC p m c cX1_darken 5 s args wsX1_darken RX1 D vwCl (tyl cB cI cZ cL) A) (hs : Sz w h) (hG : gry (w * h) G) {d : Int} (hd : (d = 0 ∧ ¬ ivt G (w * h)) ∨ (d = 1 ∧ ivt G (w * h))) (kx : ∀ O : Nat → Int, (∀ k, k < w * h → O k = dkf G (w * h) k) → J p l e rmX1_darken s m args below meth c Q 5 D vwCl A 61 [(0, .ref (bd 0)), (1, .int (zI ((thr G (w * h) : Nat) : Int))), (2, .int (zI d)), (3, .int (zI ((w * h) : Int)))] [] (wM cB cI bd w h G O CT LB FS TD PR BY th pn kn cn) 0 0) : ∀ (n i : Nat) (O : Nat → Int), i ≤ w * h → w * h - i < n → (∀ k, k < i → O k = dkf G (w * h) k) → J p l e rmX1_darken s m args below meth c Q 5 D vwCl A 13 [(0, .ref (bd 0)), (1, .int (zI ((thr G (w * h) : Nat) : Int))), (2, .int (zI d)), (3, .int (zI (i : Int)))] [] (wM cB cI bd w h G O CT LB FS TD PR BY th pn kn cn) 0 0 := by
  have hm := hs.mul
  have htl := thr_le G (w * h)
  intro n
  induction n with
  | zero => intro i O _ hn; exact absurd hn (Nat.not_lt_zero _)
  | succ n ih =>
    intro i O hi hn hO
    refine j_iload_n C eX1_darken_13 3 rfl ?_
    refine j_aload_n C eX1_darken_14 0 rfl ?_
    refine j_getf C hwsX1_darken 0 rfl rfl 3 (by decide) kX1_darken_42 rfl rfl eX1_darken_15 ?_
    refine j_icmp_ge C 61 eX1_darken_18 (by decide) (by omega) (by omega) (fun c18 => ?_) (fun c18 => ?_)
    ·
      have he : i = w * h := by omega
      subst he
      exact kx O hO
    ·
      have hgi := hG i (by omega)
      refine j_aload_n C eX1_darken_21 0 rfl ?_
      refine j_getf C hwsX1_darken 0 rfl rfl 4 (by decide) kX1_darken_7 rfl rfl eX1_darken_22 ?_
      refine j_iload_n C eX1_darken_25 3 rfl ?_
      refine j_iald C 1 1 rfl rfl i rfl (by omega) (by omega) eX1_darken_26 ?_
      refine j_iload_n C eX1_darken_27 1 rfl ?_
      refine j_icmp_gt C 35 eX1_darken_28 (by decide) (by omega) (by omega) (fun c28 => ?_) (fun c28 => ?_)
      ·
        refine j_iconst C eX1_darken_35 ?_
        refine j_istore C eX1_darken_36 rfl (by decide) (lv' := [(0, .ref (bd 0)), (1, .int (zI ((thr G (w * h) : Nat) : Int))), (2, .int (zI d)), (3, .int (zI (i : Int))), (4, .int (zI 0))]) rfl ?_
        refine j_aload_n C eX1_darken_38 0 rfl ?_
        refine j_getf C hwsX1_darken 0 rfl rfl 5 (by decide) kX1_darken_13 rfl rfl eX1_darken_39 ?_
        refine j_iload_n C eX1_darken_42 3 rfl ?_
        refine j_iload C eX1_darken_43 4 rfl ?_
        refine j_iload_n C eX1_darken_45 2 rfl ?_
        refine j_icmp_eq C 53 eX1_darken_46 (by decide) (by omega) (by omega) (fun c46 => ?_) (fun c46 => ?_)
        ·
          refine j_iconst C eX1_darken_53 ?_
          refine j_iast C 2 1 rfl rfl i rfl (by omega) (by omega) eX1_darken_54 (wd' := wM cB cI bd w h G (zup O i 0) CT LB FS TD PR BY th pn kn cn) rfl ?_
          refine j_iinc C eX1_darken_55 3 rfl rfl (by decide) (lv' := [(0, .ref (bd 0)), (1, .int (zI ((thr G (w * h) : Nat) : Int))), (2, .int (zI d)), (3, .int (zI ((i : Int) + 1))), (4, .int (zI 0))]) rfl ?_
          refine j_goto C 13 eX1_darken_58 (by decide) ?_
          refine j_loc [0, 1, 2, 3] (lv' := [(0, .ref (bd 0)), (1, .int (zI ((thr G (w * h) : Nat) : Int))), (2, .int (zI d)), (3, .int (zI ((i : Int) + 1)))]) rfl ?_
          refine ih (i + 1) _ (by omega) (by omega) (fun k hk => ?_)
          by_cases e : k = i
          · subst e
            rw [zup_s]
            unfold dkf
            rw [if_neg]
            rcases hd with ⟨q1, q2⟩ | ⟨q1, q2⟩
            · intro z; have z2 := z.mpr q2; omega
            · intro z; exact z.mp (by omega) q2
          · rw [zup_n e]; exact hO k (by omega)
        ·
          refine j_iconst C eX1_darken_49 ?_
          refine j_goto C 54 eX1_darken_50 (by decide) ?_
          refine j_iast C 2 1 rfl rfl i rfl (by omega) (by omega) eX1_darken_54 (wd' := wM cB cI bd w h G (zup O i 1) CT LB FS TD PR BY th pn kn cn) rfl ?_
          refine j_iinc C eX1_darken_55 3 rfl rfl (by decide) (lv' := [(0, .ref (bd 0)), (1, .int (zI ((thr G (w * h) : Nat) : Int))), (2, .int (zI d)), (3, .int (zI ((i : Int) + 1))), (4, .int (zI 0))]) rfl ?_
          refine j_goto C 13 eX1_darken_58 (by decide) ?_
          refine j_loc [0, 1, 2, 3] (lv' := [(0, .ref (bd 0)), (1, .int (zI ((thr G (w * h) : Nat) : Int))), (2, .int (zI d)), (3, .int (zI ((i : Int) + 1)))]) rfl ?_
          refine ih (i + 1) _ (by omega) (by omega) (fun k hk => ?_)
          by_cases e : k = i
          · subst e
            rw [zup_s]
            unfold dkf
            rw [if_pos]
            rcases hd with ⟨q1, q2⟩ | ⟨q1, q2⟩
            · exact ⟨fun _ => q2, fun _ => by omega⟩
            · exact ⟨fun z => by omega, fun z => absurd q2 z⟩
          · rw [zup_n e]; exact hO k (by omega)
      ·
        refine j_iconst C eX1_darken_31 ?_
        refine j_goto C 36 eX1_darken_32 (by decide) ?_
        refine j_istore C eX1_darken_36 rfl (by decide) (lv' := [(0, .ref (bd 0)), (1, .int (zI ((thr G (w * h) : Nat) : Int))), (2, .int (zI d)), (3, .int (zI (i : Int))), (4, .int (zI 1))]) rfl ?_
        refine j_aload_n C eX1_darken_38 0 rfl ?_
        refine j_getf C hwsX1_darken 0 rfl rfl 5 (by decide) kX1_darken_13 rfl rfl eX1_darken_39 ?_
        refine j_iload_n C eX1_darken_42 3 rfl ?_
        refine j_iload C eX1_darken_43 4 rfl ?_
        refine j_iload_n C eX1_darken_45 2 rfl ?_
        refine j_icmp_eq C 53 eX1_darken_46 (by decide) (by omega) (by omega) (fun c46 => ?_) (fun c46 => ?_)
        ·
          refine j_iconst C eX1_darken_53 ?_
          refine j_iast C 2 1 rfl rfl i rfl (by omega) (by omega) eX1_darken_54 (wd' := wM cB cI bd w h G (zup O i 0) CT LB FS TD PR BY th pn kn cn) rfl ?_
          refine j_iinc C eX1_darken_55 3 rfl rfl (by decide) (lv' := [(0, .ref (bd 0)), (1, .int (zI ((thr G (w * h) : Nat) : Int))), (2, .int (zI d)), (3, .int (zI ((i : Int) + 1))), (4, .int (zI 1))]) rfl ?_
          refine j_goto C 13 eX1_darken_58 (by decide) ?_
          refine j_loc [0, 1, 2, 3] (lv' := [(0, .ref (bd 0)), (1, .int (zI ((thr G (w * h) : Nat) : Int))), (2, .int (zI d)), (3, .int (zI ((i : Int) + 1)))]) rfl ?_
          refine ih (i + 1) _ (by omega) (by omega) (fun k hk => ?_)
          by_cases e : k = i
          · subst e
            rw [zup_s]
            unfold dkf
            rw [if_neg]
            rcases hd with ⟨q1, q2⟩ | ⟨q1, q2⟩
            · intro z; have z2 := z.mpr q2; omega
            · intro z; exact z.mp (by omega) q2
          · rw [zup_n e]; exact hO k (by omega)
        ·
          refine j_iconst C eX1_darken_49 ?_
          refine j_goto C 54 eX1_darken_50 (by decide) ?_
          refine j_iast C 2 1 rfl rfl i rfl (by omega) (by omega) eX1_darken_54 (wd' := wM cB cI bd w h G (zup O i 1) CT LB FS TD PR BY th pn kn cn) rfl ?_
          refine j_iinc C eX1_darken_55 3 rfl rfl (by decide) (lv' := [(0, .ref (bd 0)), (1, .int (zI ((thr G (w * h) : Nat) : Int))), (2, .int (zI d)), (3, .int (zI ((i : Int) + 1))), (4, .int (zI 1))]) rfl ?_
          refine j_goto C 13 eX1_darken_58 (by decide) ?_
          refine j_loc [0, 1, 2, 3] (lv' := [(0, .ref (bd 0)), (1, .int (zI ((thr G (w * h) : Nat) : Int))), (2, .int (zI d)), (3, .int (zI ((i : Int) + 1)))]) rfl ?_
          refine ih (i + 1) _ (by omega) (by omega) (fun k hk => ?_)
          by_cases e : k = i
          · subst e
            rw [zup_s]
            unfold dkf
            rw [if_pos]
            rcases hd with ⟨q1, q2⟩ | ⟨q1, q2⟩
            · exact ⟨fun _ => q2, fun _ => by omega⟩
            · exact ⟨fun z => by omega, fun z => absurd q2 z⟩
          · rw [zup_n e]; exact hO k (by omega)
set_option maxHeartbeats 4000000 in
set_option maxRecDepth 100000 in
theorem ctX1_darken (l : Launch) (D : va_G) (cB cI cZ cL : ClassId) (bd : Nat → Nat) (w h : Nat) (hs : Sz w h) (G O CT LB FS TD PR BY : Nat → Int) (th pn kn cn : Int) (hG : gry (w * h) G) : mV l yX1_darken wsX1_darken rmX1_darken D vwCl (tyl cB cI cZ cL) [.ref (bd 0)] (wM cB cI bd w h G O CT LB FS TD PR BY th pn kn cn) 0 0 (fun w1 => ∃ CT' O' : Nat → Int, (∀ k, k < w * h → O' k = dkf G (w * h) k) ∧ w1 = wM cB cI bd w h G O' CT' LB FS TD PR BY th pn kn cn) := by
  refine mV_of (own := RX1) rfl (by decide) rfl (Nat.le_of_ble_eq_true rfl) ?_
  intro p e s m args below meth c C hr hlocks hname
  show J p l e rmX1_darken s m args below meth c _ 5 D vwCl _ 0 [(0, .ref (bd 0))] [] (wM cB cI bd w h G O CT LB FS TD PR BY th pn kn cn) 0 0
  have hm := hs.mul
  have htl := thr_le G (w * h)
  refine j_aload_n C eX1_darken_0 0 rfl ?_
  refine j_callVi C (As := []) (rest := []) (ctX1_thresholdNow l D cB cI cZ cL bd w h hs G O CT LB FS TD PR BY th pn kn cn hG) (cwV 0 C.1.2.2.2.2 gX1_darken_X1_thresholdNow rfl rfl rfl (by decide +kernel) ⟨Nat.le_of_ble_eq_true rfl, Nat.le_of_ble_eq_true rfl⟩) [0, 1, 2, 3, 4, 5, 6, 7, 8] [] (wr := []) rfl (by decide) rfl (by decide) (by decide) 0 rfl rfl rfl rfl (Nat.le_of_ble_eq_true rfl) eX1_darken_1 ⟨Nat.le_of_ble_eq_true rfl, Nat.le_of_ble_eq_true rfl⟩ (fun z w1 hp => ?_)
  obtain ⟨CT1, rfl, rfl⟩ := hp
  rw [List.nil_append]
  refine j_istore_n C eX1_darken_4 rfl (by decide) (lv' := [(0, .ref (bd 0)), (1, .int (zI ((thr G (w * h) : Nat) : Int)))]) rfl ?_
  refine j_aload_n C eX1_darken_5 0 rfl ?_
  refine j_iload_n C eX1_darken_6 1 rfl ?_
  refine j_callVi C (As := [.int (zI ((thr G (w * h) : Nat) : Int))]) (rest := []) (ctX1_isInverted l D cB cI cZ cL bd w h hs G O CT1 LB FS TD PR BY th pn kn cn (thr G (w * h)) (by omega) hG) (cwV 1 C.1.2.2.2.2 gX1_darken_X1_isInverted rfl rfl rfl (by decide +kernel) ⟨Nat.le_of_ble_eq_true rfl, Nat.le_of_ble_eq_true rfl⟩) [0, 1, 2, 3, 4, 5, 6, 7, 8] [] (wr := []) rfl (by decide) rfl (by decide) (by decide) 0 rfl rfl rfl rfl (Nat.le_of_ble_eq_true rfl) eX1_darken_7 ⟨Nat.le_of_ble_eq_true rfl, Nat.le_of_ble_eq_true rfl⟩ (fun z w1 hp => ?_)
  obtain ⟨rfl, rfl⟩ := hp
  rw [List.nil_append]
  obtain ⟨d, hd⟩ : ∃ d : Int, d = (if ((w * h : Nat) : Int) < 2 * sumN (hst G (w * h)) (thr G (w * h) + 1) then 1 else 0) := ⟨_, rfl⟩
  rw [← hd]
  have hd2 : (d = 0 ∧ ¬ ivt G (w * h)) ∨ (d = 1 ∧ ivt G (w * h)) := by
    rw [hd]
    by_cases c : ivt G (w * h)
    · exact Or.inr ⟨if_pos c, c⟩
    · exact Or.inl ⟨if_neg c, c⟩
  refine j_istore_n C eX1_darken_10 rfl (by decide) (lv' := [(0, .ref (bd 0)), (1, .int (zI ((thr G (w * h) : Nat) : Int))), (2, .int (zI d))]) rfl ?_
  refine j_iconst C eX1_darken_11 ?_
  refine j_istore_n C eX1_darken_12 rfl (by decide) (lv' := [(0, .ref (bd 0)), (1, .int (zI ((thr G (w * h) : Nat) : Int))), (2, .int (zI d)), (3, .int (zI 0))]) rfl ?_
  refine lpX1_darken C hs hG hd2 (fun O' hO' => ?_) (w * h + 1) 0 O (by omega) (by omega) (fun k hk => absurd hk (Nat.not_lt_zero _))
  exact j_vret C hr hlocks eX1_darken_61 ⟨CT1, O', hO', rfl⟩
