/-! THE CLASS: sheets built in the spare one -/
theorem ix_inj {w x x' y y' : Nat} (hx : x < w) (hx' : x' < w) (h : y * w + x = y' * w + x') : y = y' ∧ x = x' := by
  have h1 : (y * w + x) % w = x := by rw [Nat.add_comm, Nat.add_mul_mod_self_right]; exact Nat.mod_eq_of_lt hx
  have h2 : (y' * w + x') % w = x' := by rw [Nat.add_comm, Nat.add_mul_mod_self_right]; exact Nat.mod_eq_of_lt hx'
  have h3 : x = x' := by rw [← h1, ← h2, h]
  subst h3
  have h4 : y * w = y' * w := by omega
  exact ⟨Nat.eq_of_mul_eq_mul_right (by omega) h4, rfl⟩
/-- the places ahead of y, x are filled by f -/
def scn (w : Nat) (f : Nat → Nat → Int) (y x : Nat) (S : Nat → Int) : Prop := ∀ y' x', x' < w → (y' < y ∨ (y' = y ∧ x' < x)) → S (y' * w + x') = f y' x'
theorem scn_0 {w : Nat} {f : Nat → Nat → Int} {S : Nat → Int} : scn w f 0 0 S := fun y' x' _ h => by omega
theorem scn_put {w : Nat} {f : Nat → Nat → Int} {y x : Nat} {S : Nat → Int} (h : scn w f y x S) (hx : x < w) : scn w f y (x + 1) (zup S (y * w + x) (f y x)) := by
  intro y' x' hx' hh
  by_cases e : y' * w + x' = y * w + x
  · obtain ⟨rfl, rfl⟩ := ix_inj hx' hx e
    exact zup_s
  · rw [zup_n e]
    refine h y' x' hx' ?_
    rcases hh with hh | ⟨rfl, hh⟩
    · exact Or.inl hh
    · refine Or.inr ⟨rfl, ?_⟩
      have : x' ≠ x := fun q => e (by rw [q])
      omega
theorem scn_row {w : Nat} {f : Nat → Nat → Int} {y : Nat} {S : Nat → Int} (h : scn w f y w S) : scn w f (y + 1) 0 S := fun y' x' hx' hh => h y' x' hx' (by omega)
theorem hwsX0_shearAt : ∀ w ∈ u_ws RX0 TX0 16, w ∈ wsX0_shearAt := fun _ h => List.mem_cons_of_mem _ (List.mem_append_right _ h)
theorem kX0_shearAt_22 : Cond.fieldLink RX0 22 "SheetRows" (TX0 1).2.1 (TX0 1).2.2.1 ∈ wsX0_shearAt := by decide +kernel
abbrev rmX0_shearAt : Room := { frames := 1, cells := 0, slots := 0, locals := 22 }
/-- how far a shear by b brings column x down -/
def shr (h : Nat) (b : Int) (x : Nat) : Nat := ((b * (x : Int) / 32) % (h : Int)).toNat
set_option maxHeartbeats 4000000 in
set_option maxRecDepth 100000 in
theorem ctX0_shearAt (l : Launch) (D : va_G) (cB cI cZ cL : ClassId) (ad : Nat → Nat) (w h : Nat) (hs : Sz w h) (aG aS : Nat) (G S CB SB DK DR RE PF PK CO : Nat → Int) (rc pn kn cn : Int) (x : Nat) (hx : x < w) (b : Int) (hb : -100 ≤ b ∧ b ≤ 100) : mI l yX0_shearAt wsX0_shearAt rmX0_shearAt D vwCl (tyl cB cI cZ cL) [.ref (ad 0), .int (zI (x : Int)), .int (zI b)] (wX cB cI cZ ad w h aG aS G S CB SB DK DR RE PF PK CO rc pn kn cn) 0 0 (fun z w1 => w1 = wX cB cI cZ ad w h aG aS G S CB SB DK DR RE PF PK CO rc pn kn cn ∧ z = ((shr h b x : Nat) : Int)) := by
  refine mI_of (own := RX0) rfl (by decide) rfl (Nat.le_of_ble_eq_true rfl) ?_
  intro p e s m args below meth c C hr hlocks hname
  show J p l e rmX0_shearAt s m args below meth c _ 3 D vwCl _ 0 [(0, .ref (ad 0)), (1, .int (zI (x : Int))), (2, .int (zI b))] [] (wX cB cI cZ ad w h aG aS G S CB SB DK DR RE PF PK CO rc pn kn cn) 0 0
  obtain ⟨h1, h2, h3, h4⟩ := id hs
  have hbx : -4800 ≤ b * (x : Int) ∧ b * (x : Int) ≤ 4800 := by
    have hx2 : (x : Int) ≤ 48 := by omega
    have hx3 : (0 : Int) ≤ (x : Int) := by omega
    constructor
    · have := Int.mul_le_mul_of_nonneg_right (a := -100) (b := b) (c := (x : Int)) hb.1 hx3
      omega
    · have := Int.mul_le_mul_of_nonneg_right (a := b) (b := 100) (c := (x : Int)) hb.2 hx3
      omega
  refine j_iload_n C eX0_shearAt_0 2 rfl ?_
  refine j_iload_n C eX0_shearAt_1 1 rfl ?_
  refine j_imul C eX0_shearAt_2 ?_
  refine j_bipush C eX0_shearAt_3 (by decide +kernel) ?_
  refine j_callSi C (As := [.int (zI (b * (x : Int))), .int (zI 32)]) (rest := []) (ctJ9_floorDiv_7cf53 l D cB cI cZ cL (b * (x : Int)) 32 (by omega) (by omega)) (va_cwS 2 C.1.2.2.2.2 gX0_shearAt_J9_floorDiv_7cf53 rfl rfl rfl (by decide +kernel) ⟨Nat.le_of_ble_eq_true rfl, Nat.le_of_ble_eq_true rfl⟩) [] [0, 1, 2, 3, 4, 5, 6, 7, 8, 9, 10] (wr := wX cB cI cZ ad w h aG aS G S CB SB DK DR RE PF PK CO rc pn kn cn) rfl (by decide) rfl (by decide) (by decide) rfl rfl (Nat.le_of_ble_eq_true rfl) eX0_shearAt_5 ⟨Nat.le_of_ble_eq_true rfl, Nat.le_of_ble_eq_true rfl⟩ (fun z w1 hp => ?_)
  obtain ⟨rfl, rfl⟩ := hp
  rw [List.append_nil]
  refine j_aload_n C eX0_shearAt_8 0 rfl ?_
  refine j_getf C hwsX0_shearAt 0 rfl rfl 1 (by decide) kX0_shearAt_22 rfl rfl eX0_shearAt_9 ?_
  refine j_callSi C (As := [.int (zI (b * (x : Int) / 32)), .int (zI (h : Int))]) (rest := []) (ctJ9_floorMod_7cf53 l D cB cI cZ cL (b * (x : Int) / 32) (h : Int) (by omega) (by omega)) (va_cwS 2 C.1.2.2.2.2 gX0_shearAt_J9_floorMod_7cf53 rfl rfl rfl (by decide +kernel) ⟨Nat.le_of_ble_eq_true rfl, Nat.le_of_ble_eq_true rfl⟩) [] [0, 1, 2, 3, 4, 5, 6, 7, 8, 9, 10] (wr := wX cB cI cZ ad w h aG aS G S CB SB DK DR RE PF PK CO rc pn kn cn) rfl (by decide) rfl (by decide) (by decide) rfl rfl (Nat.le_of_ble_eq_true rfl) eX0_shearAt_12 ⟨Nat.le_of_ble_eq_true rfl, Nat.le_of_ble_eq_true rfl⟩ (fun z w1 hp => ?_)
  obtain ⟨rfl, rfl⟩ := hp
  rw [List.append_nil]
  exact j_iret C hr hlocks rfl eX0_shearAt_15 ⟨rfl, (Int.toNat_of_nonneg (Int.emod_nonneg _ (by omega))).symm⟩
theorem hwsX0_mirrorRows : ∀ w ∈ u_ws RX0 TX0 16, w ∈ wsX0_mirrorRows := fun _ h => List.mem_cons_of_mem _ (List.mem_append_right _ h)
theorem kX0_mirrorRows_18 : Cond.fieldLink RX0 18 "SheetRows" (TX0 0).2.1 (TX0 0).2.2.1 ∈ wsX0_mirrorRows := by decide +kernel
theorem kX0_mirrorRows_22 : Cond.fieldLink RX0 22 "SheetRows" (TX0 1).2.1 (TX0 1).2.2.1 ∈ wsX0_mirrorRows := by decide +kernel
theorem kX0_mirrorRows_25 : Cond.fieldLink RX0 25 "SheetRows" (TX0 2).2.1 (TX0 2).2.2.1 ∈ wsX0_mirrorRows := by decide +kernel
theorem kX0_mirrorRows_29 : Cond.fieldLink RX0 29 "SheetRows" (TX0 3).2.1 (TX0 3).2.2.1 ∈ wsX0_mirrorRows := by decide +kernel
abbrev rmX0_mirrorRows : Room := { frames := 0, cells := 0, slots := 0, locals := 0 }
set_option maxHeartbeats 4000000 in
set_option maxRecDepth 100000 in
theorem lqX0_mirrorRows {p : Program} {l : Launch} {e : Env} {s : State} {m : MethodId} {args : Array Value} {below : List Frame} {meth : Method} {c : Code} {Q : State → Prop} {D : va_G} {A : Nat → Prop} {cB cI cZ cL : ClassId} {w h : Nat} {ad : Nat → Nat} {aG aS : Nat} {G CB SB DK DR RE PF PK CO : Nat → Int} {rc pn kn cn : Int} (C : JC p m c cX0_mirrorRows 3 s args wsX0_mirrorRows RX0 D vwCl (tyl cB cI cZ cL) A) (hs : Sz w h) (hG : byt (w * h) G) {y : Nat} (hy : y < h) (kx : ∀ S : Nat → Int, scn w (fun y x => G (y * w + (w - 1 - x))) y w S → J p l e rmX0_mirrorRows s m args below meth c Q 3 D vwCl A 59 [(0, .ref (ad 0)), (1, .int (zI (y : Int))), (2, .int (zI (w : Int)))] [] (wX cB cI cZ ad w h aG aS G S CB SB DK DR RE PF PK CO rc pn kn cn) 0 0) : ∀ (n x : Nat) (S : Nat → Int), x ≤ w → w - x < n → scn w (fun y x => G (y * w + (w - 1 - x))) y x S → J p l e rmX0_mirrorRows s m args below meth c Q 3 D vwCl A 12 [(0, .ref (ad 0)), (1, .int (zI (y : Int))), (2, .int (zI (x : Int)))] [] (wX cB cI cZ ad w h aG aS G S CB SB DK DR RE PF PK CO rc pn kn cn) 0 0 := by
  have hm := hs.mul
  obtain ⟨h1, h2, h3, h4⟩ := id hs
  intro n
  induction n with
  | zero => intro x S _ hn; exact absurd hn (Nat.not_lt_zero _)
  | succ n ih =>
    intro x S hx hn hS
    refine j_iload_n C eX0_mirrorRows_12 2 rfl ?_
    refine j_aload_n C eX0_mirrorRows_13 0 rfl ?_
    refine j_getf C hwsX0_mirrorRows 0 rfl rfl 0 (by decide) kX0_mirrorRows_18 rfl rfl eX0_mirrorRows_14 ?_
    refine j_icmp_ge C 59 eX0_mirrorRows_17 (by decide) (by omega) (by omega) (fun c17 => ?_) (fun c17 => ?_)
    ·
      have he : x = w := by omega
      subst he
      exact kx S hS
    ·
      have h7 := ix_lt (w := w) (h := h) (x := x) (y := y) (by omega) hy
      have h8 := ix_lt (w := w) (h := h) (x := w - 1 - x) (y := y) (by omega) hy
      refine j_aload_n C eX0_mirrorRows_20 0 rfl ?_
      refine j_getf C hwsX0_mirrorRows 0 rfl rfl 3 (by decide) kX0_mirrorRows_29 rfl rfl eX0_mirrorRows_21 ?_
      refine j_iload_n C eX0_mirrorRows_24 1 rfl ?_
      refine j_aload_n C eX0_mirrorRows_25 0 rfl ?_
      refine j_getf C hwsX0_mirrorRows 0 rfl rfl 0 (by decide) kX0_mirrorRows_18 rfl rfl eX0_mirrorRows_26 ?_
      refine j_imul C eX0_mirrorRows_29 ?_
      refine j_iload_n C eX0_mirrorRows_30 2 rfl ?_
      refine j_iadd C eX0_mirrorRows_31 ?_
      refine j_aload_n C eX0_mirrorRows_32 0 rfl ?_
      refine j_getf C hwsX0_mirrorRows 0 rfl rfl 2 (by decide) kX0_mirrorRows_25 rfl rfl eX0_mirrorRows_33 ?_
      refine j_iload_n C eX0_mirrorRows_36 1 rfl ?_
      refine j_aload_n C eX0_mirrorRows_37 0 rfl ?_
      refine j_getf C hwsX0_mirrorRows 0 rfl rfl 0 (by decide) kX0_mirrorRows_18 rfl rfl eX0_mirrorRows_38 ?_
      refine j_imul C eX0_mirrorRows_41 ?_
      refine j_aload_n C eX0_mirrorRows_42 0 rfl ?_
      refine j_getf C hwsX0_mirrorRows 0 rfl rfl 0 (by decide) kX0_mirrorRows_18 rfl rfl eX0_mirrorRows_43 ?_
      refine j_iadd C eX0_mirrorRows_46 ?_
      refine j_iconst C eX0_mirrorRows_47 ?_
      refine j_isub C eX0_mirrorRows_48 ?_
      refine j_iload_n C eX0_mirrorRows_49 2 rfl ?_
      refine j_isub C eX0_mirrorRows_50 ?_
      refine j_bald C 1 0 rfl rfl (y * w + (w - 1 - x)) (by omega) h8 (by omega) eX0_mirrorRows_51 ?_
      refine j_bast C 2 0 rfl rfl (y * w + x) (by push_cast; rfl) h7 (by omega) (nar_b (hG _ h8)) eX0_mirrorRows_52 (wd' := wX cB cI cZ ad w h aG aS G (zup S (y * w + x) (G (y * w + (w - 1 - x)))) CB SB DK DR RE PF PK CO rc pn kn cn) rfl ?_
      refine j_iinc C eX0_mirrorRows_53 2 rfl rfl (by decide) (lv' := [(0, .ref (ad 0)), (1, .int (zI (y : Int))), (2, .int (zI ((x : Int) + 1)))]) rfl ?_
      refine j_goto C 12 eX0_mirrorRows_56 (by decide) ?_
      exact ih (x + 1) _ (by omega) (by omega) (scn_put hS (by omega))
set_option maxHeartbeats 4000000 in
set_option maxRecDepth 100000 in
theorem lpX0_mirrorRows {p : Program} {l : Launch} {e : Env} {s : State} {m : MethodId} {args : Array Value} {below : List Frame} {meth : Method} {c : Code} {Q : State → Prop} {D : va_G} {A : Nat → Prop} {cB cI cZ cL : ClassId} {w h : Nat} {ad : Nat → Nat} {aG aS : Nat} {G CB SB DK DR RE PF PK CO : Nat → Int} {rc pn kn cn : Int} (C : JC p m c cX0_mirrorRows 3 s args wsX0_mirrorRows RX0 D vwCl (tyl cB cI cZ cL) A) (hs : Sz w h) (hG : byt (w * h) G) (kx : ∀ S : Nat → Int, scn w (fun y x => G (y * w + (w - 1 - x))) h 0 S → J p l e rmX0_mirrorRows s m args below meth c Q 3 D vwCl A 65 [(0, .ref (ad 0)), (1, .int (zI (h : Int)))] [] (wX cB cI cZ ad w h aG aS G S CB SB DK DR RE PF PK CO rc pn kn cn) 0 0) : ∀ (n y : Nat) (S : Nat → Int), y ≤ h → h - y < n → scn w (fun y x => G (y * w + (w - 1 - x))) y 0 S → J p l e rmX0_mirrorRows s m args below meth c Q 3 D vwCl A 2 [(0, .ref (ad 0)), (1, .int (zI (y : Int)))] [] (wX cB cI cZ ad w h aG aS G S CB SB DK DR RE PF PK CO rc pn kn cn) 0 0 := by
  have hm := hs.mul
  obtain ⟨h1, h2, h3, h4⟩ := id hs
  intro n
  induction n with
  | zero => intro x S _ hn; exact absurd hn (Nat.not_lt_zero _)
  | succ n ih =>
    intro y S hy hn hS
    refine j_iload_n C eX0_mirrorRows_2 1 rfl ?_
    refine j_aload_n C eX0_mirrorRows_3 0 rfl ?_
    refine j_getf C hwsX0_mirrorRows 0 rfl rfl 1 (by decide) kX0_mirrorRows_22 rfl rfl eX0_mirrorRows_4 ?_
    refine j_icmp_ge C 65 eX0_mirrorRows_7 (by decide) (by omega) (by omega) (fun c7 => ?_) (fun c7 => ?_)
    ·
      have he : y = h := by omega
      subst he
      exact kx S hS
    ·
      refine j_iconst C eX0_mirrorRows_10 ?_
      refine j_istore_n C eX0_mirrorRows_11 rfl (by decide) (lv' := [(0, .ref (ad 0)), (1, .int (zI (y : Int))), (2, .int (zI 0))]) rfl ?_
      refine lqX0_mirrorRows C hs hG (by omega) (fun S hS => ?_) (w + 1) 0 S (by omega) (by omega) hS
      refine j_iinc C eX0_mirrorRows_59 1 rfl rfl (by decide) (lv' := [(0, .ref (ad 0)), (1, .int (zI ((y : Int) + 1))), (2, .int (zI (w : Int)))]) rfl ?_
      refine j_goto C 2 eX0_mirrorRows_62 (by decide) ?_
      refine j_loc [0, 1] (lv' := [(0, .ref (ad 0)), (1, .int (zI ((y : Int) + 1)))]) rfl ?_
      exact ih (y + 1) S (by omega) (by omega) (scn_row hS)
set_option maxHeartbeats 4000000 in
set_option maxRecDepth 100000 in
theorem ctX0_mirrorRows (l : Launch) (D : va_G) (cB cI cZ cL : ClassId) (ad : Nat → Nat) (w h : Nat) (hs : Sz w h) (aG aS : Nat) (G S CB SB DK DR RE PF PK CO : Nat → Int) (rc pn kn cn : Int) (hG : byt (w * h) G) : mV l yX0_mirrorRows wsX0_mirrorRows rmX0_mirrorRows D vwCl (tyl cB cI cZ cL) [.ref (ad 0)] (wX cB cI cZ ad w h aG aS G S CB SB DK DR RE PF PK CO rc pn kn cn) 0 0 (fun w1 => ∃ S' : Nat → Int, scn w (fun y x => G (y * w + (w - 1 - x))) h 0 S' ∧ w1 = wX cB cI cZ ad w h aG aS G S' CB SB DK DR RE PF PK CO rc pn kn cn) := by
  refine mV_of (own := RX0) rfl (by decide) rfl (Nat.le_of_ble_eq_true rfl) ?_
  intro p e s m args below meth c C hr hlocks hname
  show J p l e rmX0_mirrorRows s m args below meth c _ 3 D vwCl _ 0 [(0, .ref (ad 0))] [] (wX cB cI cZ ad w h aG aS G S CB SB DK DR RE PF PK CO rc pn kn cn) 0 0
  refine j_iconst C eX0_mirrorRows_0 ?_
  refine j_istore_n C eX0_mirrorRows_1 rfl (by decide) (lv' := [(0, .ref (ad 0)), (1, .int (zI 0))]) rfl ?_
  refine lpX0_mirrorRows C hs hG (fun S' hS' => ?_) (h + 1) 0 S (by omega) (by omega) scn_0
  exact j_vret C hr hlocks eX0_mirrorRows_65 ⟨S', hS', rfl⟩
theorem hwsX0_reverseRows : ∀ w ∈ u_ws RX0 TX0 16, w ∈ wsX0_reverseRows := fun _ h => List.mem_cons_of_mem _ (List.mem_append_right _ h)
theorem kX0_reverseRows_18 : Cond.fieldLink RX0 18 "SheetRows" (TX0 0).2.1 (TX0 0).2.2.1 ∈ wsX0_reverseRows := by decide +kernel
theorem kX0_reverseRows_22 : Cond.fieldLink RX0 22 "SheetRows" (TX0 1).2.1 (TX0 1).2.2.1 ∈ wsX0_reverseRows := by decide +kernel
theorem kX0_reverseRows_25 : Cond.fieldLink RX0 25 "SheetRows" (TX0 2).2.1 (TX0 2).2.2.1 ∈ wsX0_reverseRows := by decide +kernel
theorem kX0_reverseRows_29 : Cond.fieldLink RX0 29 "SheetRows" (TX0 3).2.1 (TX0 3).2.2.1 ∈ wsX0_reverseRows := by decide +kernel
abbrev rmX0_reverseRows : Room := { frames := 0, cells := 0, slots := 0, locals := 0 }
set_option maxHeartbeats 4000000 in
set_option maxRecDepth 100000 in
theorem lqX0_reverseRows {p : Program} {l : Launch} {e : Env} {s : State} {m : MethodId} {args : Array Value} {below : List Frame} {meth : Method} {c : Code} {Q : State → Prop} {D : va_G} {A : Nat → Prop} {cB cI cZ cL : ClassId} {w h : Nat} {ad : Nat → Nat} {aG aS : Nat} {G CB SB DK DR RE PF PK CO : Nat → Int} {rc pn kn cn : Int} (C : JC p m c cX0_reverseRows 3 s args wsX0_reverseRows RX0 D vwCl (tyl cB cI cZ cL) A) (hs : Sz w h) (hG : byt (w * h) G) {y : Nat} (hy : y < h) (kx : ∀ S : Nat → Int, scn w (fun y x => G ((h - 1 - y) * w + x)) y w S → J p l e rmX0_reverseRows s m args below meth c Q 3 D vwCl A 59 [(0, .ref (ad 0)), (1, .int (zI (y : Int))), (2, .int (zI (w : Int)))] [] (wX cB cI cZ ad w h aG aS G S CB SB DK DR RE PF PK CO rc pn kn cn) 0 0) : ∀ (n x : Nat) (S : Nat → Int), x ≤ w → w - x < n → scn w (fun y x => G ((h - 1 - y) * w + x)) y x S → J p l e rmX0_reverseRows s m args below meth c Q 3 D vwCl A 12 [(0, .ref (ad 0)), (1, .int (zI (y : Int))), (2, .int (zI (x : Int)))] [] (wX cB cI cZ ad w h aG aS G S CB SB DK DR RE PF PK CO rc pn kn cn) 0 0 := by
  have hm := hs.mul
  obtain ⟨h1, h2, h3, h4⟩ := id hs
  intro n
  induction n with
  | zero => intro x S _ hn; exact absurd hn (Nat.not_lt_zero _)
  | succ n ih =>
    intro x S hx hn hS
    refine j_iload_n C eX0_reverseRows_12 2 rfl ?_
    refine j_aload_n C eX0_reverseRows_13 0 rfl ?_
    refine j_getf C hwsX0_reverseRows 0 rfl rfl 0 (by decide) kX0_reverseRows_18 rfl rfl eX0_reverseRows_14 ?_
    refine j_icmp_ge C 59 eX0_reverseRows_17 (by decide) (by omega) (by omega) (fun c17 => ?_) (fun c17 => ?_)
    ·
      have he : x = w := by omega
      subst he
      exact kx S hS
    ·
      have h7 := ix_lt (w := w) (h := h) (x := x) (y := y) (by omega) hy
      have h8 := ix_lt (w := w) (h := h) (x := x) (y := h - 1 - y) (by omega) (by omega)
      refine j_aload_n C eX0_reverseRows_20 0 rfl ?_
      refine j_getf C hwsX0_reverseRows 0 rfl rfl 3 (by decide) kX0_reverseRows_29 rfl rfl eX0_reverseRows_21 ?_
      refine j_iload_n C eX0_reverseRows_24 1 rfl ?_
      refine j_aload_n C eX0_reverseRows_25 0 rfl ?_
      refine j_getf C hwsX0_reverseRows 0 rfl rfl 0 (by decide) kX0_reverseRows_18 rfl rfl eX0_reverseRows_26 ?_
      refine j_imul C eX0_reverseRows_29 ?_
      refine j_iload_n C eX0_reverseRows_30 2 rfl ?_
      refine j_iadd C eX0_reverseRows_31 ?_
      refine j_aload_n C eX0_reverseRows_32 0 rfl ?_
      refine j_getf C hwsX0_reverseRows 0 rfl rfl 2 (by decide) kX0_reverseRows_25 rfl rfl eX0_reverseRows_33 ?_
      refine j_aload_n C eX0_reverseRows_36 0 rfl ?_
      refine j_getf C hwsX0_reverseRows 0 rfl rfl 1 (by decide) kX0_reverseRows_22 rfl rfl eX0_reverseRows_37 ?_
      refine j_iconst C eX0_reverseRows_40 ?_
      refine j_isub C eX0_reverseRows_41 ?_
      refine j_iload_n C eX0_reverseRows_42 1 rfl ?_
      refine j_isub C eX0_reverseRows_43 ?_
      refine j_aload_n C eX0_reverseRows_44 0 rfl ?_
      refine j_getf C hwsX0_reverseRows 0 rfl rfl 0 (by decide) kX0_reverseRows_18 rfl rfl eX0_reverseRows_45 ?_
      refine j_imul C eX0_reverseRows_48 ?_
      refine j_iload_n C eX0_reverseRows_49 2 rfl ?_
      refine j_iadd C eX0_reverseRows_50 ?_
      refine j_bald C 1 0 rfl rfl ((h - 1 - y) * w + x) (by rw [show ((h - 1 - y) * w + x : Nat) = (h - 1 - y) * w + x from rfl]; push_cast; rw [Int.ofNat_sub (by omega), Int.ofNat_sub (by omega)]; rfl) h8 (by omega) eX0_reverseRows_51 ?_
      refine j_bast C 2 0 rfl rfl (y * w + x) (by push_cast; rfl) h7 (by omega) (nar_b (hG _ h8)) eX0_reverseRows_52 (wd' := wX cB cI cZ ad w h aG aS G (zup S (y * w + x) (G ((h - 1 - y) * w + x))) CB SB DK DR RE PF PK CO rc pn kn cn) rfl ?_
      refine j_iinc C eX0_reverseRows_53 2 rfl rfl (by decide) (lv' := [(0, .ref (ad 0)), (1, .int (zI (y : Int))), (2, .int (zI ((x : Int) + 1)))]) rfl ?_
      refine j_goto C 12 eX0_reverseRows_56 (by decide) ?_
      exact ih (x + 1) _ (by omega) (by omega) (scn_put hS (by omega))
set_option maxHeartbeats 4000000 in
set_option maxRecDepth 100000 in
theorem lpX0_reverseRows {p : Program} {l : Launch} {e : Env} {s : State} {m : MethodId} {args : Array Value} {below : List Frame} {meth : Method} {c : Code} {Q : State → Prop} {D : va_G} {A : Nat → Prop} {cB cI cZ cL : ClassId} {w h : Nat} {ad : Nat → Nat} {aG aS : Nat} {G CB SB DK DR RE PF PK CO : Nat → Int} {rc pn kn cn : Int} (C : JC p m c cX0_reverseRows 3 s args wsX0_reverseRows RX0 D vwCl (tyl cB cI cZ cL) A) (hs : Sz w h) (hG : byt (w * h) G) (kx : ∀ S : Nat → Int, scn w (fun y x => G ((h - 1 - y) * w + x)) h 0 S → J p l e rmX0_reverseRows s m args below meth c Q 3 D vwCl A 65 [(0, .ref (ad 0)), (1, .int (zI (h : Int)))] [] (wX cB cI cZ ad w h aG aS G S CB SB DK DR RE PF PK CO rc pn kn cn) 0 0) : ∀ (n y : Nat) (S : Nat → Int), y ≤ h → h - y < n → scn w (fun y x => G ((h - 1 - y) * w + x)) y 0 S → J p l e rmX0_reverseRows s m args below meth c Q 3 D vwCl A 2 [(0, .ref (ad 0)), (1, .int (zI (y : Int)))] [] (wX cB cI cZ ad w h aG aS G S CB SB DK DR RE PF PK CO rc pn kn cn) 0 0 := by
  have hm := hs.mul
  obtain ⟨h1, h2, h3, h4⟩ := id hs
  intro n
  induction n with
  | zero => intro x S _ hn; exact absurd hn (Nat.not_lt_zero _)
  | succ n ih =>
    intro y S hy hn hS
    refine j_iload_n C eX0_reverseRows_2 1 rfl ?_
    refine j_aload_n C eX0_reverseRows_3 0 rfl ?_
    refine j_getf C hwsX0_reverseRows 0 rfl rfl 1 (by decide) kX0_reverseRows_22 rfl rfl eX0_reverseRows_4 ?_
    refine j_icmp_ge C 65 eX0_reverseRows_7 (by decide) (by omega) (by omega) (fun c7 => ?_) (fun c7 => ?_)
    ·
      have he : y = h := by omega
      subst he
      exact kx S hS
    ·
      refine j_iconst C eX0_reverseRows_10 ?_
      refine j_istore_n C eX0_reverseRows_11 rfl (by decide) (lv' := [(0, .ref (ad 0)), (1, .int (zI (y : Int))), (2, .int (zI 0))]) rfl ?_
      refine lqX0_reverseRows C hs hG (by omega) (fun S hS => ?_) (w + 1) 0 S (by omega) (by omega) hS
      refine j_iinc C eX0_reverseRows_59 1 rfl rfl (by decide) (lv' := [(0, .ref (ad 0)), (1, .int (zI ((y : Int) + 1))), (2, .int (zI (w : Int)))]) rfl ?_
      refine j_goto C 2 eX0_reverseRows_62 (by decide) ?_
      refine j_loc [0, 1] (lv' := [(0, .ref (ad 0)), (1, .int (zI ((y : Int) + 1)))]) rfl ?_
      exact ih (y + 1) S (by omega) (by omega) (scn_row hS)
set_option maxHeartbeats 4000000 in
set_option maxRecDepth 100000 in
theorem ctX0_reverseRows (l : Launch) (D : va_G) (cB cI cZ cL : ClassId) (ad : Nat → Nat) (w h : Nat) (hs : Sz w h) (aG aS : Nat) (G S CB SB DK DR RE PF PK CO : Nat → Int) (rc pn kn cn : Int) (hG : byt (w * h) G) : mV l yX0_reverseRows wsX0_reverseRows rmX0_reverseRows D vwCl (tyl cB cI cZ cL) [.ref (ad 0)] (wX cB cI cZ ad w h aG aS G S CB SB DK DR RE PF PK CO rc pn kn cn) 0 0 (fun w1 => ∃ S' : Nat → Int, scn w (fun y x => G ((h - 1 - y) * w + x)) h 0 S' ∧ w1 = wX cB cI cZ ad w h aG aS G S' CB SB DK DR RE PF PK CO rc pn kn cn) := by
  refine mV_of (own := RX0) rfl (by decide) rfl (Nat.le_of_ble_eq_true rfl) ?_
  intro p e s m args below meth c C hr hlocks hname
  show J p l e rmX0_reverseRows s m args below meth c _ 3 D vwCl _ 0 [(0, .ref (ad 0))] [] (wX cB cI cZ ad w h aG aS G S CB SB DK DR RE PF PK CO rc pn kn cn) 0 0
  refine j_iconst C eX0_reverseRows_0 ?_
  refine j_istore_n C eX0_reverseRows_1 rfl (by decide) (lv' := [(0, .ref (ad 0)), (1, .int (zI 0))]) rfl ?_
  refine lpX0_reverseRows C hs hG (fun S' hS' => ?_) (h + 1) 0 S (by omega) (by omega) scn_0
  exact j_vret C hr hlocks eX0_reverseRows_65 ⟨S', hS', rfl⟩
theorem hwsX0_invertGreys : ∀ w ∈ u_ws RX0 TX0 16, w ∈ wsX0_invertGreys := fun _ h => List.mem_cons_of_mem _ (List.mem_append_right _ h)
theorem kX0_invertGreys_25 : Cond.fieldLink RX0 25 "SheetRows" (TX0 2).2.1 (TX0 2).2.2.1 ∈ wsX0_invertGreys := by decide +kernel
theorem kX0_invertGreys_29 : Cond.fieldLink RX0 29 "SheetRows" (TX0 3).2.1 (TX0 3).2.2.1 ∈ wsX0_invertGreys := by decide +kernel
abbrev rmX0_invertGreys : Room := { frames := 0, cells := 0, slots := 0, locals := 0 }
set_option maxHeartbeats 4000000 in
set_option maxRecDepth 100000 in
theorem lpX0_invertGreys {p : Program} {l : Launch} {e : Env} {s : State} {m : MethodId} {args : Array Value} {below : List Frame} {meth : Method} {c : Code} {Q : State → Prop} {D : va_G} {A : Nat → Prop} {cB cI cZ cL : ClassId} {w h : Nat} {ad : Nat → Nat} {aG aS : Nat} {G CB SB DK DR RE PF PK CO : Nat → Int} {rc pn kn cn : Int} (C : JC p m c cX0_invertGreys 2 s args wsX0_invertGreys RX0 D vwCl (tyl cB cI cZ cL) A) (hs : Sz w h) (kx : ∀ S : Nat → Int, (∀ k, k < w * h → S k = Int.bmod (255 - G k % 256) 256) → J p l e rmX0_invertGreys s m args below meth c Q 2 D vwCl A 38 [(0, .ref (ad 0)), (1, .int (zI ((w * h) : Int)))] [] (wX cB cI cZ ad w h aG aS G S CB SB DK DR RE PF PK CO rc pn kn cn) 0 0) : ∀ (n i : Nat) (S : Nat → Int), i ≤ w * h → w * h - i < n → (∀ k, k < i → S k = Int.bmod (255 - G k % 256) 256) → J p l e rmX0_invertGreys s m args below meth c Q 2 D vwCl A 2 [(0, .ref (ad 0)), (1, .int (zI (i : Int)))] [] (wX cB cI cZ ad w h aG aS G S CB SB DK DR RE PF PK CO rc pn kn cn) 0 0 := by
  have hm := hs.mul
  intro n
  induction n with
  | zero => intro x S _ hn; exact absurd hn (Nat.not_lt_zero _)
  | succ n ih =>
    intro i S hi hn hS
    refine j_iload_n C eX0_invertGreys_2 1 rfl ?_
    refine j_aload_n C eX0_invertGreys_3 0 rfl ?_
    refine j_getf C hwsX0_invertGreys 0 rfl rfl 2 (by decide) kX0_invertGreys_25 rfl rfl eX0_invertGreys_4 ?_
    refine j_alen C 1 0 rfl rfl eX0_invertGreys_7 ?_
    refine j_icmp_ge C 38 eX0_invertGreys_8 (by decide) (by omega) (by omega) (fun c8 => ?_) (fun c8 => ?_)
    ·
      have he : i = w * h := by omega
      subst he
      exact kx S hS
    ·
      refine j_aload_n C eX0_invertGreys_11 0 rfl ?_
      refine j_getf C hwsX0_invertGreys 0 rfl rfl 3 (by decide) kX0_invertGreys_29 rfl rfl eX0_invertGreys_12 ?_
      refine j_iload_n C eX0_invertGreys_15 1 rfl ?_
      refine j_sipush C eX0_invertGreys_16 (by decide +kernel) ?_
      refine j_aload_n C eX0_invertGreys_19 0 rfl ?_
      refine j_getf C hwsX0_invertGreys 0 rfl rfl 2 (by decide) kX0_invertGreys_25 rfl rfl eX0_invertGreys_20 ?_
      refine j_iload_n C eX0_invertGreys_23 1 rfl ?_
      refine j_bald C 1 0 rfl rfl i rfl (by omega) (by omega) eX0_invertGreys_24 ?_
      refine j_sipush C eX0_invertGreys_25 (by decide +kernel) ?_
      refine j_and255 C eX0_invertGreys_28 ?_
      refine j_isub C eX0_invertGreys_29 ?_
      refine j_i2bz C eX0_invertGreys_30 ?_
      refine j_bast C 2 0 rfl rfl i rfl (by omega) (by omega) (nar_b (bm_in _)) eX0_invertGreys_31 (wd' := wX cB cI cZ ad w h aG aS G (zup S i (Int.bmod (255 - ((G i) % 256)) 256)) CB SB DK DR RE PF PK CO rc pn kn cn) rfl ?_
      refine j_iinc C eX0_invertGreys_32 1 rfl rfl (by decide) (lv' := [(0, .ref (ad 0)), (1, .int (zI ((i : Int) + 1)))]) rfl ?_
      refine j_goto C 2 eX0_invertGreys_35 (by decide) ?_
      exact ih (i + 1) _ (by omega) (by omega) (fun k hk => by
        by_cases e : k = i
        · subst e; exact zup_s
        · rw [zup_n e]; exact hS k (by omega))
set_option maxHeartbeats 4000000 in
set_option maxRecDepth 100000 in
theorem ctX0_invertGreys (l : Launch) (D : va_G) (cB cI cZ cL : ClassId) (ad : Nat → Nat) (w h : Nat) (hs : Sz w h) (aG aS : Nat) (G S CB SB DK DR RE PF PK CO : Nat → Int) (rc pn kn cn : Int)  : mV l yX0_invertGreys wsX0_invertGreys rmX0_invertGreys D vwCl (tyl cB cI cZ cL) [.ref (ad 0)] (wX cB cI cZ ad w h aG aS G S CB SB DK DR RE PF PK CO rc pn kn cn) 0 0 (fun w1 => ∃ S' : Nat → Int, (∀ k, k < w * h → S' k = Int.bmod (255 - G k % 256) 256) ∧ w1 = wX cB cI cZ ad w h aG aS G S' CB SB DK DR RE PF PK CO rc pn kn cn) := by
  refine mV_of (own := RX0) rfl (by decide) rfl (Nat.le_of_ble_eq_true rfl) ?_
  intro p e s m args below meth c C hr hlocks hname
  show J p l e rmX0_invertGreys s m args below meth c _ 2 D vwCl _ 0 [(0, .ref (ad 0))] [] (wX cB cI cZ ad w h aG aS G S CB SB DK DR RE PF PK CO rc pn kn cn) 0 0
  refine j_iconst C eX0_invertGreys_0 ?_
  refine j_istore_n C eX0_invertGreys_1 rfl (by decide) (lv' := [(0, .ref (ad 0)), (1, .int (zI 0))]) rfl ?_
  refine lpX0_invertGreys C hs (fun S' hS' => ?_) (w * h + 1) 0 S (by omega) (by omega) (fun k hk => absurd hk (Nat.not_lt_zero _))
  exact j_vret C hr hlocks eX0_invertGreys_38 ⟨S', hS', rfl⟩
theorem hwsX0_halve : ∀ w ∈ u_ws RX0 TX0 16, w ∈ wsX0_halve := fun _ h => List.mem_cons_of_mem _ (List.mem_append_right _ h)
theorem kX0_halve_18 : Cond.fieldLink RX0 18 "SheetRows" (TX0 0).2.1 (TX0 0).2.2.1 ∈ wsX0_halve := by decide +kernel
theorem kX0_halve_22 : Cond.fieldLink RX0 22 "SheetRows" (TX0 1).2.1 (TX0 1).2.2.1 ∈ wsX0_halve := by decide +kernel
theorem kX0_halve_29 : Cond.fieldLink RX0 29 "SheetRows" (TX0 3).2.1 (TX0 3).2.2.1 ∈ wsX0_halve := by decide +kernel
abbrev rmX0_halve : Room := { frames := 1, cells := 0, slots := 0, locals := 23 }
/-- the mean of four greys, as a byte -/
def mn4 (w : Nat) (G : Nat → Int) (y x : Nat) : Int := Int.bmod ((G (2 * y * w + 2 * x) % 256 + G (2 * y * w + 2 * x + 1) % 256 + (G (2 * y * w + 2 * x + w) % 256 + G (2 * y * w + 2 * x + w + 1) % 256)) / 4) 256
/-- a halved sheet, as far as y, x -/
def hlv (w h : Nat) (G : Nat → Int) (y x : Nat) (S : Nat → Int) : Prop := ∀ y' x', x' < w → y' < h → S (y' * w + x') = if x' < w / 2 ∧ (y' < y ∨ (y' = y ∧ x' < x)) then mn4 w G y' x' else -1
theorem hlv_put {w h : Nat} {G : Nat → Int} {y x : Nat} {S : Nat → Int} (h0 : hlv w h G y x S) (hx : x < w / 2) : hlv w h G y (x + 1) (zup S (y * w + x) (mn4 w G y x)) := by
  intro y' x' hx' hy'
  by_cases e : y' * w + x' = y * w + x
  · obtain ⟨rfl, rfl⟩ := ix_inj hx' (by omega) e
    rw [zup_s, if_pos (by omega)]
  · rw [zup_n e, h0 y' x' hx' hy']
    have h1 : ¬ (y' = y ∧ x' = x) := fun q => e (by rw [q.1, q.2])
    by_cases c : x' < w / 2 ∧ (y' < y ∨ (y' = y ∧ x' < x))
    · rw [if_pos c, if_pos (by omega)]
    · rw [if_neg c, if_neg (by omega)]
theorem hlv_row {w h : Nat} {G : Nat → Int} {y : Nat} {S : Nat → Int} (h0 : hlv w h G y (w / 2) S) : hlv w h G (y + 1) 0 S := by
  intro y' x' hx' hy'
  rw [h0 y' x' hx' hy']
  by_cases c : x' < w / 2 ∧ (y' < y ∨ (y' = y ∧ x' < w / 2))
  · rw [if_pos c, if_pos (by omega)]
  · rw [if_neg c, if_neg (by omega)]
theorem ix2_lt {w h x y : Nat} (hx : x < w / 2) (hy : y < h / 2) : 2 * y * w + 2 * x + w + 1 < w * h := by
  have h1 := ix_lt (w := w) (h := h) (x := 2 * x + 1) (y := 2 * y + 1) (by omega) (by omega)
  have h2 : (2 * y + 1) * w = 2 * y * w + w := Nat.succ_mul _ _
  omega
set_option maxHeartbeats 4000000 in
set_option maxRecDepth 100000 in
theorem lqX0_halve {p : Program} {l : Launch} {e : Env} {s : State} {m : MethodId} {args : Array Value} {below : List Frame} {meth : Method} {c : Code} {Q : State → Prop} {D : va_G} {A : Nat → Prop} {cB cI cZ cL : ClassId} {w h : Nat} {ad : Nat → Nat} {aG aS : Nat} {G CB SB DK DR RE PF PK CO : Nat → Int} {rc pn kn cn : Int} (C : JC p m c cX0_halve 3 s args wsX0_halve RX0 D vwCl (tyl cB cI cZ cL) A) (hs : Sz w h) {y : Nat} (hy : y < h / 2) (kx : ∀ S : Nat → Int, hlv w h G y (w / 2) S → J p l e rmX0_halve s m args below meth c Q 3 D vwCl A 67 [(0, .ref (ad 0)), (1, .int (zI (y : Int))), (2, .int (zI ((w / 2) : Int)))] [] (wX cB cI cZ ad w h aG aS G S CB SB DK DR RE PF PK CO rc pn kn cn) 0 0) : ∀ (n x : Nat) (S : Nat → Int), x ≤ w / 2 → w / 2 - x < n → hlv w h G y x S → J p l e rmX0_halve s m args below meth c Q 3 D vwCl A 22 [(0, .ref (ad 0)), (1, .int (zI (y : Int))), (2, .int (zI (x : Int)))] [] (wX cB cI cZ ad w h aG aS G S CB SB DK DR RE PF PK CO rc pn kn cn) 0 0 := by
  have hm := hs.mul
  obtain ⟨h1, h2, h3, h4⟩ := id hs
  have hw2 : (w : Int).tdiv 2 = ((w / 2 : Nat) : Int) := by rw [Int.tdiv_eq_ediv_of_nonneg (by omega)]; omega
  intro n
  induction n with
  | zero => intro x S _ hn; exact absurd hn (Nat.not_lt_zero _)
  | succ n ih =>
    intro x S hx hn hS
    refine j_iload_n C eX0_halve_22 2 rfl ?_
    refine j_aload_n C eX0_halve_23 0 rfl ?_
    refine j_getf C hwsX0_halve 0 rfl rfl 0 (by decide) kX0_halve_18 rfl rfl eX0_halve_24 ?_
    refine j_iconst C eX0_halve_27 ?_
    refine j_idiv C eX0_halve_28 (by omega) (by omega) ?_
    refine j_icmp_ge C 67 eX0_halve_29 (by decide) (by omega) (by omega) (fun c29 => ?_) (fun c29 => ?_)
    ·
      have he : x = w / 2 := by omega
      subst he
      exact kx S hS
    ·
      have h7 := ix_lt (w := w) (h := h) (x := x) (y := y) (by omega) (by omega)
      refine j_aload_n C eX0_halve_32 0 rfl ?_
      refine j_getf C hwsX0_halve 0 rfl rfl 3 (by decide) kX0_halve_29 rfl rfl eX0_halve_33 ?_
      refine j_iload_n C eX0_halve_36 1 rfl ?_
      refine j_aload_n C eX0_halve_37 0 rfl ?_
      refine j_getf C hwsX0_halve 0 rfl rfl 0 (by decide) kX0_halve_18 rfl rfl eX0_halve_38 ?_
      refine j_imul C eX0_halve_41 ?_
      refine j_iload_n C eX0_halve_42 2 rfl ?_
      refine j_iadd C eX0_halve_43 ?_
      refine j_aload_n C eX0_halve_44 0 rfl ?_
      refine j_iconst C eX0_halve_45 ?_
      refine j_iload_n C eX0_halve_46 1 rfl ?_
      refine j_imul C eX0_halve_47 ?_
      refine j_aload_n C eX0_halve_48 0 rfl ?_
      refine j_getf C hwsX0_halve 0 rfl rfl 0 (by decide) kX0_halve_18 rfl rfl eX0_halve_49 ?_
      refine j_imul C eX0_halve_52 ?_
      refine j_iconst C eX0_halve_53 ?_
      refine j_iload_n C eX0_halve_54 2 rfl ?_
      refine j_imul C eX0_halve_55 ?_
      refine j_iadd C eX0_halve_56 ?_
      have e9 : 2 * (y : Int) * (w : Int) + 2 * (x : Int) = ((2 * y * w + 2 * x : Nat) : Int) := by push_cast; rfl
      rw [e9]
      refine j_callVi C (As := [.int (zI ((2 * y * w + 2 * x : Nat) : Int))]) (rest := [.int (zI (((y : Int) * (w : Int)) + (x : Int))), .ref aS]) (ctX0_meanOfFour l D cB cI cZ cL ad w h hs aG aS G S CB SB DK DR RE PF PK CO rc pn kn cn (2 * y * w + 2 * x) (by have := ix2_lt (w := w) (h := h) (x := x) (y := y) (by omega) hy; omega)) (cwV 1 C.1.2.2.2.2 gX0_halve_X0_meanOfFour rfl rfl rfl (by decide +kernel) ⟨Nat.le_of_ble_eq_true rfl, Nat.le_of_ble_eq_true rfl⟩) [0, 1, 2, 3, 4, 5, 6, 7, 8, 9, 10] [] (wr := []) rfl (by decide) rfl (by decide) (by decide) 0 rfl rfl rfl rfl (Nat.le_of_ble_eq_true rfl) eX0_halve_57 ⟨Nat.le_of_ble_eq_true rfl, Nat.le_of_ble_eq_true rfl⟩ (fun z w1 hp => ?_)
      obtain ⟨rfl, rfl⟩ := hp
      rw [List.nil_append]
      refine j_bast C 2 0 rfl rfl (y * w + x) (by push_cast; rfl) h7 (by omega) (nar_b (bm_in _)) eX0_halve_60 (wd' := wX cB cI cZ ad w h aG aS G (zup S (y * w + x) (mn4 w G y x)) CB SB DK DR RE PF PK CO rc pn kn cn) rfl ?_
      refine j_iinc C eX0_halve_61 2 rfl rfl (by decide) (lv' := [(0, .ref (ad 0)), (1, .int (zI (y : Int))), (2, .int (zI ((x : Int) + 1)))]) rfl ?_
      refine j_goto C 22 eX0_halve_64 (by decide) ?_
      exact ih (x + 1) _ (by omega) (by omega) (hlv_put hS (by omega))
set_option maxHeartbeats 4000000 in
set_option maxRecDepth 100000 in
theorem lpX0_halve {p : Program} {l : Launch} {e : Env} {s : State} {m : MethodId} {args : Array Value} {below : List Frame} {meth : Method} {c : Code} {Q : State → Prop} {D : va_G} {A : Nat → Prop} {cB cI cZ cL : ClassId} {w h : Nat} {ad : Nat → Nat} {aG aS : Nat} {G CB SB DK DR RE PF PK CO : Nat → Int} {rc pn kn cn : Int} (C : JC p m c cX0_halve 3 s args wsX0_halve RX0 D vwCl (tyl cB cI cZ cL) A) (hs : Sz w h) (kx : ∀ S : Nat → Int, hlv w h G (h / 2) 0 S → J p l e rmX0_halve s m args below meth c Q 3 D vwCl A 73 [(0, .ref (ad 0)), (1, .int (zI ((h / 2) : Int)))] [] (wX cB cI cZ ad w h aG aS G S CB SB DK DR RE PF PK CO rc pn kn cn) 0 0) : ∀ (n y : Nat) (S : Nat → Int), y ≤ h / 2 → h / 2 - y < n → hlv w h G y 0 S → J p l e rmX0_halve s m args below meth c Q 3 D vwCl A 10 [(0, .ref (ad 0)), (1, .int (zI (y : Int)))] [] (wX cB cI cZ ad w h aG aS G S CB SB DK DR RE PF PK CO rc pn kn cn) 0 0 := by
  have hm := hs.mul
  obtain ⟨h1, h2, h3, h4⟩ := id hs
  have hh2 : (h : Int).tdiv 2 = ((h / 2 : Nat) : Int) := by rw [Int.tdiv_eq_ediv_of_nonneg (by omega)]; omega
  intro n
  induction n with
  | zero => intro x S _ hn; exact absurd hn (Nat.not_lt_zero _)
  | succ n ih =>
    intro y S hy hn hS
    refine j_iload_n C eX0_halve_10 1 rfl ?_
    refine j_aload_n C eX0_halve_11 0 rfl ?_
    refine j_getf C hwsX0_halve 0 rfl rfl 1 (by decide) kX0_halve_22 rfl rfl eX0_halve_12 ?_
    refine j_iconst C eX0_halve_15 ?_
    refine j_idiv C eX0_halve_16 (by omega) (by omega) ?_
    refine j_icmp_ge C 73 eX0_halve_17 (by decide) (by omega) (by omega) (fun c17 => ?_) (fun c17 => ?_)
    ·
      have he : y = h / 2 := by omega
      subst he
      exact kx S hS
    ·
      refine j_iconst C eX0_halve_20 ?_
      refine j_istore_n C eX0_halve_21 rfl (by decide) (lv' := [(0, .ref (ad 0)), (1, .int (zI (y : Int))), (2, .int (zI 0))]) rfl ?_
      refine lqX0_halve C hs (by omega) (fun S hS => ?_) (w / 2 + 1) 0 S (by omega) (by omega) hS
      refine j_iinc C eX0_halve_67 1 rfl rfl (by decide) (lv' := [(0, .ref (ad 0)), (1, .int (zI ((y : Int) + 1))), (2, .int (zI ((w / 2) : Int)))]) rfl ?_
      refine j_goto C 10 eX0_halve_70 (by decide) ?_
      refine j_loc [0, 1] (lv' := [(0, .ref (ad 0)), (1, .int (zI ((y : Int) + 1)))]) rfl ?_
      exact ih (y + 1) S (by omega) (by omega) (hlv_row hS)
set_option maxHeartbeats 4000000 in
set_option maxRecDepth 100000 in
theorem ctX0_halve (l : Launch) (D : va_G) (cB cI cZ cL : ClassId) (ad : Nat → Nat) (w h : Nat) (hs : Sz w h) (aG aS : Nat) (G S CB SB DK DR RE PF PK CO : Nat → Int) (rc pn kn cn : Int)  : mV l yX0_halve wsX0_halve rmX0_halve D vwCl (tyl cB cI cZ cL) [.ref (ad 0)] (wX cB cI cZ ad w h aG aS G S CB SB DK DR RE PF PK CO rc pn kn cn) 0 0 (fun w1 => ∃ S' : Nat → Int, hlv w h G (h / 2) 0 S' ∧ w1 = wX cB cI cZ ad w h aG aS G S' CB SB DK DR RE PF PK CO rc pn kn cn) := by
  refine mV_of (own := RX0) rfl (by decide) rfl (Nat.le_of_ble_eq_true rfl) ?_
  intro p e s m args below meth c C hr hlocks hname
  show J p l e rmX0_halve s m args below meth c _ 3 D vwCl _ 0 [(0, .ref (ad 0))] [] (wX cB cI cZ ad w h aG aS G S CB SB DK DR RE PF PK CO rc pn kn cn) 0 0
  have hm := hs.mul
  refine j_aload_n C eX0_halve_0 0 rfl ?_
  refine j_getf C hwsX0_halve 0 rfl rfl 3 (by decide) kX0_halve_29 rfl rfl eX0_halve_1 ?_
  refine j_iconst C eX0_halve_4 ?_
  refine j_callSv C (As := [.ref aS, .int (zI (-1))]) (rest := []) (ctJ7_fill_031fb l D cB cI cZ cL aS (w * h) S (-1) (by omega) (by omega)) (va_cwS 2 C.1.2.2.2.2 gX0_halve_J7_fill_031fb rfl rfl rfl (by decide +kernel) ⟨Nat.le_of_ble_eq_true rfl, Nat.le_of_ble_eq_true rfl⟩) [2] [0, 1, 3, 4, 5, 6, 7, 8, 9, 10] (wr := ([0, 1, 3, 4, 5, 6, 7, 8, 9, 10].filterMap (fun i => (wX cB cI cZ ad w h aG aS G S CB SB DK DR RE PF PK CO rc pn kn cn)[i]?))) rfl (by decide) rfl (by decide) (by decide) rfl rfl (Nat.le_of_ble_eq_true rfl) eX0_halve_5 ⟨Nat.le_of_ble_eq_true rfl, Nat.le_of_ble_eq_true rfl⟩ (fun w1 hp => ?_)
  obtain ⟨S1, hS1, rfl⟩ := hp
  refine j_perm [0, 1, 10, 2, 3, 4, 5, 6, 7, 8, 9] (by decide) (wd' := wX cB cI cZ ad w h aG aS G S1 CB SB DK DR RE PF PK CO rc pn kn cn) rfl ?_
  refine j_iconst C eX0_halve_8 ?_
  refine j_istore_n C eX0_halve_9 rfl (by decide) (lv' := [(0, .ref (ad 0)), (1, .int (zI 0))]) rfl ?_
  refine lpX0_halve C hs (fun S' hS' => ?_) (h + 1) 0 S1 (by omega) (by omega) (fun y' x' hx' hy' => by rw [if_neg (by omega)]; exact hS1 _ (ix_lt hx' hy'))
  exact j_vret C hr hlocks eX0_halve_73 ⟨S', hS', rfl⟩
