/-! THE REFERENCE: packed, read back, turned over -/
theorem hwsX1_pack : ∀ w ∈ u_ws RX1 TX1 15, w ∈ wsX1_pack := fun _ h => List.mem_cons_of_mem _ (List.mem_append_right _ h)
theorem kX1_pack_7 : Cond.fieldLink RX1 7 "SheetRowsModel" (TX1 4).2.1 (TX1 4).2.2.1 ∈ wsX1_pack := by decide +kernel
theorem kX1_pack_28 : Cond.fieldLink RX1 28 "SheetRowsModel" (TX1 12).2.1 (TX1 12).2.2.1 ∈ wsX1_pack := by decide +kernel
theorem kX1_pack_42 : Cond.fieldLink RX1 42 "SheetRowsModel" (TX1 3).2.1 (TX1 3).2.2.1 ∈ wsX1_pack := by decide +kernel
theorem kX1_pack_45 : Cond.fieldLink RX1 45 "SheetRowsModel" (TX1 0).2.1 (TX1 0).2.2.1 ∈ wsX1_pack := by decide +kernel
theorem kX1_pack_92 : Cond.fieldLink RX1 92 "SheetRowsModel" (TX1 11).2.1 (TX1 11).2.2.1 ∈ wsX1_pack := by decide +kernel
abbrev rmX1_pack : Room := { frames := 0, cells := 0, slots := 0, locals := 0 }
set_option maxHeartbeats 4000000 in
set_option maxRecDepth 100000 in
theorem lqX1_pack {p : Program} {l : Launch} {e : Env} {s : State} {m : MethodId} {args : Array Value} {below : List Frame} {meth : Method} {c : Code} {Q : State → Prop} {D : va_G} {A : Nat → Prop} {cB cI cZ cL : ClassId} {w h : Nat} {bd : Nat → Nat} {G O CT LB FS TD PR BY : Nat → Int} {th pn cn : Int} (C : JC p m c cX1_pack 3 s args wsX1_pack RX1 D vwCl (tyl cB cI cZ cL) A) (hs : Sz w h) {j k : Nat} (hG : gry (w * h) G) (hk : k < w * h) (kx : ∀ r : Nat, isRun G (w * h) k r → J p l e rmX1_pack s m args below meth c Q 3 D vwCl A 62 [(0, .ref (bd 0)), (1, .int (zI (k : Int))), (2, .int (zI (r : Int)))] [] (wM cB cI bd w h G O CT LB FS TD PR BY th pn ((2 * j : Nat) : Int) cn) 0 0) : ∀ (n r : Nat), 1 ≤ r → r ≤ 255 → k + r ≤ w * h → 255 - r < n → (∀ i, k ≤ i → i < k + r → G i = G k) → J p l e rmX1_pack s m args below meth c Q 3 D vwCl A 22 [(0, .ref (bd 0)), (1, .int (zI (k : Int))), (2, .int (zI (r : Int)))] [] (wM cB cI bd w h G O CT LB FS TD PR BY th pn ((2 * j : Nat) : Int) cn) 0 0 := by
  have hm := hs.mul
  have hgk := hG k hk
  intro n
  induction n with
  | zero => intro r _ _ _ hn; exact absurd hn (Nat.not_lt_zero _)
  | succ n ih =>
    intro r h1 h2 h3 hn hE
    refine j_iload_n C eX1_pack_22 2 rfl ?_
    refine j_sipush C eX1_pack_23 (by decide +kernel) ?_
    refine j_icmp_ge C 62 eX1_pack_26 (by decide) (by omega) (by omega) (fun c26 => ?_) (fun c26 => ?_)
    ·
      exact kx r ⟨h1, h2, h3, hE, by first | exact Or.inl (by omega) | exact Or.inr (Or.inl (by omega)) | exact Or.inr (Or.inr c53)⟩
    ·
      refine j_iload_n C eX1_pack_29 1 rfl ?_
      refine j_iload_n C eX1_pack_30 2 rfl ?_
      refine j_iadd C eX1_pack_31 ?_
      refine j_aload_n C eX1_pack_32 0 rfl ?_
      refine j_getf C hwsX1_pack 0 rfl rfl 3 (by decide) kX1_pack_42 rfl rfl eX1_pack_33 ?_
      refine j_icmp_ge C 62 eX1_pack_36 (by decide) (by omega) (by omega) (fun c36 => ?_) (fun c36 => ?_)
      ·
        exact kx r ⟨h1, h2, h3, hE, by first | exact Or.inl (by omega) | exact Or.inr (Or.inl (by omega)) | exact Or.inr (Or.inr c53)⟩
      ·
        have hgr := hG (k + r) (by omega)
        refine j_aload_n C eX1_pack_39 0 rfl ?_
        refine j_getf C hwsX1_pack 0 rfl rfl 4 (by decide) kX1_pack_7 rfl rfl eX1_pack_40 ?_
        refine j_iload_n C eX1_pack_43 1 rfl ?_
        refine j_iload_n C eX1_pack_44 2 rfl ?_
        refine j_iadd C eX1_pack_45 ?_
        refine j_iald C 1 1 rfl rfl (k + r) (by push_cast; rfl) (by omega) (by omega) eX1_pack_46 ?_
        refine j_aload_n C eX1_pack_47 0 rfl ?_
        refine j_getf C hwsX1_pack 0 rfl rfl 4 (by decide) kX1_pack_7 rfl rfl eX1_pack_48 ?_
        refine j_iload_n C eX1_pack_51 1 rfl ?_
        refine j_iald C 1 1 rfl rfl k rfl (by omega) (by omega) eX1_pack_52 ?_
        refine j_icmp_ne C 62 eX1_pack_53 (by decide) (by omega) (by omega) (fun c53 => ?_) (fun c53 => ?_)
        ·
          exact kx r ⟨h1, h2, h3, hE, by first | exact Or.inl (by omega) | exact Or.inr (Or.inl (by omega)) | exact Or.inr (Or.inr c53)⟩
        ·
          refine j_iinc C eX1_pack_56 2 rfl rfl (by decide) (lv' := [(0, .ref (bd 0)), (1, .int (zI (k : Int))), (2, .int (zI ((r : Int) + 1)))]) rfl ?_
          refine j_goto C 22 eX1_pack_59 (by decide) ?_
          exact ih (r + 1) (by omega) (by omega) (by omega) (by omega) (fun i i1 i2 => by
            by_cases e : i = k + r
            · rw [e]; exact c53
            · exact hE i i1 (by omega))
set_option maxHeartbeats 4000000 in
set_option maxRecDepth 100000 in
theorem lpX1_pack {p : Program} {l : Launch} {e : Env} {s : State} {m : MethodId} {args : Array Value} {below : List Frame} {meth : Method} {c : Code} {Q : State → Prop} {D : va_G} {A : Nat → Prop} {cB cI cZ cL : ClassId} {w h : Nat} {bd : Nat → Nat} {G O CT LB FS TD BY : Nat → Int} {th pn cn : Int} (C : JC p m c cX1_pack 3 s args wsX1_pack RX1 D vwCl (tyl cB cI cZ cL) A) (hs : Sz w h) (hG : gry (w * h) G) (kx : ∀ (PR : Nat → Int) (j : Nat), pkd G (w * h) PR j (w * h) → J p l e rmX1_pack s m args below meth c Q 3 D vwCl A 108 [(0, .ref (bd 0)), (1, .int (zI ((w * h) : Int)))] [] (wM cB cI bd w h G O CT LB FS TD PR BY th pn ((2 * j : Nat) : Int) cn) 0 0) : ∀ (n j k : Nat) (PR : Nat → Int), w * h - k < n → pkd G (w * h) PR j k → J p l e rmX1_pack s m args below meth c Q 3 D vwCl A 12 [(0, .ref (bd 0)), (1, .int (zI (k : Int)))] [] (wM cB cI bd w h G O CT LB FS TD PR BY th pn ((2 * j : Nat) : Int) cn) 0 0 := by
  have hm := hs.mul
  intro n
  induction n with
  | zero => intro j k PR hn; exact absurd hn (Nat.not_lt_zero _)
  | succ n ih =>
    intro j k PR hn hP
    have hle := pkd_le hP
    refine j_iload_n C eX1_pack_12 1 rfl ?_
    refine j_aload_n C eX1_pack_13 0 rfl ?_
    refine j_getf C hwsX1_pack 0 rfl rfl 3 (by decide) kX1_pack_42 rfl rfl eX1_pack_14 ?_
    refine j_icmp_ge C 108 eX1_pack_17 (by decide) (by omega) (by omega) (fun c17 => ?_) (fun c17 => ?_)
    ·
      have he : k = w * h := by omega
      subst he
      exact kx PR j hP
    ·
      refine j_iconst C eX1_pack_20 ?_
      refine j_istore_n C eX1_pack_21 rfl (by decide) (lv' := [(0, .ref (bd 0)), (1, .int (zI (k : Int))), (2, .int (zI 1))]) rfl ?_
      refine lqX1_pack C hs hG (by omega) (fun r hR => ?_) 255 1 (by omega) (by omega) (by omega) (by omega) (fun i i1 i2 => by rw [show i = k by omega])
      obtain ⟨a1, a2, a3, a4, a5⟩ := id hR
      refine j_aload_n C eX1_pack_62 0 rfl ?_
      refine j_getf C hwsX1_pack 0 rfl rfl 12 (by decide) kX1_pack_28 rfl rfl eX1_pack_63 ?_
      refine j_aload_n C eX1_pack_66 0 rfl ?_
      refine j_getf C hwsX1_pack 0 rfl rfl 11 (by decide) kX1_pack_92 rfl rfl eX1_pack_67 ?_
      refine j_iload_n C eX1_pack_70 2 rfl ?_
      refine j_i2bz C eX1_pack_71 ?_
      refine j_bast C 7 0 rfl rfl (2 * j) rfl (by omega) (by omega) (nar_b (bm_in _)) eX1_pack_72 (wd' := wM cB cI bd w h G O CT LB FS TD (zup PR (2 * j) (Int.bmod (r : Int) 256)) BY th pn ((2 * j : Nat) : Int) cn) rfl ?_
      refine j_aload_n C eX1_pack_73 0 rfl ?_
      refine j_getf C hwsX1_pack 0 rfl rfl 12 (by decide) kX1_pack_28 rfl rfl eX1_pack_74 ?_
      refine j_aload_n C eX1_pack_77 0 rfl ?_
      refine j_getf C hwsX1_pack 0 rfl rfl 11 (by decide) kX1_pack_92 rfl rfl eX1_pack_78 ?_
      refine j_iconst C eX1_pack_81 ?_
      refine j_iadd C eX1_pack_82 ?_
      refine j_aload_n C eX1_pack_83 0 rfl ?_
      refine j_getf C hwsX1_pack 0 rfl rfl 4 (by decide) kX1_pack_7 rfl rfl eX1_pack_84 ?_
      refine j_iload_n C eX1_pack_87 1 rfl ?_
      refine j_iald C 1 1 rfl rfl k rfl (by omega) (by omega) eX1_pack_88 ?_
      refine j_i2bz C eX1_pack_89 ?_
      refine j_bast C 7 0 rfl rfl (2 * j + 1) (by push_cast; rfl) (by omega) (by omega) (nar_b (bm_in _)) eX1_pack_90 (wd' := wM cB cI bd w h G O CT LB FS TD (zup (zup PR (2 * j) (Int.bmod (r : Int) 256)) (2 * j + 1) (Int.bmod (G k) 256)) BY th pn ((2 * j : Nat) : Int) cn) rfl ?_
      refine j_aload_n C eX1_pack_91 0 rfl ?_
      refine j_aload_n C eX1_pack_92 0 rfl ?_
      refine j_getf C hwsX1_pack 0 rfl rfl 11 (by decide) kX1_pack_92 rfl rfl eX1_pack_93 ?_
      refine j_iconst C eX1_pack_96 ?_
      refine j_iadd C eX1_pack_97 ?_
      refine j_putf C hwsX1_pack tyX1 tyX1_ok nmX1 0 rfl rfl 11 (by decide) kX1_pack_92 rfl rfl (tyX1_ok 11 (by decide)) rfl rfl (Nat.le_of_ble_eq_true rfl) eX1_pack_98 (wd' := wM cB cI bd w h G O CT LB FS TD (zup (zup PR (2 * j) (Int.bmod (r : Int) 256)) (2 * j + 1) (Int.bmod (G k) 256)) BY th pn (((2 * j : Nat) : Int) + 2) cn) rfl ?_
      refine j_iload_n C eX1_pack_101 1 rfl ?_
      refine j_iload_n C eX1_pack_102 2 rfl ?_
      refine j_iadd C eX1_pack_103 ?_
      refine j_istore_n C eX1_pack_104 rfl (by decide) (lv' := [(0, .ref (bd 0)), (1, .int (zI ((k : Int) + (r : Int)))), (2, .int (zI (r : Int)))]) rfl ?_
      refine j_goto C 12 eX1_pack_105 (by decide) ?_
      refine j_loc [0, 1] (lv' := [(0, .ref (bd 0)), (1, .int (zI ((k : Int) + (r : Int))))]) rfl ?_
      refine ih (j + 1) (k + r) _ (by omega) ?_
      refine ⟨k, r, pkd_keep (fun i hi => by rw [zup_n (by omega), zup_n (by omega)]) hP, by omega, hR, rfl, by rw [zup_n (by omega), zup_s], by rw [zup_s]⟩
set_option maxHeartbeats 4000000 in
set_option maxRecDepth 100000 in
theorem ctX1_pack (l : Launch) (D : va_G) (cB cI cZ cL : ClassId) (bd : Nat → Nat) (w h : Nat) (hs : Sz w h) (G O CT LB FS TD PR BY : Nat → Int) (th pn kn cn : Int) (hG : gry (w * h) G) : mI l yX1_pack wsX1_pack rmX1_pack D vwCl (tyl cB cI cZ cL) [.ref (bd 0)] (wM cB cI bd w h G O CT LB FS TD PR BY th pn kn cn) 0 0 (fun z w1 => ∃ (PR' : Nat → Int) (j : Nat), pkd G (w * h) PR' j (w * h) ∧ z = ((2 * j : Nat) : Int) ∧ w1 = wM cB cI bd w h G O CT LB FS TD PR' BY 0 pn ((2 * j : Nat) : Int) cn) := by
  refine mI_of (own := RX1) rfl (by decide) rfl (Nat.le_of_ble_eq_true rfl) ?_
  intro p e s m args below meth c C hr hlocks hname
  show J p l e rmX1_pack s m args below meth c _ 3 D vwCl _ 0 [(0, .ref (bd 0))] [] (wM cB cI bd w h G O CT LB FS TD PR BY th pn kn cn) 0 0
  refine j_aload_n C eX1_pack_0 0 rfl ?_
  refine j_iconst C eX1_pack_1 ?_
  refine j_putf C hwsX1_pack tyX1 tyX1_ok nmX1 0 rfl rfl 0 (by decide) kX1_pack_45 rfl rfl (tyX1_ok 0 (by decide)) rfl rfl (Nat.le_of_ble_eq_true rfl) eX1_pack_2 (wd' := wM cB cI bd w h G O CT LB FS TD PR BY 0 pn kn cn) rfl ?_
  refine j_aload_n C eX1_pack_5 0 rfl ?_
  refine j_iconst C eX1_pack_6 ?_
  refine j_putf C hwsX1_pack tyX1 tyX1_ok nmX1 0 rfl rfl 11 (by decide) kX1_pack_92 rfl rfl (tyX1_ok 11 (by decide)) rfl rfl (Nat.le_of_ble_eq_true rfl) eX1_pack_7 (wd' := wM cB cI bd w h G O CT LB FS TD PR BY 0 pn 0 cn) rfl ?_
  refine j_iconst C eX1_pack_10 ?_
  refine j_istore_n C eX1_pack_11 rfl (by decide) (lv' := [(0, .ref (bd 0)), (1, .int (zI 0))]) rfl ?_
  refine lpX1_pack C hs hG (fun PR' j hP => ?_) (w * h + 1) 0 0 PR (by omega) rfl
  refine j_aload_n C eX1_pack_108 0 rfl ?_
  refine j_getf C hwsX1_pack 0 rfl rfl 11 (by decide) kX1_pack_92 rfl rfl eX1_pack_109 ?_
  exact j_iret C hr hlocks rfl eX1_pack_112 ⟨PR', j, hP, rfl, rfl⟩
theorem hwsX1_unpack : ∀ w ∈ u_ws RX1 TX1 15, w ∈ wsX1_unpack := fun _ h => List.mem_cons_of_mem _ (List.mem_append_right _ h)
theorem kX1_unpack_13 : Cond.fieldLink RX1 13 "SheetRowsModel" (TX1 5).2.1 (TX1 5).2.2.1 ∈ wsX1_unpack := by decide +kernel
theorem kX1_unpack_32 : Cond.fieldLink RX1 32 "SheetRowsModel" (TX1 14).2.1 (TX1 14).2.2.1 ∈ wsX1_unpack := by decide +kernel
theorem kX1_unpack_42 : Cond.fieldLink RX1 42 "SheetRowsModel" (TX1 3).2.1 (TX1 3).2.2.1 ∈ wsX1_unpack := by decide +kernel
theorem kX1_unpack_45 : Cond.fieldLink RX1 45 "SheetRowsModel" (TX1 0).2.1 (TX1 0).2.2.1 ∈ wsX1_unpack := by decide +kernel
theorem kX1_unpack_95 : Cond.fieldLink RX1 95 "SheetRowsModel" (TX1 13).2.1 (TX1 13).2.2.1 ∈ wsX1_unpack := by decide +kernel
abbrev rmX1_unpack : Room := { frames := 1, cells := 0, slots := 0, locals := 22 }
def fldm (c : Nat → Int) (j : Nat) (O : Nat → Int) : Prop := ∀ i, i < j → ∀ q, dn c i ≤ q → q < dn c (i + 1) → O q = c (2 * i + 1) % 256
set_option maxHeartbeats 4000000 in
set_option maxRecDepth 100000 in
theorem lqX1_unpack {p : Program} {l : Launch} {e : Env} {s : State} {m : MethodId} {args : Array Value} {below : List Frame} {meth : Method} {c : Code} {Q : State → Prop} {D : va_G} {A : Nat → Prop} {cB cI cZ cL : ClassId} {w h : Nat} {bd : Nat → Nat} {G CT LB FS TD PR BY : Nat → Int} {pn kn : Int} (C : JC p m c cX1_unpack 6 s args wsX1_unpack RX1 D vwCl (tyl cB cI cZ cL) A) (hs : Sz w h) {a j : Nat} (ha : a ≤ 5000) (hj : 2 * j + 1 < a) (hd : dn BY (j + 1) ≤ w * h) (kx : ∀ O : Nat → Int, fldm BY (j + 1) O → J p l e rmX1_unpack s m args below meth c Q 6 D vwCl A 116 [(0, .ref (bd 0)), (1, .int (zI (a : Int))), (2, .int (zI ((2 * j : Nat) : Int))), (3, .int (zI ((dn BY j : Nat) : Int))), (4, .int (zI (BY (2 * j) % 256))), (5, .int (zI (BY (2 * j) % 256)))] [] (wM cB cI bd w h G O CT LB FS TD PR BY 0 pn kn 0) 0 0) : ∀ (n k : Nat) (O : Nat → Int), dn BY j + k ≤ dn BY (j + 1) → dn BY (j + 1) - k < n → fldm BY j O → (∀ q, dn BY j ≤ q → q < dn BY j + k → O q = BY (2 * j + 1) % 256) → J p l e rmX1_unpack s m args below meth c Q 6 D vwCl A 82 [(0, .ref (bd 0)), (1, .int (zI (a : Int))), (2, .int (zI ((2 * j : Nat) : Int))), (3, .int (zI ((dn BY j : Nat) : Int))), (4, .int (zI (BY (2 * j) % 256))), (5, .int (zI (k : Int)))] [] (wM cB cI bd w h G O CT LB FS TD PR BY 0 pn kn 0) 0 0 := by
  have hm := hs.mul
  have hdd : dn BY (j + 1) = dn BY j + (BY (2 * j) % 256).toNat := rfl
  intro n
  induction n with
  | zero => intro k O _ hn; exact absurd hn (Nat.not_lt_zero _)
  | succ n ih =>
    intro k O h2 hn hF hS
    refine j_iload C eX1_unpack_82 5 rfl ?_
    refine j_iload C eX1_unpack_84 4 rfl ?_
    refine j_icmp_ge C 116 eX1_unpack_86 (by decide) (by omega) (by omega) (fun c86 => ?_) (fun c86 => ?_)
    ·
      have he : (k : Int) = BY (2 * j) % 256 := by omega
      rw [he]
      refine kx O (fun i' hi' q q1 q2 => ?_)
      by_cases e : i' = j
      · subst e; exact hS q q1 (by omega)
      · exact hF i' (by omega) q q1 q2
    ·
      refine j_aload_n C eX1_unpack_89 0 rfl ?_
      refine j_getf C hwsX1_unpack 0 rfl rfl 5 (by decide) kX1_unpack_13 rfl rfl eX1_unpack_90 ?_
      refine j_iload_n C eX1_unpack_93 3 rfl ?_
      refine j_iload C eX1_unpack_94 5 rfl ?_
      refine j_iadd C eX1_unpack_96 ?_
      refine j_aload_n C eX1_unpack_97 0 rfl ?_
      refine j_getf C hwsX1_unpack 0 rfl rfl 14 (by decide) kX1_unpack_32 rfl rfl eX1_unpack_98 ?_
      refine j_iload_n C eX1_unpack_101 2 rfl ?_
      refine j_iconst C eX1_unpack_102 ?_
      refine j_iadd C eX1_unpack_103 ?_
      refine j_bald C 8 0 rfl rfl (2 * j + 1) (by push_cast; rfl) (by omega) (by omega) eX1_unpack_104 ?_
      refine j_sipush C eX1_unpack_105 (by decide +kernel) ?_
      refine j_and255 C eX1_unpack_108 ?_
      refine j_iast C 2 1 rfl rfl (dn BY j + k) (by push_cast; rfl) (by omega) (by omega) eX1_unpack_109 (wd' := wM cB cI bd w h G (zup O (dn BY j + k) ((BY (2 * j + 1)) % 256)) CT LB FS TD PR BY 0 pn kn 0) rfl ?_
      refine j_iinc C eX1_unpack_110 5 rfl rfl (by decide) (lv' := [(0, .ref (bd 0)), (1, .int (zI (a : Int))), (2, .int (zI ((2 * j : Nat) : Int))), (3, .int (zI ((dn BY j : Nat) : Int))), (4, .int (zI (BY (2 * j) % 256))), (5, .int (zI ((k : Int) + 1)))]) rfl ?_
      refine j_goto C 82 eX1_unpack_113 (by decide) ?_
      refine ih (k + 1) _ (by omega) (by omega) (fun i' hi' q q1 q2 => ?_) (fun q q1 q2 => ?_)
      · have hmo : dn BY (i' + 1) ≤ dn BY j := dn_mono BY (by omega)
        rw [zup_n (by omega)]
        exact hF i' hi' q q1 q2
      · by_cases e : q = dn BY j + k
        · rw [e]; exact zup_s
        · rw [zup_n e]; exact hS q q1 (by omega)
set_option maxHeartbeats 4000000 in
set_option maxRecDepth 100000 in
theorem lpX1_unpack {p : Program} {l : Launch} {e : Env} {s : State} {m : MethodId} {args : Array Value} {below : List Frame} {meth : Method} {c : Code} {D : va_G} {cB cI cZ cL : ClassId} {w h : Nat} {bd : Nat → Nat} {G CT LB FS TD PR BY : Nat → Int} {pn kn : Int} {w9 : va_W} (C : JC p m c cX1_unpack 6 s args wsX1_unpack RX1 D vwCl (tyl cB cI cZ cL) (va_A w9 s.heap.size)) (hs : Sz w h) {a : Nat} (hr : meth.sig.returnType = some .int) (hlocks : meth.locks = false) (ha : a ≤ 5000) (hG : gry (w * h) G) : ∀ (n j : Nat) (O : Nat → Int), a + 1 - 2 * j < n → oku BY a (w * h) j → fldm BY j O → J p l e rmX1_unpack s m args below meth c (MQ below (mQI D vwCl (tyl cB cI cZ cL) w9 s.heap.size (fun z w1 => ∃ (j : Nat) (O' : Nat → Int), oku BY a (w * h) j ∧ stp BY a (w * h) j ∧ fldm BY j O' ∧ if vls BY a (w * h) j = -1 then z = 1 ∧ ∃ G' : Nat → Int, (∀ k, k < w * h → G' k = O' k) ∧ w1 = wM cB cI bd w h G' O' CT LB FS TD PR BY 0 pn kn 0 else z = -1 - vls BY a (w * h) j ∧ w1 = wM cB cI bd w h G O' CT LB FS TD PR BY 0 pn kn 0)) args s 0 0 (va_A w9 s.heap.size)) 6 D vwCl (va_A w9 s.heap.size) 19 [(0, .ref (bd 0)), (1, .int (zI (a : Int))), (2, .int (zI ((2 * j : Nat) : Int))), (3, .int (zI ((dn BY j : Nat) : Int)))] [] (wM cB cI bd w h G O CT LB FS TD PR BY 0 pn kn 0) 0 0 := by
  have hm := hs.mul
  intro n
  induction n with
  | zero => intro j O hn; exact absurd hn (Nat.not_lt_zero _)
  | succ n ih =>
    intro j O hn hO hF
    have hdl := dn_le hO
    have h2j := oku_2j hO
    have hdd : dn BY (j + 1) = dn BY j + (BY (2 * j) % 256).toNat := rfl
    refine j_iload_n C eX1_unpack_19 3 rfl ?_
    refine j_aload_n C eX1_unpack_20 0 rfl ?_
    refine j_getf C hwsX1_unpack 0 rfl rfl 3 (by decide) kX1_unpack_42 rfl rfl eX1_unpack_21 ?_
    refine j_icmp_ge C 128 eX1_unpack_24 (by decide) (by omega) (by omega) (fun c24 => ?_) (fun c24 => ?_)
    ·
      refine j_iload_n C eX1_unpack_128 2 rfl ?_
      refine j_iload_n C eX1_unpack_129 1 rfl ?_
      refine j_icmp_ge C 137 eX1_unpack_130 (by decide) (by omega) (by omega) (fun c130 => ?_) (fun c130 => ?_)
      ·
        refine j_aload_n C eX1_unpack_137 0 rfl ?_
        have hv : vls BY a (w * h) j = -1 := by unfold vls; rw [if_pos (by omega), if_neg (by omega)]
        have hO9 : gry (w * h) O := fun q hq => by
          obtain ⟨i, i1, i2, i3⟩ := dn_seg BY (j := j) (q := q) (by omega)
          rw [hF i i1 q i2 i3]
          omega
        refine j_callVi C (As := []) (rest := []) (ctX1_change l D cB cI cZ cL bd w h hs G O CT LB FS TD PR BY 0 pn kn 0 hG hO9) (cwV 0 C.1.2.2.2.2 gX1_unpack_X1_change rfl rfl rfl (by decide +kernel) ⟨Nat.le_of_ble_eq_true rfl, Nat.le_of_ble_eq_true rfl⟩) [0, 1, 2, 3, 4, 5, 6, 7, 8] [] (wr := []) rfl (by decide) rfl (by decide) (by decide) 0 rfl rfl rfl rfl (Nat.le_of_ble_eq_true rfl) eX1_unpack_138 ⟨Nat.le_of_ble_eq_true rfl, Nat.le_of_ble_eq_true rfl⟩ (fun z w1 hp => ?_)
        obtain ⟨G', hG', rfl, rfl⟩ := hp
        rw [List.nil_append]
        refine j_pop C eX1_unpack_141 rfl ?_
        refine j_iconst C eX1_unpack_142 ?_
        exact j_iret C hr hlocks rfl eX1_unpack_143 ⟨j, O, hO, (by unfold stp; omega), hF, by rw [if_pos hv]; exact ⟨rfl, G', hG', rfl⟩⟩
      ·
        refine j_iconst C eX1_unpack_133 ?_
        refine j_iload_n C eX1_unpack_134 2 rfl ?_
        refine j_isub C eX1_unpack_135 ?_
        have hv : vls BY a (w * h) j = ((2 * j : Nat) : Int) := by unfold vls; rw [if_neg (by omega), if_pos (by omega)]; omega
        exact j_iret C hr hlocks rfl eX1_unpack_136 ⟨j, O, hO, (by unfold stp; omega), hF, by rw [if_neg (by omega), hv]; exact ⟨rfl, rfl⟩⟩
    ·
      refine j_iload_n C eX1_unpack_27 2 rfl ?_
      refine j_iload_n C eX1_unpack_28 1 rfl ?_
      refine j_icmp_lt C 36 eX1_unpack_29 (by decide) (by omega) (by omega) (fun c29 => ?_) (fun c29 => ?_)
      ·
        refine j_aload_n C eX1_unpack_36 0 rfl ?_
        refine j_getf C hwsX1_unpack 0 rfl rfl 14 (by decide) kX1_unpack_32 rfl rfl eX1_unpack_37 ?_
        refine j_iload_n C eX1_unpack_40 2 rfl ?_
        refine j_bald C 8 0 rfl rfl (2 * j) (by push_cast; rfl) (by omega) (by omega) eX1_unpack_41 ?_
        refine j_sipush C eX1_unpack_42 (by decide +kernel) ?_
        refine j_and255 C eX1_unpack_45 ?_
        refine j_istore C eX1_unpack_46 rfl (by decide) (lv' := [(0, .ref (bd 0)), (1, .int (zI (a : Int))), (2, .int (zI ((2 * j : Nat) : Int))), (3, .int (zI ((dn BY j : Nat) : Int))), (4, .int (zI ((BY (2 * j)) % 256)))]) rfl ?_
        refine j_iload C eX1_unpack_48 4 rfl ?_
        refine j_if_eq C 64 eX1_unpack_50 (by decide) (by omega) (fun c50 => ?_) (fun c50 => ?_)
        ·
          refine j_iconst C eX1_unpack_64 ?_
          refine j_iload_n C eX1_unpack_65 2 rfl ?_
          refine j_isub C eX1_unpack_66 ?_
          have hv : vls BY a (w * h) j = ((2 * j : Nat) : Int) := by unfold vls; rw [if_neg (by omega), if_pos (by omega)]; omega
          exact j_iret C hr hlocks rfl eX1_unpack_67 ⟨j, O, hO, (by unfold stp; omega), hF, by rw [if_neg (by omega), hv]; exact ⟨rfl, rfl⟩⟩
        ·
          refine j_iload_n C eX1_unpack_53 3 rfl ?_
          refine j_iload C eX1_unpack_54 4 rfl ?_
          refine j_iadd C eX1_unpack_56 ?_
          refine j_aload_n C eX1_unpack_57 0 rfl ?_
          refine j_getf C hwsX1_unpack 0 rfl rfl 3 (by decide) kX1_unpack_42 rfl rfl eX1_unpack_58 ?_
          refine j_icmp_le C 68 eX1_unpack_61 (by decide) (by omega) (by omega) (fun c61 => ?_) (fun c61 => ?_)
          ·
            refine j_iload_n C eX1_unpack_68 2 rfl ?_
            refine j_iconst C eX1_unpack_69 ?_
            refine j_iadd C eX1_unpack_70 ?_
            refine j_iload_n C eX1_unpack_71 1 rfl ?_
            refine j_icmp_lt C 79 eX1_unpack_72 (by decide) (by omega) (by omega) (fun c72 => ?_) (fun c72 => ?_)
            ·
              refine j_iconst C eX1_unpack_79 ?_
              refine j_istore C eX1_unpack_80 rfl (by decide) (lv' := [(0, .ref (bd 0)), (1, .int (zI (a : Int))), (2, .int (zI ((2 * j : Nat) : Int))), (3, .int (zI ((dn BY j : Nat) : Int))), (4, .int (zI ((BY (2 * j)) % 256))), (5, .int (zI 0))]) rfl ?_
              refine lqX1_unpack C hs ha (by omega) (by omega) (fun O' hF' => ?_) (dn BY (j + 1) + 1) 0 O (by omega) (by omega) hF (fun q q1 q2 => by omega)
              refine j_iload_n C eX1_unpack_116 3 rfl ?_
              refine j_iload C eX1_unpack_117 4 rfl ?_
              refine j_iadd C eX1_unpack_119 ?_
              refine j_istore_n C eX1_unpack_120 rfl (by decide) (lv' := [(0, .ref (bd 0)), (1, .int (zI (a : Int))), (2, .int (zI ((2 * j : Nat) : Int))), (3, .int (zI (((dn BY j : Nat) : Int) + (BY (2 * j) % 256)))), (4, .int (zI (BY (2 * j) % 256))), (5, .int (zI (BY (2 * j) % 256)))]) rfl ?_
              refine j_iload_n C eX1_unpack_121 2 rfl ?_
              refine j_iconst C eX1_unpack_122 ?_
              refine j_iadd C eX1_unpack_123 ?_
              refine j_istore_n C eX1_unpack_124 rfl (by decide) (lv' := [(0, .ref (bd 0)), (1, .int (zI (a : Int))), (2, .int (zI (((2 * j : Nat) : Int) + 2))), (3, .int (zI (((dn BY j : Nat) : Int) + (BY (2 * j) % 256)))), (4, .int (zI (BY (2 * j) % 256))), (5, .int (zI (BY (2 * j) % 256)))]) rfl ?_
              refine j_goto C 19 eX1_unpack_125 (by decide) ?_
              refine j_loc [0, 1, 2, 3] (lv' := [(0, .ref (bd 0)), (1, .int (zI (a : Int))), (2, .int (zI (((2 * j : Nat) : Int) + 2))), (3, .int (zI (((dn BY j : Nat) : Int) + (BY (2 * j) % 256))))]) rfl ?_
              have hO' : oku BY a (w * h) (j + 1) := fun i hi => by
                by_cases e : i = j
                · subst e
                  exact ⟨by omega, by omega, by omega⟩
                · exact hO i (by omega)
              have hb9 := ih (j + 1) O' (by omega) hO' hF'
              have e1 : ((dn BY (j + 1) : Nat) : Int) = ((dn BY j : Nat) : Int) + BY (2 * j) % 256 := by omega
              rw [e1] at hb9
              exact hb9
            ·
              refine j_iconst C eX1_unpack_75 ?_
              refine j_iload_n C eX1_unpack_76 1 rfl ?_
              refine j_isub C eX1_unpack_77 ?_
              have hv : vls BY a (w * h) j = (a : Int) := by unfold vls; rw [if_neg (by omega), if_neg (by omega)]
              exact j_iret C hr hlocks rfl eX1_unpack_78 ⟨j, O, hO, (by unfold stp; omega), hF, by rw [if_neg (by omega), hv]; exact ⟨rfl, rfl⟩⟩
          ·
            refine j_iconst C eX1_unpack_64 ?_
            refine j_iload_n C eX1_unpack_65 2 rfl ?_
            refine j_isub C eX1_unpack_66 ?_
            have hv : vls BY a (w * h) j = ((2 * j : Nat) : Int) := by unfold vls; rw [if_neg (by omega), if_pos (by omega)]; omega
            exact j_iret C hr hlocks rfl eX1_unpack_67 ⟨j, O, hO, (by unfold stp; omega), hF, by rw [if_neg (by omega), hv]; exact ⟨rfl, rfl⟩⟩
      ·
        refine j_iconst C eX1_unpack_32 ?_
        refine j_iload_n C eX1_unpack_33 1 rfl ?_
        refine j_isub C eX1_unpack_34 ?_
        have hv : vls BY a (w * h) j = (a : Int) := by unfold vls; rw [if_pos (by omega), if_pos (by omega)]
        exact j_iret C hr hlocks rfl eX1_unpack_35 ⟨j, O, hO, (by unfold stp; omega), hF, by rw [if_neg (by omega), hv]; exact ⟨rfl, rfl⟩⟩
set_option maxHeartbeats 4000000 in
set_option maxRecDepth 100000 in
theorem ctX1_unpack (l : Launch) (D : va_G) (cB cI cZ cL : ClassId) (bd : Nat → Nat) (w h : Nat) (hs : Sz w h) (G O CT LB FS TD PR BY : Nat → Int) (th pn kn : Int) (a : Nat) (ha : a ≤ 5000) (hG : gry (w * h) G) : mI l yX1_unpack wsX1_unpack rmX1_unpack D vwCl (tyl cB cI cZ cL) [.ref (bd 0)] (wM cB cI bd w h G O CT LB FS TD PR BY th pn kn (a : Int)) 0 0 (fun z w1 => ∃ (j : Nat) (O' : Nat → Int), oku BY a (w * h) j ∧ stp BY a (w * h) j ∧ fldm BY j O' ∧ if vls BY a (w * h) j = -1 then z = 1 ∧ ∃ G' : Nat → Int, (∀ k, k < w * h → G' k = O' k) ∧ w1 = wM cB cI bd w h G' O' CT LB FS TD PR BY 0 pn kn 0 else z = -1 - vls BY a (w * h) j ∧ w1 = wM cB cI bd w h G O' CT LB FS TD PR BY 0 pn kn 0) := by
  refine mI_of (own := RX1) rfl (by decide) rfl (Nat.le_of_ble_eq_true rfl) ?_
  intro p e s m args below meth c C hr hlocks hname
  show J p l e rmX1_unpack s m args below meth c _ 6 D vwCl _ 0 [(0, .ref (bd 0))] [] (wM cB cI bd w h G O CT LB FS TD PR BY th pn kn (a : Int)) 0 0
  refine j_aload_n C eX1_unpack_0 0 rfl ?_
  refine j_iconst C eX1_unpack_1 ?_
  refine j_putf C hwsX1_unpack tyX1 tyX1_ok nmX1 0 rfl rfl 0 (by decide) kX1_unpack_45 rfl rfl (tyX1_ok 0 (by decide)) rfl rfl (Nat.le_of_ble_eq_true rfl) eX1_unpack_2 (wd' := wM cB cI bd w h G O CT LB FS TD PR BY 0 pn kn (a : Int)) rfl ?_
  refine j_aload_n C eX1_unpack_5 0 rfl ?_
  refine j_getf C hwsX1_unpack 0 rfl rfl 13 (by decide) kX1_unpack_95 rfl rfl eX1_unpack_6 ?_
  refine j_istore_n C eX1_unpack_9 rfl (by decide) (lv' := [(0, .ref (bd 0)), (1, .int (zI (a : Int)))]) rfl ?_
  refine j_aload_n C eX1_unpack_10 0 rfl ?_
  refine j_iconst C eX1_unpack_11 ?_
  refine j_putf C hwsX1_unpack tyX1 tyX1_ok nmX1 0 rfl rfl 13 (by decide) kX1_unpack_95 rfl rfl (tyX1_ok 13 (by decide)) rfl rfl (Nat.le_of_ble_eq_true rfl) eX1_unpack_12 (wd' := wM cB cI bd w h G O CT LB FS TD PR BY 0 pn kn 0) rfl ?_
  refine j_iconst C eX1_unpack_15 ?_
  refine j_istore_n C eX1_unpack_16 rfl (by decide) (lv' := [(0, .ref (bd 0)), (1, .int (zI (a : Int))), (2, .int (zI 0))]) rfl ?_
  refine j_iconst C eX1_unpack_17 ?_
  refine j_istore_n C eX1_unpack_18 rfl (by decide) (lv' := [(0, .ref (bd 0)), (1, .int (zI (a : Int))), (2, .int (zI 0)), (3, .int (zI 0))]) rfl ?_
  exact lpX1_unpack C hs hr hlocks ha hG (a + 2) 0 O (by omega) (fun i hi => absurd hi (Nat.not_lt_zero _)) (fun i hi => absurd hi (Nat.not_lt_zero _))
theorem hwsX1_mean : ∀ w ∈ u_ws RX1 TX1 15, w ∈ wsX1_mean := fun _ h => List.mem_cons_of_mem _ (List.mem_append_right _ h)
theorem kX1_mean_7 : Cond.fieldLink RX1 7 "SheetRowsModel" (TX1 4).2.1 (TX1 4).2.2.1 ∈ wsX1_mean := by decide +kernel
theorem kX1_mean_35 : Cond.fieldLink RX1 35 "SheetRowsModel" (TX1 1).2.1 (TX1 1).2.2.1 ∈ wsX1_mean := by decide +kernel
abbrev rmX1_mean : Room := { frames := 0, cells := 0, slots := 0, locals := 0 }
def mnm (w : Nat) (G : Nat → Int) (y x : Nat) : Int := (G (2 * y * w + 2 * x) + G (2 * y * w + 2 * x + 1) + G (2 * y * w + 2 * x + w) + G (2 * y * w + 2 * x + w + 1)) / 4
set_option maxHeartbeats 4000000 in
set_option maxRecDepth 100000 in
theorem ctX1_mean (l : Launch) (D : va_G) (cB cI cZ cL : ClassId) (bd : Nat → Nat) (w h : Nat) (hs : Sz w h) (G O CT LB FS TD PR BY : Nat → Int) (th pn kn cn : Int) (x y : Nat) (hx : x < w / 2) (hy : y < h / 2) (hG : gry (w * h) G) : mI l yX1_mean wsX1_mean rmX1_mean D vwCl (tyl cB cI cZ cL) [.ref (bd 0), .int (zI (x : Int)), .int (zI (y : Int))] (wM cB cI bd w h G O CT LB FS TD PR BY th pn kn cn) 0 0 (fun z w1 => w1 = wM cB cI bd w h G O CT LB FS TD PR BY th pn kn cn ∧ z = mnm w G y x) := by
  refine mI_of (own := RX1) rfl (by decide) rfl (Nat.le_of_ble_eq_true rfl) ?_
  intro p e s m args below meth c C hr hlocks hname
  show J p l e rmX1_mean s m args below meth c _ 4 D vwCl _ 0 [(0, .ref (bd 0)), (1, .int (zI (x : Int))), (2, .int (zI (y : Int)))] [] (wM cB cI bd w h G O CT LB FS TD PR BY th pn kn cn) 0 0
  have hm := hs.mul
  have h7 := ix2_lt (w := w) (h := h) hx hy
  have g1 := hG (2 * y * w + 2 * x) (by omega)
  have g2 := hG (2 * y * w + 2 * x + 1) (by omega)
  have g3 := hG (2 * y * w + 2 * x + w) (by omega)
  have g4 := hG (2 * y * w + 2 * x + w + 1) (by omega)
  refine j_iconst C eX1_mean_0 ?_
  refine j_aload_n C eX1_mean_1 0 rfl ?_
  refine j_getf C hwsX1_mean 0 rfl rfl 1 (by decide) kX1_mean_35 rfl rfl eX1_mean_2 ?_
  refine j_imul C eX1_mean_5 ?_
  refine j_iload_n C eX1_mean_6 2 rfl ?_
  refine j_imul C eX1_mean_7 ?_
  refine j_iconst C eX1_mean_8 ?_
  refine j_iload_n C eX1_mean_9 1 rfl ?_
  refine j_imul C eX1_mean_10 ?_
  refine j_iadd C eX1_mean_11 ?_
  refine j_top (y := zI ((2 * y * w + 2 * x : Nat) : Int)) (by push_cast; rw [Int.mul_assoc 2 (w : Int) (y : Int), Int.mul_comm (w : Int) (y : Int), ← Int.mul_assoc]) ?_
  refine j_istore_n C eX1_mean_12 rfl (by decide) (lv' := [(0, .ref (bd 0)), (1, .int (zI (x : Int))), (2, .int (zI (y : Int))), (3, .int (zI ((2 * y * w + 2 * x : Nat) : Int)))]) rfl ?_
  refine j_aload_n C eX1_mean_13 0 rfl ?_
  refine j_getf C hwsX1_mean 0 rfl rfl 4 (by decide) kX1_mean_7 rfl rfl eX1_mean_14 ?_
  refine j_iload_n C eX1_mean_17 3 rfl ?_
  refine j_iald C 1 1 rfl rfl (2 * y * w + 2 * x) rfl (by omega) (by omega) eX1_mean_18 ?_
  refine j_aload_n C eX1_mean_19 0 rfl ?_
  refine j_getf C hwsX1_mean 0 rfl rfl 4 (by decide) kX1_mean_7 rfl rfl eX1_mean_20 ?_
  refine j_iload_n C eX1_mean_23 3 rfl ?_
  refine j_iconst C eX1_mean_24 ?_
  refine j_iadd C eX1_mean_25 ?_
  refine j_iald C 1 1 rfl rfl (2 * y * w + 2 * x + 1) (by push_cast; rfl) (by omega) (by omega) eX1_mean_26 ?_
  refine j_iadd C eX1_mean_27 ?_
  refine j_aload_n C eX1_mean_28 0 rfl ?_
  refine j_getf C hwsX1_mean 0 rfl rfl 4 (by decide) kX1_mean_7 rfl rfl eX1_mean_29 ?_
  refine j_iload_n C eX1_mean_32 3 rfl ?_
  refine j_aload_n C eX1_mean_33 0 rfl ?_
  refine j_getf C hwsX1_mean 0 rfl rfl 1 (by decide) kX1_mean_35 rfl rfl eX1_mean_34 ?_
  refine j_iadd C eX1_mean_37 ?_
  refine j_iald C 1 1 rfl rfl (2 * y * w + 2 * x + w) (by push_cast; rfl) (by omega) (by omega) eX1_mean_38 ?_
  refine j_iadd C eX1_mean_39 ?_
  refine j_aload_n C eX1_mean_40 0 rfl ?_
  refine j_getf C hwsX1_mean 0 rfl rfl 4 (by decide) kX1_mean_7 rfl rfl eX1_mean_41 ?_
  refine j_iload_n C eX1_mean_44 3 rfl ?_
  refine j_aload_n C eX1_mean_45 0 rfl ?_
  refine j_getf C hwsX1_mean 0 rfl rfl 1 (by decide) kX1_mean_35 rfl rfl eX1_mean_46 ?_
  refine j_iadd C eX1_mean_49 ?_
  refine j_iconst C eX1_mean_50 ?_
  refine j_iadd C eX1_mean_51 ?_
  refine j_iald C 1 1 rfl rfl (2 * y * w + 2 * x + w + 1) (by push_cast; rfl) (by omega) (by omega) eX1_mean_52 ?_
  refine j_iadd C eX1_mean_53 ?_
  refine j_iconst C eX1_mean_54 ?_
  refine j_idiv C eX1_mean_55 (by omega) (by omega) ?_
  exact j_iret C hr hlocks rfl eX1_mean_56 ⟨rfl, by unfold mnm; rw [Int.tdiv_eq_ediv_of_nonneg (by omega)]⟩
theorem hwsX1_side : ∀ w ∈ u_ws RX1 TX1 15, w ∈ wsX1_side := fun _ h => List.mem_cons_of_mem _ (List.mem_append_right _ h)
theorem kX1_side_7 : Cond.fieldLink RX1 7 "SheetRowsModel" (TX1 4).2.1 (TX1 4).2.2.1 ∈ wsX1_side := by decide +kernel
theorem kX1_side_13 : Cond.fieldLink RX1 13 "SheetRowsModel" (TX1 5).2.1 (TX1 5).2.2.1 ∈ wsX1_side := by decide +kernel
theorem kX1_side_35 : Cond.fieldLink RX1 35 "SheetRowsModel" (TX1 1).2.1 (TX1 1).2.2.1 ∈ wsX1_side := by decide +kernel
theorem kX1_side_39 : Cond.fieldLink RX1 39 "SheetRowsModel" (TX1 2).2.1 (TX1 2).2.2.1 ∈ wsX1_side := by decide +kernel
theorem kX1_side_42 : Cond.fieldLink RX1 42 "SheetRowsModel" (TX1 3).2.1 (TX1 3).2.2.1 ∈ wsX1_side := by decide +kernel
theorem kX1_side_45 : Cond.fieldLink RX1 45 "SheetRowsModel" (TX1 0).2.1 (TX1 0).2.2.1 ∈ wsX1_side := by decide +kernel
abbrev rmX1_side : Room := { frames := 1, cells := 0, slots := 0, locals := 23 }
/-- the sheet as 'side' makes it, as greys -/
def sdm (w h : Nat) (G : Nat → Int) (o : Int) (y x : Nat) : Int := if o = 0 then G (y * w + (w - 1 - x)) else if o = 1 then G ((h - 1 - y) * w + x) else if o = 2 then 255 - G (y * w + x) else if x < w / 2 ∧ y < h / 2 then mnm w G y x else 255
theorem mnm_in {w h : Nat} {G : Nat → Int} (hG : gry (w * h) G) {x y : Nat} (hx : x < w / 2) (hy : y < h / 2) : 0 ≤ mnm w G y x ∧ mnm w G y x ≤ 255 := by
  have h7 := ix2_lt (w := w) (h := h) hx hy
  have g1 := hG (2 * y * w + 2 * x) (by omega)
  have g2 := hG (2 * y * w + 2 * x + 1) (by omega)
  have g3 := hG (2 * y * w + 2 * x + w) (by omega)
  have g4 := hG (2 * y * w + 2 * x + w + 1) (by omega)
  unfold mnm
  omega
theorem sdm_in {w h : Nat} {G : Nat → Int} (hG : gry (w * h) G) {o : Int} {x y : Nat} (hx : x < w) (hy : y < h) : 0 ≤ sdm w h G o y x ∧ sdm w h G o y x ≤ 255 := by
  unfold sdm
  split
  · exact hG _ (ix_lt (by omega) hy)
  · split
    · exact hG _ (ix_lt hx (by omega))
    · split
      · have := hG _ (ix_lt hx hy); omega
      · split
        · rename_i c
          exact mnm_in hG c.1 c.2
        · omega
set_option maxHeartbeats 4000000 in
set_option maxRecDepth 100000 in
theorem lpX1_side {p : Program} {l : Launch} {e : Env} {s : State} {m : MethodId} {args : Array Value} {below : List Frame} {meth : Method} {c : Code} {Q : State → Prop} {D : va_G} {A : Nat → Prop} {cB cI cZ cL : ClassId} {w h : Nat} {bd : Nat → Nat} {G CT LB FS TD PR BY : Nat → Int} {th pn kn cn : Int} (C : JC p m c cX1_side 5 s args wsX1_side RX1 D vwCl (tyl cB cI cZ cL) A) (hs : Sz w h) {o : Int} (ho : 0 ≤ o ∧ o ≤ 3) (hG : gry (w * h) G) (kx : ∀ O : Nat → Int, (∀ k, k < w * h → O k = sdm w h G o (k / w) (k % w)) → J p l e rmX1_side s m args below meth c Q 5 D vwCl A 180 [(0, .ref (bd 0)), (1, .int (zI o)), (2, .int (zI ((w * h) : Int)))] [] (wM cB cI bd w h G O CT LB FS TD PR BY th pn kn cn) 0 0) : ∀ (n i : Nat) (O : Nat → Int), i ≤ w * h → w * h - i < n → (∀ k, k < i → O k = sdm w h G o (k / w) (k % w)) → J p l e rmX1_side s m args below meth c Q 5 D vwCl A 18 [(0, .ref (bd 0)), (1, .int (zI o)), (2, .int (zI (i : Int)))] [] (wM cB cI bd w h G O CT LB FS TD PR BY th pn kn cn) 0 0 := by
  have hm := hs.mul
  obtain ⟨h1, h2, h3, h4⟩ := id hs
  have hw2 : (w : Int).tdiv 2 = ((w / 2 : Nat) : Int) := td_nat w 2
  have hh2 : (h : Int).tdiv 2 = ((h / 2 : Nat) : Int) := td_nat h 2
  intro n
  induction n with
  | zero => intro i G _ hn; exact absurd hn (Nat.not_lt_zero _)
  | succ n ih =>
    intro i O hi hn hO
    refine j_iload_n C eX1_side_18 2 rfl ?_
    refine j_aload_n C eX1_side_19 0 rfl ?_
    refine j_getf C hwsX1_side 0 rfl rfl 3 (by decide) kX1_side_42 rfl rfl eX1_side_20 ?_
    refine j_icmp_ge C 180 eX1_side_23 (by decide) (by omega) (by omega) (fun c23 => ?_) (fun c23 => ?_)
    ·
      have he : i = w * h := by omega
      subst he
      exact kx O hO
    ·
      have hil : i < w * h := by omega
      obtain ⟨e1, e2, e3⟩ := ix_of h1 hil
      obtain ⟨x, hx9⟩ : ∃ x, i % w = x := ⟨_, rfl⟩
      obtain ⟨y, hy9⟩ : ∃ y, i / w = y := ⟨_, rfl⟩
      rw [hx9] at e2 e3
      rw [hy9] at e1 e3
      have hgi := hG i hil
      have m1 := ix_lt (w := w) (h := h) (x := w - 1 - x) (y := y) (by omega) e1
      have m2 := ix_lt (w := w) (h := h) (x := x) (y := h - 1 - y) e2 (by omega)
      refine j_iload_n C eX1_side_26 2 rfl ?_
      refine j_aload_n C eX1_side_27 0 rfl ?_
      refine j_getf C hwsX1_side 0 rfl rfl 1 (by decide) kX1_side_35 rfl rfl eX1_side_28 ?_
      refine j_irem C eX1_side_31 (by omega) (by omega) ?_
      refine j_top (y := zI ((x : Nat) : Int)) (by rw [tm_nat, hx9]) ?_
      refine j_istore_n C eX1_side_32 rfl (by decide) (lv' := [(0, .ref (bd 0)), (1, .int (zI o)), (2, .int (zI (i : Int))), (3, .int (zI (x : Int)))]) rfl ?_
      refine j_iload_n C eX1_side_33 2 rfl ?_
      refine j_aload_n C eX1_side_34 0 rfl ?_
      refine j_getf C hwsX1_side 0 rfl rfl 1 (by decide) kX1_side_35 rfl rfl eX1_side_35 ?_
      refine j_idiv C eX1_side_38 (by omega) (by omega) ?_
      refine j_top (y := zI ((y : Nat) : Int)) (by rw [td_nat, hy9]) ?_
      refine j_istore C eX1_side_39 rfl (by decide) (lv' := [(0, .ref (bd 0)), (1, .int (zI o)), (2, .int (zI (i : Int))), (3, .int (zI (x : Int))), (4, .int (zI (y : Int)))]) rfl ?_
      refine j_iload_n C eX1_side_41 1 rfl ?_
      refine j_if_ne C 75 eX1_side_42 (by decide) (by omega) (fun c42 => ?_) (fun c42 => ?_)
      ·
        refine j_iload_n C eX1_side_75 1 rfl ?_
        refine j_iconst C eX1_side_76 ?_
        refine j_icmp_ne C 110 eX1_side_77 (by decide) (by omega) (by omega) (fun c77 => ?_) (fun c77 => ?_)
        ·
          refine j_iload_n C eX1_side_110 1 rfl ?_
          refine j_iconst C eX1_side_111 ?_
          refine j_icmp_ne C 134 eX1_side_112 (by decide) (by omega) (by omega) (fun c112 => ?_) (fun c112 => ?_)
          ·
            refine j_aload_n C eX1_side_134 0 rfl ?_
            refine j_getf C hwsX1_side 0 rfl rfl 5 (by decide) kX1_side_13 rfl rfl eX1_side_135 ?_
            refine j_iload_n C eX1_side_138 2 rfl ?_
            refine j_iload_n C eX1_side_139 3 rfl ?_
            refine j_aload_n C eX1_side_140 0 rfl ?_
            refine j_getf C hwsX1_side 0 rfl rfl 1 (by decide) kX1_side_35 rfl rfl eX1_side_141 ?_
            refine j_iconst C eX1_side_144 ?_
            refine j_idiv C eX1_side_145 (by omega) (by omega) ?_
            rw [hw2]
            refine j_icmp_ge C 170 eX1_side_146 (by decide) (by omega) (by omega) (fun c146 => ?_) (fun c146 => ?_)
            ·
              refine j_sipush C eX1_side_170 (by decide +kernel) ?_
              refine j_iast C 2 1 rfl rfl i rfl (by omega) (by omega) eX1_side_173 (wd' := wM cB cI bd w h G (zup O i 255) CT LB FS TD PR BY th pn kn cn) rfl ?_
              refine j_iinc C eX1_side_174 2 rfl rfl (by decide) (lv' := [(0, .ref (bd 0)), (1, .int (zI o)), (2, .int (zI ((i : Int) + 1))), (3, .int (zI (x : Int))), (4, .int (zI (y : Int)))]) rfl ?_
              refine j_goto C 18 eX1_side_177 (by decide) ?_
              refine j_loc [0, 1, 2] (lv' := [(0, .ref (bd 0)), (1, .int (zI o)), (2, .int (zI ((i : Int) + 1)))]) rfl ?_
              refine ih (i + 1) _ (by omega) (by omega) (fun k hk => ?_)
              by_cases e : k = i
              · subst e
                rw [zup_s, hx9, hy9]
                unfold sdm
                rw [if_neg (by omega), if_neg (by omega), if_neg (by omega), if_neg (by omega)]
              · rw [zup_n e]; exact hO k (by omega)
            ·
              refine j_iload C eX1_side_149 4 rfl ?_
              refine j_aload_n C eX1_side_151 0 rfl ?_
              refine j_getf C hwsX1_side 0 rfl rfl 2 (by decide) kX1_side_39 rfl rfl eX1_side_152 ?_
              refine j_iconst C eX1_side_155 ?_
              refine j_idiv C eX1_side_156 (by omega) (by omega) ?_
              rw [hh2]
              refine j_icmp_ge C 170 eX1_side_157 (by decide) (by omega) (by omega) (fun c157 => ?_) (fun c157 => ?_)
              ·
                refine j_sipush C eX1_side_170 (by decide +kernel) ?_
                refine j_iast C 2 1 rfl rfl i rfl (by omega) (by omega) eX1_side_173 (wd' := wM cB cI bd w h G (zup O i 255) CT LB FS TD PR BY th pn kn cn) rfl ?_
                refine j_iinc C eX1_side_174 2 rfl rfl (by decide) (lv' := [(0, .ref (bd 0)), (1, .int (zI o)), (2, .int (zI ((i : Int) + 1))), (3, .int (zI (x : Int))), (4, .int (zI (y : Int)))]) rfl ?_
                refine j_goto C 18 eX1_side_177 (by decide) ?_
                refine j_loc [0, 1, 2] (lv' := [(0, .ref (bd 0)), (1, .int (zI o)), (2, .int (zI ((i : Int) + 1)))]) rfl ?_
                refine ih (i + 1) _ (by omega) (by omega) (fun k hk => ?_)
                by_cases e : k = i
                · subst e
                  rw [zup_s, hx9, hy9]
                  unfold sdm
                  rw [if_neg (by omega), if_neg (by omega), if_neg (by omega), if_neg (by omega)]
                · rw [zup_n e]; exact hO k (by omega)
              ·
                refine j_aload_n C eX1_side_160 0 rfl ?_
                refine j_iload_n C eX1_side_161 3 rfl ?_
                refine j_iload C eX1_side_162 4 rfl ?_
                refine j_callVi C (As := [.int (zI (x : Int)), .int (zI (y : Int))]) (rest := [.int (zI (i : Int)), .ref (bd 5)]) (ctX1_mean l D cB cI cZ cL bd w h hs G O CT LB FS TD PR BY th pn kn cn x y (by omega) (by omega) hG) (cwV 2 C.1.2.2.2.2 gX1_side_X1_mean rfl rfl rfl (by decide +kernel) ⟨Nat.le_of_ble_eq_true rfl, Nat.le_of_ble_eq_true rfl⟩) [0, 1, 2, 3, 4, 5, 6, 7, 8] [] (wr := []) rfl (by decide) rfl (by decide) (by decide) 0 rfl rfl rfl rfl (Nat.le_of_ble_eq_true rfl) eX1_side_164 ⟨Nat.le_of_ble_eq_true rfl, Nat.le_of_ble_eq_true rfl⟩ (fun z w1 hp => ?_)
                obtain ⟨rfl, rfl⟩ := hp
                rw [List.nil_append]
                refine j_goto C 173 eX1_side_167 (by decide) ?_
                refine j_iast C 2 1 rfl rfl i rfl (by omega) (by omega) eX1_side_173 (wd' := wM cB cI bd w h G (zup O i (mnm w G y x)) CT LB FS TD PR BY th pn kn cn) rfl ?_
                refine j_iinc C eX1_side_174 2 rfl rfl (by decide) (lv' := [(0, .ref (bd 0)), (1, .int (zI o)), (2, .int (zI ((i : Int) + 1))), (3, .int (zI (x : Int))), (4, .int (zI (y : Int)))]) rfl ?_
                refine j_goto C 18 eX1_side_177 (by decide) ?_
                refine j_loc [0, 1, 2] (lv' := [(0, .ref (bd 0)), (1, .int (zI o)), (2, .int (zI ((i : Int) + 1)))]) rfl ?_
                refine ih (i + 1) _ (by omega) (by omega) (fun k hk => ?_)
                by_cases e : k = i
                · subst e
                  rw [zup_s, hx9, hy9]
                  unfold sdm
                  rw [if_neg (by omega), if_neg (by omega), if_neg (by omega), if_pos (by omega)]
                · rw [zup_n e]; exact hO k (by omega)
          ·
            refine j_aload_n C eX1_side_115 0 rfl ?_
            refine j_getf C hwsX1_side 0 rfl rfl 5 (by decide) kX1_side_13 rfl rfl eX1_side_116 ?_
            refine j_iload_n C eX1_side_119 2 rfl ?_
            refine j_sipush C eX1_side_120 (by decide +kernel) ?_
            refine j_aload_n C eX1_side_123 0 rfl ?_
            refine j_getf C hwsX1_side 0 rfl rfl 4 (by decide) kX1_side_7 rfl rfl eX1_side_124 ?_
            refine j_iload_n C eX1_side_127 2 rfl ?_
            refine j_iald C 1 1 rfl rfl i rfl (by omega) (by omega) eX1_side_128 ?_
            refine j_isub C eX1_side_129 ?_
            refine j_iast C 2 1 rfl rfl i rfl (by omega) (by omega) eX1_side_130 (wd' := wM cB cI bd w h G (zup O i (255 - (G i))) CT LB FS TD PR BY th pn kn cn) rfl ?_
            refine j_goto C 174 eX1_side_131 (by decide) ?_
            refine j_iinc C eX1_side_174 2 rfl rfl (by decide) (lv' := [(0, .ref (bd 0)), (1, .int (zI o)), (2, .int (zI ((i : Int) + 1))), (3, .int (zI (x : Int))), (4, .int (zI (y : Int)))]) rfl ?_
            refine j_goto C 18 eX1_side_177 (by decide) ?_
            refine j_loc [0, 1, 2] (lv' := [(0, .ref (bd 0)), (1, .int (zI o)), (2, .int (zI ((i : Int) + 1)))]) rfl ?_
            refine ih (i + 1) _ (by omega) (by omega) (fun k hk => ?_)
            by_cases e : k = i
            · subst e
              rw [zup_s, hx9, hy9]
              unfold sdm
              rw [if_neg (by omega), if_neg (by omega), if_pos (by omega), e3]
            · rw [zup_n e]; exact hO k (by omega)
        ·
          refine j_aload_n C eX1_side_80 0 rfl ?_
          refine j_getf C hwsX1_side 0 rfl rfl 5 (by decide) kX1_side_13 rfl rfl eX1_side_81 ?_
          refine j_iload_n C eX1_side_84 2 rfl ?_
          refine j_aload_n C eX1_side_85 0 rfl ?_
          refine j_getf C hwsX1_side 0 rfl rfl 4 (by decide) kX1_side_7 rfl rfl eX1_side_86 ?_
          refine j_aload_n C eX1_side_89 0 rfl ?_
          refine j_getf C hwsX1_side 0 rfl rfl 1 (by decide) kX1_side_35 rfl rfl eX1_side_90 ?_
          refine j_aload_n C eX1_side_93 0 rfl ?_
          refine j_getf C hwsX1_side 0 rfl rfl 2 (by decide) kX1_side_39 rfl rfl eX1_side_94 ?_
          refine j_iconst C eX1_side_97 ?_
          refine j_isub C eX1_side_98 ?_
          refine j_iload C eX1_side_99 4 rfl ?_
          refine j_isub C eX1_side_101 ?_
          refine j_imul C eX1_side_102 ?_
          refine j_iload_n C eX1_side_103 3 rfl ?_
          refine j_iadd C eX1_side_104 ?_
          refine j_iald C 1 1 rfl rfl ((h - 1 - y) * w + x) (by rw [Int.mul_comm (w : Int)]; push_cast; rw [Int.ofNat_sub (by omega), Int.ofNat_sub (by omega)]; rfl) (by omega) (by omega) eX1_side_105 ?_
          refine j_iast C 2 1 rfl rfl i rfl (by omega) (by omega) eX1_side_106 (wd' := wM cB cI bd w h G (zup O i (G ((h - 1 - y) * w + x))) CT LB FS TD PR BY th pn kn cn) rfl ?_
          refine j_goto C 174 eX1_side_107 (by decide) ?_
          refine j_iinc C eX1_side_174 2 rfl rfl (by decide) (lv' := [(0, .ref (bd 0)), (1, .int (zI o)), (2, .int (zI ((i : Int) + 1))), (3, .int (zI (x : Int))), (4, .int (zI (y : Int)))]) rfl ?_
          refine j_goto C 18 eX1_side_177 (by decide) ?_
          refine j_loc [0, 1, 2] (lv' := [(0, .ref (bd 0)), (1, .int (zI o)), (2, .int (zI ((i : Int) + 1)))]) rfl ?_
          refine ih (i + 1) _ (by omega) (by omega) (fun k hk => ?_)
          by_cases e : k = i
          · subst e
            rw [zup_s, hx9, hy9]
            unfold sdm
            rw [if_neg (by omega), if_pos (by omega)]
          · rw [zup_n e]; exact hO k (by omega)
      ·
        refine j_aload_n C eX1_side_45 0 rfl ?_
        refine j_getf C hwsX1_side 0 rfl rfl 5 (by decide) kX1_side_13 rfl rfl eX1_side_46 ?_
        refine j_iload_n C eX1_side_49 2 rfl ?_
        refine j_aload_n C eX1_side_50 0 rfl ?_
        refine j_getf C hwsX1_side 0 rfl rfl 4 (by decide) kX1_side_7 rfl rfl eX1_side_51 ?_
        refine j_aload_n C eX1_side_54 0 rfl ?_
        refine j_getf C hwsX1_side 0 rfl rfl 1 (by decide) kX1_side_35 rfl rfl eX1_side_55 ?_
        refine j_iload C eX1_side_58 4 rfl ?_
        refine j_imul C eX1_side_60 ?_
        refine j_aload_n C eX1_side_61 0 rfl ?_
        refine j_getf C hwsX1_side 0 rfl rfl 1 (by decide) kX1_side_35 rfl rfl eX1_side_62 ?_
        refine j_iadd C eX1_side_65 ?_
        refine j_iconst C eX1_side_66 ?_
        refine j_isub C eX1_side_67 ?_
        refine j_iload_n C eX1_side_68 3 rfl ?_
        refine j_isub C eX1_side_69 ?_
        refine j_iald C 1 1 rfl rfl (y * w + (w - 1 - x)) (by have h5 := Int.mul_comm (w : Int) (y : Int); rw [h5]; omega) (by omega) (by omega) eX1_side_70 ?_
        refine j_iast C 2 1 rfl rfl i rfl (by omega) (by omega) eX1_side_71 (wd' := wM cB cI bd w h G (zup O i (G (y * w + (w - 1 - x)))) CT LB FS TD PR BY th pn kn cn) rfl ?_
        refine j_goto C 174 eX1_side_72 (by decide) ?_
        refine j_iinc C eX1_side_174 2 rfl rfl (by decide) (lv' := [(0, .ref (bd 0)), (1, .int (zI o)), (2, .int (zI ((i : Int) + 1))), (3, .int (zI (x : Int))), (4, .int (zI (y : Int)))]) rfl ?_
        refine j_goto C 18 eX1_side_177 (by decide) ?_
        refine j_loc [0, 1, 2] (lv' := [(0, .ref (bd 0)), (1, .int (zI o)), (2, .int (zI ((i : Int) + 1)))]) rfl ?_
        refine ih (i + 1) _ (by omega) (by omega) (fun k hk => ?_)
        by_cases e : k = i
        · subst e
          rw [zup_s, hx9, hy9]
          unfold sdm
          rw [if_pos (by omega)]
        · rw [zup_n e]; exact hO k (by omega)
set_option maxHeartbeats 4000000 in
set_option maxRecDepth 100000 in
theorem ctX1_side (l : Launch) (D : va_G) (cB cI cZ cL : ClassId) (bd : Nat → Nat) (w h : Nat) (hs : Sz w h) (G O CT LB FS TD PR BY : Nat → Int) (th pn kn cn : Int) (o : Int) (ho : -2147483648 ≤ o ∧ o ≤ 2147483647) (hG : gry (w * h) G) : mI l yX1_side wsX1_side rmX1_side D vwCl (tyl cB cI cZ cL) [.ref (bd 0), .int (zI o)] (wM cB cI bd w h G O CT LB FS TD PR BY th pn kn cn) 0 0 (fun z w1 => if 0 ≤ o ∧ o ≤ 3 then ∃ O' G' : Nat → Int, (∀ k, k < w * h → O' k = sdm w h G o (k / w) (k % w)) ∧ (∀ k, k < w * h → G' k = O' k) ∧ z = dif G O' (w * h) ∧ w1 = wM cB cI bd w h G' O' CT LB FS TD PR BY 0 pn kn cn else z = -1 ∧ w1 = wM cB cI bd w h G O CT LB FS TD PR BY 0 pn kn cn) := by
  refine mI_of (own := RX1) rfl (by decide) rfl (Nat.le_of_ble_eq_true rfl) ?_
  intro p e s m args below meth c C hr hlocks hname
  show J p l e rmX1_side s m args below meth c _ 5 D vwCl _ 0 [(0, .ref (bd 0)), (1, .int (zI o))] [] (wM cB cI bd w h G O CT LB FS TD PR BY th pn kn cn) 0 0
  have hm := hs.mul
  refine j_aload_n C eX1_side_0 0 rfl ?_
  refine j_iconst C eX1_side_1 ?_
  refine j_putf C hwsX1_side tyX1 tyX1_ok nmX1 0 rfl rfl 0 (by decide) kX1_side_45 rfl rfl (tyX1_ok 0 (by decide)) rfl rfl (Nat.le_of_ble_eq_true rfl) eX1_side_2 (wd' := wM cB cI bd w h G O CT LB FS TD PR BY 0 pn kn cn) rfl ?_
  refine j_iload_n C eX1_side_5 1 rfl ?_
  refine j_if_lt C 14 eX1_side_6 (by decide) (by omega) (fun c6 => ?_) (fun c6 => ?_)
  ·
    refine j_iconst C eX1_side_14 ?_
    exact j_iret C hr hlocks rfl eX1_side_15 (by rw [if_neg (by omega)]; exact ⟨rfl, rfl⟩)
  ·
    refine j_iload_n C eX1_side_9 1 rfl ?_
    refine j_iconst C eX1_side_10 ?_
    refine j_icmp_le C 16 eX1_side_11 (by decide) (by omega) (by omega) (fun c11 => ?_) (fun c11 => ?_)
    ·
      refine j_iconst C eX1_side_16 ?_
      refine j_istore_n C eX1_side_17 rfl (by decide) (lv' := [(0, .ref (bd 0)), (1, .int (zI o)), (2, .int (zI 0))]) rfl ?_
      refine lpX1_side C hs (o := o) (by omega) hG (fun O' hO' => ?_) (w * h + 1) 0 O (by omega) (by omega) (fun k hk => absurd hk (Nat.not_lt_zero _))
      have hO9 : gry (w * h) O' := fun k hk => by
        obtain ⟨e1, e2, e3⟩ := ix_of hs.1 hk
        rw [hO' k hk]
        exact sdm_in hG e2 e1
      refine j_aload_n C eX1_side_180 0 rfl ?_
      refine j_callVi C (As := []) (rest := []) (ctX1_change l D cB cI cZ cL bd w h hs G O' CT LB FS TD PR BY 0 pn kn cn hG hO9) (cwV 0 C.1.2.2.2.2 gX1_side_X1_change rfl rfl rfl (by decide +kernel) ⟨Nat.le_of_ble_eq_true rfl, Nat.le_of_ble_eq_true rfl⟩) [0, 1, 2, 3, 4, 5, 6, 7, 8] [] (wr := []) rfl (by decide) rfl (by decide) (by decide) 0 rfl rfl rfl rfl (Nat.le_of_ble_eq_true rfl) eX1_side_181 ⟨Nat.le_of_ble_eq_true rfl, Nat.le_of_ble_eq_true rfl⟩ (fun z w1 hp => ?_)
      obtain ⟨G', hG', rfl, rfl⟩ := hp
      rw [List.nil_append]
      exact j_iret C hr hlocks rfl eX1_side_184 (by rw [if_pos (by omega)]; exact ⟨O', G', hO', hG', rfl, rfl⟩)
    ·
      refine j_iconst C eX1_side_14 ?_
      exact j_iret C hr hlocks rfl eX1_side_15 (by rw [if_neg (by omega)]; exact ⟨rfl, rfl⟩)
