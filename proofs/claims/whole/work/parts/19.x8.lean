/-! THE CLASS: a part's facts; all parts -/
/-- what is told of a listed part -/
def facL (w h : Nat) (RE : Nat → Int) (r : Nat) (j : Nat) : Int := match j with
  | 0 => mnL (fun i => fx w (RE i).toNat) (w : Int) r
  | 1 => mnL (fun i => fy w (RE i).toNat) (h : Int) r
  | 2 => mxL (fun i => fx w (RE i).toNat) 0 r
  | 3 => mxL (fun i => fy w (RE i).toNat) 0 r
  | 4 => (r : Int)
  | 5 => sumN (fun i => fx w (RE i).toNat) r
  | _ => sumN (fun i => fy w (RE i).toNat) r
theorem facL_eq {w h n : Nat} {s RE : Nat → Int} {r : Nat} (hl : lst n s RE r) (hr : 0 < r) {j : Nat} (hj : j < 7) : facL w h RE r j = fac w h n s j := by
  have hj2 : j = 0 ∨ j = 1 ∨ j = 2 ∨ j = 3 ∨ j = 4 ∨ j = 5 ∨ j = 6 := by omega
  rcases hj2 with rfl | rfl | rfl | rfl | rfl | rfl | rfl
  · exact lst_mn hl (fx w) _
  · exact lst_mn hl (fy w) _
  · exact lst_mx hl hr (fx w) (fun q => Int.natCast_nonneg _)
  · exact lst_mx hl hr (fy w) (fun q => Int.natCast_nonneg _)
  · have h1 := hl.2.2 (fun _ => 1)
    rw [sumN_c] at h1
    show (r : Int) = sumN s n
    have h2 : sumN (fun q => s q * 1) n = sumN s n := sumN_congr (fun q _ => Int.mul_one _)
    omega
  · exact hl.2.2 (fx w)
  · exact hl.2.2 (fy w)
theorem fx_in {w : Nat} (hw : 1 ≤ w) (hw2 : w ≤ 48) (q : Nat) : 0 ≤ fx w q ∧ fx w q ≤ 48 := by
  have := Nat.mod_lt q (show 0 < w by omega)
  unfold fx
  omega
theorem fy_in {w h q : Nat} (hw : 1 ≤ w) (hh : h ≤ 48) (hq : q < w * h) : 0 ≤ fy w q ∧ fy w q ≤ 48 := by
  have h5 := (ix_of hw hq).1
  refine ⟨Int.natCast_nonneg _, ?_⟩
  show ((q / w : Nat) : Int) ≤ ((48 : Nat) : Int)
  exact Int.ofNat_le.mpr (Nat.le_of_lt (Nat.lt_of_lt_of_le h5 hh))
theorem mnL_in {f : Nat → Int} {z : Int} {n : Nat} (hz : 0 ≤ z ∧ z ≤ 48) (hf : ∀ k, k < n → 0 ≤ f k ∧ f k ≤ 48) : 0 ≤ mnL f z n ∧ mnL f z n ≤ 48 := by
  obtain ⟨a, b, c⟩ := mnL_ok f z n
  rcases c with c | ⟨k, k1, k2⟩
  · omega
  · have := hf k k1; omega
theorem mxL_in {f : Nat → Int} {z : Int} {n : Nat} (hz : 0 ≤ z ∧ z ≤ 48) (hf : ∀ k, k < n → 0 ≤ f k ∧ f k ≤ 48) : 0 ≤ mxL f z n ∧ mxL f z n ≤ 48 := by
  obtain ⟨a, b, c⟩ := mxL_ok f z n
  rcases c with c | ⟨k, k1, k2⟩
  · omega
  · have := hf k k1; omega
theorem mnS_congr {s s' f : Nat → Int} {z : Int} : ∀ {n : Nat}, (∀ k, k < n → s k = s' k) → mnS s f z n = mnS s' f z n
  | 0, _ => rfl
  | n + 1, h => by
    unfold mnS
    rw [mnS_congr (n := n) (fun k hk => h k (by omega)), h n (by omega)]
theorem mxS_congr {s s' f : Nat → Int} {z : Int} : ∀ {n : Nat}, (∀ k, k < n → s k = s' k) → mxS s f z n = mxS s' f z n
  | 0, _ => rfl
  | n + 1, h => by
    unfold mxS
    rw [mxS_congr (n := n) (fun k hk => h k (by omega)), h n (by omega)]
theorem fac_congr {w h n : Nat} {s s' : Nat → Int} (e : ∀ k, k < n → s k = s' k) (j : Nat) : fac w h n s j = fac w h n s' j := by
  unfold fac
  split
  · exact mnS_congr e
  · exact mnS_congr e
  · exact mxS_congr e
  · exact mxS_congr e
  · exact sumN_congr e
  · exact sumN_congr (fun k hk => by rw [e k hk])
  · exact sumN_congr (fun k hk => by rw [e k hk])
theorem hwsX0_keepPart : ∀ w ∈ u_ws RX0 TX0 16, w ∈ wsX0_keepPart := fun _ h => List.mem_cons_of_mem _ (List.mem_append_right _ h)
theorem kX0_keepPart_18 : Cond.fieldLink RX0 18 "SheetRows" (TX0 0).2.1 (TX0 0).2.2.1 ∈ wsX0_keepPart := by decide +kernel
theorem kX0_keepPart_22 : Cond.fieldLink RX0 22 "SheetRows" (TX0 1).2.1 (TX0 1).2.2.1 ∈ wsX0_keepPart := by decide +kernel
theorem kX0_keepPart_46 : Cond.fieldLink RX0 46 "SheetRows" (TX0 8).2.1 (TX0 8).2.2.1 ∈ wsX0_keepPart := by decide +kernel
theorem kX0_keepPart_49 : Cond.fieldLink RX0 49 "SheetRows" (TX0 10).2.1 (TX0 10).2.2.1 ∈ wsX0_keepPart := by decide +kernel
theorem kX0_keepPart_85 : Cond.fieldLink RX0 85 "SheetRows" (TX0 11).2.1 (TX0 11).2.2.1 ∈ wsX0_keepPart := by decide +kernel
theorem kX0_keepPart_92 : Cond.fieldLink RX0 92 "SheetRows" (TX0 9).2.1 (TX0 9).2.2.1 ∈ wsX0_keepPart := by decide +kernel
theorem kmX0_keepPart_9 : Cond.methodLink RX0 9 Lib.Math.min.name ∈ wsX0_keepPart ∧ Cond.static Lib.Math.min.name ∈ wsX0_keepPart ∧ Cond.initialized "java/lang/Math" ∈ wsX0_keepPart ∧ Cond.code Lib.Math.min.name Lib.Math.min.code 2 (some .int) ∈ wsX0_keepPart := ⟨by decide +kernel, by decide +kernel, by decide +kernel, by decide +kernel⟩
theorem kmX0_keepPart_15 : Cond.methodLink RX0 15 Lib.Math.max.name ∈ wsX0_keepPart ∧ Cond.static Lib.Math.max.name ∈ wsX0_keepPart ∧ Cond.initialized "java/lang/Math" ∈ wsX0_keepPart ∧ Cond.code Lib.Math.max.name Lib.Math.max.code 2 (some .int) ∈ wsX0_keepPart := ⟨by decide +kernel, by decide +kernel, by decide +kernel, by decide +kernel⟩
abbrev rmX0_keepPart : Room := { frames := 1, cells := 0, slots := 0, locals := 21 }
set_option maxHeartbeats 4000000 in
set_option maxRecDepth 100000 in
theorem lpX0_keepPart {p : Program} {l : Launch} {e : Env} {s : State} {m : MethodId} {args : Array Value} {below : List Frame} {meth : Method} {c : Code} {Q : State → Prop} {D : va_G} {A : Nat → Prop} {cB cI cZ cL : ClassId} {w h : Nat} {ad : Nat → Nat} {aG aS : Nat} {G S CB SB DK DR RE PF PK CO : Nat → Int} {kn cn : Int} (C : JC p m c cX0_keepPart 11 s args wsX0_keepPart RX0 D vwCl (tyl cB cI cZ cL) A) (hs : Sz w h) {r k : Nat} (hr : r ≤ w * h) (hRE : ∀ i, i < r → ∃ q : Nat, RE i = (q : Int) ∧ q < w * h) (kx : J p l e rmX0_keepPart s m args below meth c Q 11 D vwCl A 135 [(0, .ref (ad 0)), (1, .int (zI ((k : Int) * 7))), (2, .int (zI (mnL (fun i => fx w (RE i).toNat) (w : Int) r))), (3, .int (zI (mnL (fun i => fy w (RE i).toNat) (h : Int) r))), (4, .int (zI (mxL (fun i => fx w (RE i).toNat) 0 r))), (5, .int (zI (mxL (fun i => fy w (RE i).toNat) 0 r))), (6, .int (zI (sumN (fun i => fx w (RE i).toNat) r))), (7, .int (zI (sumN (fun i => fy w (RE i).toNat) r))), (8, .int (zI (r : Int)))] [] (wX cB cI cZ ad w h aG aS G S CB SB DK DR RE PF PK CO (r : Int) (k : Int) kn cn) 0 0) : ∀ (n i : Nat), i ≤ r → r - i < n → J p l e rmX0_keepPart s m args below meth c Q 11 D vwCl A 46 [(0, .ref (ad 0)), (1, .int (zI ((k : Int) * 7))), (2, .int (zI (mnL (fun i => fx w (RE i).toNat) (w : Int) i))), (3, .int (zI (mnL (fun i => fy w (RE i).toNat) (h : Int) i))), (4, .int (zI (mxL (fun i => fx w (RE i).toNat) 0 i))), (5, .int (zI (mxL (fun i => fy w (RE i).toNat) 0 i))), (6, .int (zI (sumN (fun i => fx w (RE i).toNat) i))), (7, .int (zI (sumN (fun i => fy w (RE i).toNat) i))), (8, .int (zI (i : Int)))] [] (wX cB cI cZ ad w h aG aS G S CB SB DK DR RE PF PK CO (r : Int) (k : Int) kn cn) 0 0 := by
  have hm := hs.mul
  obtain ⟨h1, h2, h3, h4⟩ := id hs
  have bx : ∀ i, i < r → 0 ≤ (fun i => fx w (RE i).toNat) i ∧ (fun i => fx w (RE i).toNat) i ≤ 48 := fun i _ => fx_in h1 h2 _
  have by_ : ∀ i, i < r → 0 ≤ (fun i => fy w (RE i).toNat) i ∧ (fun i => fy w (RE i).toNat) i ≤ 48 := fun i hi => by
    obtain ⟨q, q1, q2⟩ := hRE i hi
    show 0 ≤ fy w (RE i).toNat ∧ fy w (RE i).toNat ≤ 48
    rw [q1, Int.toNat_natCast]
    exact fy_in h1 h4 q2
  intro n
  induction n with
  | zero => intro i _ hn; exact absurd hn (Nat.not_lt_zero _)
  | succ n ih =>
    intro i hi hn
    have m1 := mnL_in (f := (fun i => fx w (RE i).toNat)) (z := (w : Int)) (n := i) (by omega) (fun k hk => bx k (by omega))
    have m2 := mnL_in (f := (fun i => fy w (RE i).toNat)) (z := (h : Int)) (n := i) (by omega) (fun k hk => by_ k (by omega))
    have m3 := mxL_in (f := (fun i => fx w (RE i).toNat)) (z := 0) (n := i) (by omega) (fun k hk => bx k (by omega))
    have m4 := mxL_in (f := (fun i => fy w (RE i).toNat)) (z := 0) (n := i) (by omega) (fun k hk => by_ k (by omega))
    refine j_iload C eX0_keepPart_46 8 rfl ?_
    refine j_aload_n C eX0_keepPart_48 0 rfl ?_
    refine j_getf C hwsX0_keepPart 0 rfl rfl 9 (by decide) kX0_keepPart_92 rfl rfl eX0_keepPart_49 ?_
    refine j_icmp_ge C 135 eX0_keepPart_52 (by decide) (by omega) (by omega) (fun c52 => ?_) (fun c52 => ?_)
    ·
      have he : i = r := by omega
      subst he
      exact kx
    ·
      obtain ⟨q, hq1, hq2⟩ := hRE i (by omega)
      have b1 : 0 ≤ fx w (RE i).toNat ∧ fx w (RE i).toNat ≤ 48 := bx i (by omega)
      have b2 : 0 ≤ fy w (RE i).toNat ∧ fy w (RE i).toNat ≤ 48 := by_ i (by omega)
      refine j_aload_n C eX0_keepPart_55 0 rfl ?_
      refine j_getf C hwsX0_keepPart 0 rfl rfl 8 (by decide) kX0_keepPart_46 rfl rfl eX0_keepPart_56 ?_
      refine j_iload C eX0_keepPart_59 8 rfl ?_
      refine j_iald C 7 1 rfl rfl i rfl (by omega) (by omega) eX0_keepPart_61 ?_
      refine j_top (y := zI (q : Int)) (by rw [hq1]) ?_
      refine j_aload_n C eX0_keepPart_62 0 rfl ?_
      refine j_getf C hwsX0_keepPart 0 rfl rfl 0 (by decide) kX0_keepPart_18 rfl rfl eX0_keepPart_63 ?_
      refine j_irem C eX0_keepPart_66 (by omega) (by omega) ?_
      refine j_top (y := zI (fx w (RE i).toNat)) (by rw [tm_nat, hq1, Int.toNat_natCast]) ?_
      refine j_istore C eX0_keepPart_67 rfl (by decide) (lv' := [(0, .ref (ad 0)), (1, .int (zI ((k : Int) * 7))), (2, .int (zI (mnL (fun i => fx w (RE i).toNat) (w : Int) i))), (3, .int (zI (mnL (fun i => fy w (RE i).toNat) (h : Int) i))), (4, .int (zI (mxL (fun i => fx w (RE i).toNat) 0 i))), (5, .int (zI (mxL (fun i => fy w (RE i).toNat) 0 i))), (6, .int (zI (sumN (fun i => fx w (RE i).toNat) i))), (7, .int (zI (sumN (fun i => fy w (RE i).toNat) i))), (8, .int (zI (i : Int))), (9, .int (zI (fx w (RE i).toNat)))]) rfl ?_
      refine j_aload_n C eX0_keepPart_69 0 rfl ?_
      refine j_getf C hwsX0_keepPart 0 rfl rfl 8 (by decide) kX0_keepPart_46 rfl rfl eX0_keepPart_70 ?_
      refine j_iload C eX0_keepPart_73 8 rfl ?_
      refine j_iald C 7 1 rfl rfl i rfl (by omega) (by omega) eX0_keepPart_75 ?_
      refine j_top (y := zI (q : Int)) (by rw [hq1]) ?_
      refine j_aload_n C eX0_keepPart_76 0 rfl ?_
      refine j_getf C hwsX0_keepPart 0 rfl rfl 0 (by decide) kX0_keepPart_18 rfl rfl eX0_keepPart_77 ?_
      refine j_idiv C eX0_keepPart_80 (by omega) (by omega) ?_
      refine j_top (y := zI (fy w (RE i).toNat)) (by rw [td_nat, hq1, Int.toNat_natCast]) ?_
      refine j_istore C eX0_keepPart_81 rfl (by decide) (lv' := [(0, .ref (ad 0)), (1, .int (zI ((k : Int) * 7))), (2, .int (zI (mnL (fun i => fx w (RE i).toNat) (w : Int) i))), (3, .int (zI (mnL (fun i => fy w (RE i).toNat) (h : Int) i))), (4, .int (zI (mxL (fun i => fx w (RE i).toNat) 0 i))), (5, .int (zI (mxL (fun i => fy w (RE i).toNat) 0 i))), (6, .int (zI (sumN (fun i => fx w (RE i).toNat) i))), (7, .int (zI (sumN (fun i => fy w (RE i).toNat) i))), (8, .int (zI (i : Int))), (9, .int (zI (fx w (RE i).toNat))), (10, .int (zI (fy w (RE i).toNat)))]) rfl ?_
      refine j_iload_n C eX0_keepPart_83 2 rfl ?_
      refine j_iload C eX0_keepPart_84 9 rfl ?_
      refine j_mmin C kmX0_keepPart_9.1 kmX0_keepPart_9.2.1 kmX0_keepPart_9.2.2.1 kmX0_keepPart_9.2.2.2 (Nat.le_of_ble_eq_true rfl) (Nat.le_of_ble_eq_true rfl) ⟨Nat.le_of_ble_eq_true rfl, Nat.le_of_ble_eq_true rfl⟩ (by omega) (by omega) eX0_keepPart_86 ?_
      refine j_istore_n C eX0_keepPart_89 rfl (by decide) (lv' := [(0, .ref (ad 0)), (1, .int (zI ((k : Int) * 7))), (2, .int (zI (min (mnL (fun i => fx w (RE i).toNat) (w : Int) i) (fx w (RE i).toNat)))), (3, .int (zI (mnL (fun i => fy w (RE i).toNat) (h : Int) i))), (4, .int (zI (mxL (fun i => fx w (RE i).toNat) 0 i))), (5, .int (zI (mxL (fun i => fy w (RE i).toNat) 0 i))), (6, .int (zI (sumN (fun i => fx w (RE i).toNat) i))), (7, .int (zI (sumN (fun i => fy w (RE i).toNat) i))), (8, .int (zI (i : Int))), (9, .int (zI (fx w (RE i).toNat))), (10, .int (zI (fy w (RE i).toNat)))]) rfl ?_
      refine j_iload_n C eX0_keepPart_90 3 rfl ?_
      refine j_iload C eX0_keepPart_91 10 rfl ?_
      refine j_mmin C kmX0_keepPart_9.1 kmX0_keepPart_9.2.1 kmX0_keepPart_9.2.2.1 kmX0_keepPart_9.2.2.2 (Nat.le_of_ble_eq_true rfl) (Nat.le_of_ble_eq_true rfl) ⟨Nat.le_of_ble_eq_true rfl, Nat.le_of_ble_eq_true rfl⟩ (by omega) (by omega) eX0_keepPart_93 ?_
      refine j_istore_n C eX0_keepPart_96 rfl (by decide) (lv' := [(0, .ref (ad 0)), (1, .int (zI ((k : Int) * 7))), (2, .int (zI (min (mnL (fun i => fx w (RE i).toNat) (w : Int) i) (fx w (RE i).toNat)))), (3, .int (zI (min (mnL (fun i => fy w (RE i).toNat) (h : Int) i) (fy w (RE i).toNat)))), (4, .int (zI (mxL (fun i => fx w (RE i).toNat) 0 i))), (5, .int (zI (mxL (fun i => fy w (RE i).toNat) 0 i))), (6, .int (zI (sumN (fun i => fx w (RE i).toNat) i))), (7, .int (zI (sumN (fun i => fy w (RE i).toNat) i))), (8, .int (zI (i : Int))), (9, .int (zI (fx w (RE i).toNat))), (10, .int (zI (fy w (RE i).toNat)))]) rfl ?_
      refine j_iload C eX0_keepPart_97 4 rfl ?_
      refine j_iload C eX0_keepPart_99 9 rfl ?_
      refine j_mmax C kmX0_keepPart_15.1 kmX0_keepPart_15.2.1 kmX0_keepPart_15.2.2.1 kmX0_keepPart_15.2.2.2 (Nat.le_of_ble_eq_true rfl) (Nat.le_of_ble_eq_true rfl) ⟨Nat.le_of_ble_eq_true rfl, Nat.le_of_ble_eq_true rfl⟩ (by omega) (by omega) eX0_keepPart_101 ?_
      refine j_istore C eX0_keepPart_104 rfl (by decide) (lv' := [(0, .ref (ad 0)), (1, .int (zI ((k : Int) * 7))), (2, .int (zI (min (mnL (fun i => fx w (RE i).toNat) (w : Int) i) (fx w (RE i).toNat)))), (3, .int (zI (min (mnL (fun i => fy w (RE i).toNat) (h : Int) i) (fy w (RE i).toNat)))), (4, .int (zI (max (mxL (fun i => fx w (RE i).toNat) 0 i) (fx w (RE i).toNat)))), (5, .int (zI (mxL (fun i => fy w (RE i).toNat) 0 i))), (6, .int (zI (sumN (fun i => fx w (RE i).toNat) i))), (7, .int (zI (sumN (fun i => fy w (RE i).toNat) i))), (8, .int (zI (i : Int))), (9, .int (zI (fx w (RE i).toNat))), (10, .int (zI (fy w (RE i).toNat)))]) rfl ?_
      refine j_iload C eX0_keepPart_106 5 rfl ?_
      refine j_iload C eX0_keepPart_108 10 rfl ?_
      refine j_mmax C kmX0_keepPart_15.1 kmX0_keepPart_15.2.1 kmX0_keepPart_15.2.2.1 kmX0_keepPart_15.2.2.2 (Nat.le_of_ble_eq_true rfl) (Nat.le_of_ble_eq_true rfl) ⟨Nat.le_of_ble_eq_true rfl, Nat.le_of_ble_eq_true rfl⟩ (by omega) (by omega) eX0_keepPart_110 ?_
      refine j_istore C eX0_keepPart_113 rfl (by decide) (lv' := [(0, .ref (ad 0)), (1, .int (zI ((k : Int) * 7))), (2, .int (zI (min (mnL (fun i => fx w (RE i).toNat) (w : Int) i) (fx w (RE i).toNat)))), (3, .int (zI (min (mnL (fun i => fy w (RE i).toNat) (h : Int) i) (fy w (RE i).toNat)))), (4, .int (zI (max (mxL (fun i => fx w (RE i).toNat) 0 i) (fx w (RE i).toNat)))), (5, .int (zI (max (mxL (fun i => fy w (RE i).toNat) 0 i) (fy w (RE i).toNat)))), (6, .int (zI (sumN (fun i => fx w (RE i).toNat) i))), (7, .int (zI (sumN (fun i => fy w (RE i).toNat) i))), (8, .int (zI (i : Int))), (9, .int (zI (fx w (RE i).toNat))), (10, .int (zI (fy w (RE i).toNat)))]) rfl ?_
      refine j_iload C eX0_keepPart_115 6 rfl ?_
      refine j_iload C eX0_keepPart_117 9 rfl ?_
      refine j_iadd C eX0_keepPart_119 ?_
      refine j_istore C eX0_keepPart_120 rfl (by decide) (lv' := [(0, .ref (ad 0)), (1, .int (zI ((k : Int) * 7))), (2, .int (zI (min (mnL (fun i => fx w (RE i).toNat) (w : Int) i) (fx w (RE i).toNat)))), (3, .int (zI (min (mnL (fun i => fy w (RE i).toNat) (h : Int) i) (fy w (RE i).toNat)))), (4, .int (zI (max (mxL (fun i => fx w (RE i).toNat) 0 i) (fx w (RE i).toNat)))), (5, .int (zI (max (mxL (fun i => fy w (RE i).toNat) 0 i) (fy w (RE i).toNat)))), (6, .int (zI ((sumN (fun i => fx w (RE i).toNat) i) + (fx w (RE i).toNat)))), (7, .int (zI (sumN (fun i => fy w (RE i).toNat) i))), (8, .int (zI (i : Int))), (9, .int (zI (fx w (RE i).toNat))), (10, .int (zI (fy w (RE i).toNat)))]) rfl ?_
      refine j_iload C eX0_keepPart_122 7 rfl ?_
      refine j_iload C eX0_keepPart_124 10 rfl ?_
      refine j_iadd C eX0_keepPart_126 ?_
      refine j_istore C eX0_keepPart_127 rfl (by decide) (lv' := [(0, .ref (ad 0)), (1, .int (zI ((k : Int) * 7))), (2, .int (zI (min (mnL (fun i => fx w (RE i).toNat) (w : Int) i) (fx w (RE i).toNat)))), (3, .int (zI (min (mnL (fun i => fy w (RE i).toNat) (h : Int) i) (fy w (RE i).toNat)))), (4, .int (zI (max (mxL (fun i => fx w (RE i).toNat) 0 i) (fx w (RE i).toNat)))), (5, .int (zI (max (mxL (fun i => fy w (RE i).toNat) 0 i) (fy w (RE i).toNat)))), (6, .int (zI ((sumN (fun i => fx w (RE i).toNat) i) + (fx w (RE i).toNat)))), (7, .int (zI ((sumN (fun i => fy w (RE i).toNat) i) + (fy w (RE i).toNat)))), (8, .int (zI (i : Int))), (9, .int (zI (fx w (RE i).toNat))), (10, .int (zI (fy w (RE i).toNat)))]) rfl ?_
      refine j_iinc C eX0_keepPart_129 8 rfl rfl (by decide) (lv' := [(0, .ref (ad 0)), (1, .int (zI ((k : Int) * 7))), (2, .int (zI (min (mnL (fun i => fx w (RE i).toNat) (w : Int) i) (fx w (RE i).toNat)))), (3, .int (zI (min (mnL (fun i => fy w (RE i).toNat) (h : Int) i) (fy w (RE i).toNat)))), (4, .int (zI (max (mxL (fun i => fx w (RE i).toNat) 0 i) (fx w (RE i).toNat)))), (5, .int (zI (max (mxL (fun i => fy w (RE i).toNat) 0 i) (fy w (RE i).toNat)))), (6, .int (zI ((sumN (fun i => fx w (RE i).toNat) i) + (fx w (RE i).toNat)))), (7, .int (zI ((sumN (fun i => fy w (RE i).toNat) i) + (fy w (RE i).toNat)))), (8, .int (zI ((i : Int) + 1))), (9, .int (zI (fx w (RE i).toNat))), (10, .int (zI (fy w (RE i).toNat)))]) rfl ?_
      refine j_goto C 46 eX0_keepPart_132 (by decide) ?_
      refine j_loc [0, 1, 2, 3, 4, 5, 6, 7, 8] (lv' := [(0, .ref (ad 0)), (1, .int (zI ((k : Int) * 7))), (2, .int (zI (min (mnL (fun i => fx w (RE i).toNat) (w : Int) i) (fx w (RE i).toNat)))), (3, .int (zI (min (mnL (fun i => fy w (RE i).toNat) (h : Int) i) (fy w (RE i).toNat)))), (4, .int (zI (max (mxL (fun i => fx w (RE i).toNat) 0 i) (fx w (RE i).toNat)))), (5, .int (zI (max (mxL (fun i => fy w (RE i).toNat) 0 i) (fy w (RE i).toNat)))), (6, .int (zI ((sumN (fun i => fx w (RE i).toNat) i) + (fx w (RE i).toNat)))), (7, .int (zI ((sumN (fun i => fy w (RE i).toNat) i) + (fy w (RE i).toNat)))), (8, .int (zI ((i : Int) + 1)))]) rfl ?_
      exact ih (i + 1) (by omega) (by omega)
set_option maxHeartbeats 4000000 in
set_option maxRecDepth 100000 in
theorem ctX0_keepPart (l : Launch) (D : va_G) (cB cI cZ cL : ClassId) (ad : Nat → Nat) (w h : Nat) (hs : Sz w h) (aG aS : Nat) (G S CB SB DK DR RE PF PK CO : Nat → Int) (kn cn : Int) (r k : Nat) (hr9 : r ≤ w * h) (hRE : ∀ i, i < r → ∃ q : Nat, RE i = (q : Int) ∧ q < w * h) (hk : k + 1 ≤ w * h / 3) : mV l yX0_keepPart wsX0_keepPart rmX0_keepPart D vwCl (tyl cB cI cZ cL) [.ref (ad 0)] (wX cB cI cZ ad w h aG aS G S CB SB DK DR RE PF PK CO (r : Int) (k : Int) kn cn) 0 0 (fun w1 => ∃ PF' : Nat → Int, (∀ j, j < 7 → PF' (k * 7 + j) = facL w h RE r j) ∧ (∀ i, i < k * 7 → PF' i = PF i) ∧ w1 = wX cB cI cZ ad w h aG aS G S CB SB DK DR RE PF' PK CO (r : Int) ((k : Int) + 1) kn cn) := by
  refine mV_of (own := RX0) rfl (by decide) rfl (Nat.le_of_ble_eq_true rfl) ?_
  intro p e s m args below meth c C hr hlocks hname
  show J p l e rmX0_keepPart s m args below meth c _ 11 D vwCl _ 0 [(0, .ref (ad 0))] [] (wX cB cI cZ ad w h aG aS G S CB SB DK DR RE PF PK CO (r : Int) (k : Int) kn cn) 0 0
  have hm := hs.mul
  obtain ⟨h1, h2, h3, h4⟩ := id hs
  refine j_aload_n C eX0_keepPart_0 0 rfl ?_
  refine j_getf C hwsX0_keepPart 0 rfl rfl 11 (by decide) kX0_keepPart_85 rfl rfl eX0_keepPart_1 ?_
  refine j_bipush C eX0_keepPart_4 (by decide +kernel) ?_
  refine j_imul C eX0_keepPart_6 ?_
  refine j_istore_n C eX0_keepPart_7 rfl (by decide) (lv' := [(0, .ref (ad 0)), (1, .int (zI ((k : Int) * 7)))]) rfl ?_
  refine j_iload_n C eX0_keepPart_8 1 rfl ?_
  refine j_bipush C eX0_keepPart_9 (by decide +kernel) ?_
  refine j_iadd C eX0_keepPart_11 ?_
  refine j_aload_n C eX0_keepPart_12 0 rfl ?_
  refine j_getf C hwsX0_keepPart 0 rfl rfl 10 (by decide) kX0_keepPart_49 rfl rfl eX0_keepPart_13 ?_
  refine j_alen C 8 1 rfl rfl eX0_keepPart_16 ?_
  refine j_icmp_le C 21 eX0_keepPart_17 (by decide) (by omega) (by omega) (fun c17 => ?_) (fun c17 => ?_)
  ·
    refine j_aload_n C eX0_keepPart_21 0 rfl ?_
    refine j_getf C hwsX0_keepPart 0 rfl rfl 0 (by decide) kX0_keepPart_18 rfl rfl eX0_keepPart_22 ?_
    refine j_istore_n C eX0_keepPart_25 rfl (by decide) (lv' := [(0, .ref (ad 0)), (1, .int (zI ((k : Int) * 7))), (2, .int (zI (w : Int)))]) rfl ?_
    refine j_aload_n C eX0_keepPart_26 0 rfl ?_
    refine j_getf C hwsX0_keepPart 0 rfl rfl 1 (by decide) kX0_keepPart_22 rfl rfl eX0_keepPart_27 ?_
    refine j_istore_n C eX0_keepPart_30 rfl (by decide) (lv' := [(0, .ref (ad 0)), (1, .int (zI ((k : Int) * 7))), (2, .int (zI (w : Int))), (3, .int (zI (h : Int)))]) rfl ?_
    refine j_iconst C eX0_keepPart_31 ?_
    refine j_istore C eX0_keepPart_32 rfl (by decide) (lv' := [(0, .ref (ad 0)), (1, .int (zI ((k : Int) * 7))), (2, .int (zI (w : Int))), (3, .int (zI (h : Int))), (4, .int (zI 0))]) rfl ?_
    refine j_iconst C eX0_keepPart_34 ?_
    refine j_istore C eX0_keepPart_35 rfl (by decide) (lv' := [(0, .ref (ad 0)), (1, .int (zI ((k : Int) * 7))), (2, .int (zI (w : Int))), (3, .int (zI (h : Int))), (4, .int (zI 0)), (5, .int (zI 0))]) rfl ?_
    refine j_iconst C eX0_keepPart_37 ?_
    refine j_istore C eX0_keepPart_38 rfl (by decide) (lv' := [(0, .ref (ad 0)), (1, .int (zI ((k : Int) * 7))), (2, .int (zI (w : Int))), (3, .int (zI (h : Int))), (4, .int (zI 0)), (5, .int (zI 0)), (6, .int (zI 0))]) rfl ?_
    refine j_iconst C eX0_keepPart_40 ?_
    refine j_istore C eX0_keepPart_41 rfl (by decide) (lv' := [(0, .ref (ad 0)), (1, .int (zI ((k : Int) * 7))), (2, .int (zI (w : Int))), (3, .int (zI (h : Int))), (4, .int (zI 0)), (5, .int (zI 0)), (6, .int (zI 0)), (7, .int (zI 0))]) rfl ?_
    refine j_iconst C eX0_keepPart_43 ?_
    refine j_istore C eX0_keepPart_44 rfl (by decide) (lv' := [(0, .ref (ad 0)), (1, .int (zI ((k : Int) * 7))), (2, .int (zI (w : Int))), (3, .int (zI (h : Int))), (4, .int (zI 0)), (5, .int (zI 0)), (6, .int (zI 0)), (7, .int (zI 0)), (8, .int (zI 0))]) rfl ?_
    refine lpX0_keepPart C hs hr9 hRE ?_ (r + 1) 0 (by omega) (by omega)
    refine j_aload_n C eX0_keepPart_135 0 rfl ?_
    refine j_getf C hwsX0_keepPart 0 rfl rfl 10 (by decide) kX0_keepPart_49 rfl rfl eX0_keepPart_136 ?_
    refine j_iload_n C eX0_keepPart_139 1 rfl ?_
    refine j_iload_n C eX0_keepPart_140 2 rfl ?_
    refine j_iast C 8 1 rfl rfl (k * 7) (by push_cast; rfl) (by omega) (by omega) eX0_keepPart_141 (wd' := wX cB cI cZ ad w h aG aS G S CB SB DK DR RE (zup PF (k * 7) (mnL (fun i => fx w (RE i).toNat) (w : Int) r)) PK CO (r : Int) (k : Int) kn cn) rfl ?_
    refine j_aload_n C eX0_keepPart_142 0 rfl ?_
    refine j_getf C hwsX0_keepPart 0 rfl rfl 10 (by decide) kX0_keepPart_49 rfl rfl eX0_keepPart_143 ?_
    refine j_iload_n C eX0_keepPart_146 1 rfl ?_
    refine j_iconst C eX0_keepPart_147 ?_
    refine j_iadd C eX0_keepPart_148 ?_
    refine j_iload_n C eX0_keepPart_149 3 rfl ?_
    refine j_iast C 8 1 rfl rfl (k * 7 + 1) (by push_cast; rfl) (by omega) (by omega) eX0_keepPart_150 (wd' := wX cB cI cZ ad w h aG aS G S CB SB DK DR RE (zup (zup PF (k * 7) (mnL (fun i => fx w (RE i).toNat) (w : Int) r)) (k * 7 + 1) (mnL (fun i => fy w (RE i).toNat) (h : Int) r)) PK CO (r : Int) (k : Int) kn cn) rfl ?_
    refine j_aload_n C eX0_keepPart_151 0 rfl ?_
    refine j_getf C hwsX0_keepPart 0 rfl rfl 10 (by decide) kX0_keepPart_49 rfl rfl eX0_keepPart_152 ?_
    refine j_iload_n C eX0_keepPart_155 1 rfl ?_
    refine j_iconst C eX0_keepPart_156 ?_
    refine j_iadd C eX0_keepPart_157 ?_
    refine j_iload C eX0_keepPart_158 4 rfl ?_
    refine j_iast C 8 1 rfl rfl (k * 7 + 2) (by push_cast; rfl) (by omega) (by omega) eX0_keepPart_160 (wd' := wX cB cI cZ ad w h aG aS G S CB SB DK DR RE (zup (zup (zup PF (k * 7) (mnL (fun i => fx w (RE i).toNat) (w : Int) r)) (k * 7 + 1) (mnL (fun i => fy w (RE i).toNat) (h : Int) r)) (k * 7 + 2) (mxL (fun i => fx w (RE i).toNat) 0 r)) PK CO (r : Int) (k : Int) kn cn) rfl ?_
    refine j_aload_n C eX0_keepPart_161 0 rfl ?_
    refine j_getf C hwsX0_keepPart 0 rfl rfl 10 (by decide) kX0_keepPart_49 rfl rfl eX0_keepPart_162 ?_
    refine j_iload_n C eX0_keepPart_165 1 rfl ?_
    refine j_iconst C eX0_keepPart_166 ?_
    refine j_iadd C eX0_keepPart_167 ?_
    refine j_iload C eX0_keepPart_168 5 rfl ?_
    refine j_iast C 8 1 rfl rfl (k * 7 + 3) (by push_cast; rfl) (by omega) (by omega) eX0_keepPart_170 (wd' := wX cB cI cZ ad w h aG aS G S CB SB DK DR RE (zup (zup (zup (zup PF (k * 7) (mnL (fun i => fx w (RE i).toNat) (w : Int) r)) (k * 7 + 1) (mnL (fun i => fy w (RE i).toNat) (h : Int) r)) (k * 7 + 2) (mxL (fun i => fx w (RE i).toNat) 0 r)) (k * 7 + 3) (mxL (fun i => fy w (RE i).toNat) 0 r)) PK CO (r : Int) (k : Int) kn cn) rfl ?_
    refine j_aload_n C eX0_keepPart_171 0 rfl ?_
    refine j_getf C hwsX0_keepPart 0 rfl rfl 10 (by decide) kX0_keepPart_49 rfl rfl eX0_keepPart_172 ?_
    refine j_iload_n C eX0_keepPart_175 1 rfl ?_
    refine j_iconst C eX0_keepPart_176 ?_
    refine j_iadd C eX0_keepPart_177 ?_
    refine j_aload_n C eX0_keepPart_178 0 rfl ?_
    refine j_getf C hwsX0_keepPart 0 rfl rfl 9 (by decide) kX0_keepPart_92 rfl rfl eX0_keepPart_179 ?_
    refine j_iast C 8 1 rfl rfl (k * 7 + 4) (by push_cast; rfl) (by omega) (by omega) eX0_keepPart_182 (wd' := wX cB cI cZ ad w h aG aS G S CB SB DK DR RE (zup (zup (zup (zup (zup PF (k * 7) (mnL (fun i => fx w (RE i).toNat) (w : Int) r)) (k * 7 + 1) (mnL (fun i => fy w (RE i).toNat) (h : Int) r)) (k * 7 + 2) (mxL (fun i => fx w (RE i).toNat) 0 r)) (k * 7 + 3) (mxL (fun i => fy w (RE i).toNat) 0 r)) (k * 7 + 4) (r : Int)) PK CO (r : Int) (k : Int) kn cn) rfl ?_
    refine j_aload_n C eX0_keepPart_183 0 rfl ?_
    refine j_getf C hwsX0_keepPart 0 rfl rfl 10 (by decide) kX0_keepPart_49 rfl rfl eX0_keepPart_184 ?_
    refine j_iload_n C eX0_keepPart_187 1 rfl ?_
    refine j_iconst C eX0_keepPart_188 ?_
    refine j_iadd C eX0_keepPart_189 ?_
    refine j_iload C eX0_keepPart_190 6 rfl ?_
    refine j_iast C 8 1 rfl rfl (k * 7 + 5) (by push_cast; rfl) (by omega) (by omega) eX0_keepPart_192 (wd' := wX cB cI cZ ad w h aG aS G S CB SB DK DR RE (zup (zup (zup (zup (zup (zup PF (k * 7) (mnL (fun i => fx w (RE i).toNat) (w : Int) r)) (k * 7 + 1) (mnL (fun i => fy w (RE i).toNat) (h : Int) r)) (k * 7 + 2) (mxL (fun i => fx w (RE i).toNat) 0 r)) (k * 7 + 3) (mxL (fun i => fy w (RE i).toNat) 0 r)) (k * 7 + 4) (r : Int)) (k * 7 + 5) (sumN (fun i => fx w (RE i).toNat) r)) PK CO (r : Int) (k : Int) kn cn) rfl ?_
    refine j_aload_n C eX0_keepPart_193 0 rfl ?_
    refine j_getf C hwsX0_keepPart 0 rfl rfl 10 (by decide) kX0_keepPart_49 rfl rfl eX0_keepPart_194 ?_
    refine j_iload_n C eX0_keepPart_197 1 rfl ?_
    refine j_bipush C eX0_keepPart_198 (by decide +kernel) ?_
    refine j_iadd C eX0_keepPart_200 ?_
    refine j_iload C eX0_keepPart_201 7 rfl ?_
    refine j_iast C 8 1 rfl rfl (k * 7 + 6) (by push_cast; rfl) (by omega) (by omega) eX0_keepPart_203 (wd' := wX cB cI cZ ad w h aG aS G S CB SB DK DR RE (zup (zup (zup (zup (zup (zup (zup PF (k * 7) (mnL (fun i => fx w (RE i).toNat) (w : Int) r)) (k * 7 + 1) (mnL (fun i => fy w (RE i).toNat) (h : Int) r)) (k * 7 + 2) (mxL (fun i => fx w (RE i).toNat) 0 r)) (k * 7 + 3) (mxL (fun i => fy w (RE i).toNat) 0 r)) (k * 7 + 4) (r : Int)) (k * 7 + 5) (sumN (fun i => fx w (RE i).toNat) r)) (k * 7 + 6) (sumN (fun i => fy w (RE i).toNat) r)) PK CO (r : Int) (k : Int) kn cn) rfl ?_
    refine j_aload_n C eX0_keepPart_204 0 rfl ?_
    refine j_dup C eX0_keepPart_205 rfl ?_
    refine j_getf C hwsX0_keepPart 0 rfl rfl 11 (by decide) kX0_keepPart_85 rfl rfl eX0_keepPart_206 ?_
    refine j_iconst C eX0_keepPart_209 ?_
    refine j_iadd C eX0_keepPart_210 ?_
    refine j_putf C hwsX0_keepPart tyX0 tyX0_ok nmX0 0 rfl rfl 11 (by decide) kX0_keepPart_85 rfl rfl (tyX0_ok 11 (by decide)) rfl rfl (Nat.le_of_ble_eq_true rfl) eX0_keepPart_211 (wd' := wX cB cI cZ ad w h aG aS G S CB SB DK DR RE (zup (zup (zup (zup (zup (zup (zup PF (k * 7) (mnL (fun i => fx w (RE i).toNat) (w : Int) r)) (k * 7 + 1) (mnL (fun i => fy w (RE i).toNat) (h : Int) r)) (k * 7 + 2) (mxL (fun i => fx w (RE i).toNat) 0 r)) (k * 7 + 3) (mxL (fun i => fy w (RE i).toNat) 0 r)) (k * 7 + 4) (r : Int)) (k * 7 + 5) (sumN (fun i => fx w (RE i).toNat) r)) (k * 7 + 6) (sumN (fun i => fy w (RE i).toNat) r)) PK CO (r : Int) ((k : Int) + 1) kn cn) rfl ?_
    exact j_vret C hr hlocks eX0_keepPart_214 ⟨_, fun j hj => by
      have hj2 : j = 0 ∨ j = 1 ∨ j = 2 ∨ j = 3 ∨ j = 4 ∨ j = 5 ∨ j = 6 := by omega
      rcases hj2 with rfl | rfl | rfl | rfl | rfl | rfl | rfl
      · rw [zup_n (by omega), zup_n (by omega), zup_n (by omega), zup_n (by omega), zup_n (by omega), zup_n (by omega)]; exact zup_s
      · rw [zup_n (by omega), zup_n (by omega), zup_n (by omega), zup_n (by omega), zup_n (by omega)]; exact zup_s
      · rw [zup_n (by omega), zup_n (by omega), zup_n (by omega), zup_n (by omega)]; exact zup_s
      · rw [zup_n (by omega), zup_n (by omega), zup_n (by omega)]; exact zup_s
      · rw [zup_n (by omega), zup_n (by omega)]; exact zup_s
      · rw [zup_n (by omega)]; exact zup_s
      · exact zup_s, fun i hi => by rw [zup_n (by omega), zup_n (by omega), zup_n (by omega), zup_n (by omega), zup_n (by omega), zup_n (by omega), zup_n (by omega)], rfl⟩
  ·
    exact absurd c17 (by omega)
theorem hwsX0_parts : ∀ w ∈ u_ws RX0 TX0 16, w ∈ wsX0_parts := fun _ h => List.mem_cons_of_mem _ (List.mem_append_right _ h)
theorem kX0_parts_39 : Cond.fieldLink RX0 39 "SheetRows" (TX0 6).2.1 (TX0 6).2.2.1 ∈ wsX0_parts := by decide +kernel
theorem kX0_parts_85 : Cond.fieldLink RX0 85 "SheetRows" (TX0 11).2.1 (TX0 11).2.2.1 ∈ wsX0_parts := by decide +kernel
theorem kX0_parts_92 : Cond.fieldLink RX0 92 "SheetRows" (TX0 9).2.1 (TX0 9).2.2.1 ∈ wsX0_parts := by decide +kernel
abbrev rmX0_parts : Room := { frames := 4, cells := 0, slots := 0, locals := 96 }
/-- the next place: dark no more, or its part is taken away whole -/
theorem pt_next {w n q : Nat} {Dd DK DK' : Nat → Int} (hq : q < n) (hJ : ∀ b, b < n → (DK b = 1 ↔ Dd b = 1 ∧ ∀ j, j < q → Dd j = 1 → ¬ con w n Dd j b)) (hDd : ∀ b, n ≤ b → Dd b = 0) (hd : DK q = 1) (hK : ∀ b, b < n → (DK' b = 1 ↔ DK b = 1 ∧ ¬ con w n DK q b)) :
    (∀ b, con w n DK q b ↔ con w n Dd q b) ∧ (∀ b, b < n → (DK' b = 1 ↔ Dd b = 1 ∧ ∀ j, j < q + 1 → Dd j = 1 → ¬ con w n Dd j b)) ∧ fstp w n Dd q ∧ ∀ b, b < n → cmp w n DK q b = cmp w n Dd q b := by
  have hcl : ∀ a b, a < n → b < n → DK a = 1 → Dd b = 1 → adj w a b → DK b = 1 := fun a b ha hb da db hab => by
    have h1 := (hJ a ha).mp da
    refine (hJ b hb).mpr ⟨db, fun j hj dj hc => h1.2 j hj dj (con_step hc hb ha db h1.1 (adj_symm hab))⟩
  have hcon : ∀ b, con w n DK q b ↔ con w n Dd q b := fun b => con_same (fun a ha da => ((hJ a ha).mp da).1) hcl hd
  have hq1 := (hJ q hq).mp hd
  refine ⟨hcon, fun b hb => ?_, ⟨hq1.1, fun j hj => ind_0 (fun z => hq1.2 j hj z.1 (con_symm z.2))⟩, fun b hb => ?_⟩
  · rw [hK b hb, hJ b hb, hcon b]
    constructor
    · rintro ⟨⟨z1, z2⟩, z3⟩
      refine ⟨z1, fun j hj dj => ?_⟩
      by_cases e : j = q
      · subst e; exact z3
      · exact z2 j (by omega) dj
    · rintro ⟨z1, z2⟩
      exact ⟨⟨z1, fun j hj dj => z2 j (by omega) dj⟩, z2 q (by omega) hq1.1⟩
  · by_cases z : Dd b = 1 ∧ con w n Dd q b
    · have d1 := con_dark ((hcon b).mpr z.2) hd hq
      unfold cmp
      rw [ind_1 z, ind_1 ⟨d1.1, (hcon b).mpr z.2⟩]
    · unfold cmp
      rw [ind_0 z, ind_0 (fun y => z ⟨((hJ b hb).mp y.1).1, (hcon b).mp y.2⟩)]
theorem pt_skip {w n q : Nat} {Dd DK : Nat → Int} (hq : q < n) (hJ : ∀ b, b < n → (DK b = 1 ↔ Dd b = 1 ∧ ∀ j, j < q → Dd j = 1 → ¬ con w n Dd j b)) (hd : DK q ≠ 1) :
    (∀ b, b < n → (DK b = 1 ↔ Dd b = 1 ∧ ∀ j, j < q + 1 → Dd j = 1 → ¬ con w n Dd j b)) ∧ ¬ fstp w n Dd q := by
  have hno : Dd q = 1 → ∃ j, j < q ∧ Dd j = 1 ∧ con w n Dd j q := fun h1 => by
    refine Classical.byContradiction (fun hx => hd ((hJ q hq).mpr ⟨h1, fun j hj dj hc => hx ⟨j, hj, dj, hc⟩⟩))
  refine ⟨fun b hb => ?_, fun hf => ?_⟩
  · rw [hJ b hb]
    constructor
    · rintro ⟨z1, z2⟩
      refine ⟨z1, fun j hj dj => ?_⟩
      by_cases e : j = q
      · subst e
        obtain ⟨j', a1, a2, a3⟩ := hno dj
        exact fun hc => z2 j' a1 a2 (con_trans a3 hc)
      · exact z2 j (by omega) dj
    · rintro ⟨z1, z2⟩
      exact ⟨z1, fun j hj dj => z2 j (by omega) dj⟩
  · obtain ⟨j', a1, a2, a3⟩ := hno hf.1
    have h2 := hf.2 j' a1
    have h3 : cmp w n Dd q j' = 1 := ind_1 ⟨a2, con_symm a3⟩
    omega
set_option maxHeartbeats 4000000 in
set_option maxRecDepth 100000 in
theorem lpX0_parts {p : Program} {l : Launch} {e : Env} {s : State} {m : MethodId} {args : Array Value} {below : List Frame} {meth : Method} {c : Code} {Q : State → Prop} {D : va_G} {A : Nat → Prop} {cB cI cZ cL : ClassId} {w h : Nat} {ad : Nat → Nat} {aG aS : Nat} {G S CB SB DR PK CO : Nat → Int} {kn cn : Int} (C : JC p m c cX0_parts 2 s args wsX0_parts RX0 D vwCl (tyl cB cI cZ cL) A) (hs : Sz w h) {Dd : Nat → Int} (hDd : ∀ b, w * h ≤ b → Dd b = 0) (kx : ∀ (DK RE PF : Nat → Int) (rc : Int), tdp w h (w * h) Dd (w * h) PF → 3 * ((cnb w (w * h) Dd (w * h) : Nat) : Int) ≤ ((w * h : Nat) : Int) → J p l e rmX0_parts s m args below meth c Q 2 D vwCl A 52 [(0, .ref (ad 0)), (1, .int (zI ((w * h) : Int)))] [] (wX cB cI cZ ad w h aG aS G S CB SB DK DR RE PF PK CO rc ((cnb w (w * h) Dd (w * h) : Nat) : Int) kn cn) 0 0) : ∀ (n q : Nat) (DK RE PF : Nat → Int) (rc : Int), q ≤ w * h → w * h - q < n → (∀ b, b < w * h → DK b = 0 ∨ DK b = 1) → (∀ b, b < w * h → (DK b = 1 ↔ Dd b = 1 ∧ ∀ j, j < q → Dd j = 1 → ¬ con w (w * h) Dd j b)) → tdp w h (w * h) Dd q PF → 3 * ((cnb w (w * h) Dd q : Nat) : Int) + sumN DK (w * h) ≤ ((w * h : Nat) : Int) → J p l e rmX0_parts s m args below meth c Q 2 D vwCl A 11 [(0, .ref (ad 0)), (1, .int (zI (q : Int)))] [] (wX cB cI cZ ad w h aG aS G S CB SB DK DR RE PF PK CO rc ((cnb w (w * h) Dd q : Nat) : Int) kn cn) 0 0 := by
  have hm := hs.mul
  obtain ⟨h1, h2, h3, h4⟩ := id hs
  intro n
  induction n with
  | zero => intro q DK RE PF rc _ hn; exact absurd hn (Nat.not_lt_zero _)
  | succ n ih =>
    intro q DK RE PF rc hq hn h01 hJ hT h3n
    have hnn := sumN_nn (f := DK) (n := w * h) (fun k hk => by have := h01 k hk; omega)
    refine j_iload_n C eX0_parts_11 1 rfl ?_
    refine j_aload_n C eX0_parts_12 0 rfl ?_
    refine j_getf C hwsX0_parts 0 rfl rfl 6 (by decide) kX0_parts_39 rfl rfl eX0_parts_13 ?_
    refine j_alen C 5 2 rfl rfl eX0_parts_16 ?_
    refine j_icmp_ge C 52 eX0_parts_17 (by decide) (by omega) (by omega) (fun c17 => ?_) (fun c17 => ?_)
    ·
      have he : q = w * h := by omega
      subst he
      exact kx DK RE PF rc hT (by omega)
    ·
      have hq01 := h01 q (by omega)
      refine j_aload_n C eX0_parts_20 0 rfl ?_
      refine j_getf C hwsX0_parts 0 rfl rfl 6 (by decide) kX0_parts_39 rfl rfl eX0_parts_21 ?_
      refine j_iload_n C eX0_parts_24 1 rfl ?_
      refine j_zald C 5 2 rfl rfl q rfl (by omega) (by omega) eX0_parts_25 ?_
      refine j_if_eq C 46 eX0_parts_26 (by decide) (by omega) (fun c26 => ?_) (fun c26 => ?_)
      ·
        refine j_iinc C eX0_parts_46 1 rfl rfl (by decide) (lv' := [(0, .ref (ad 0)), (1, .int (zI ((q : Int) + 1)))]) rfl ?_
        refine j_goto C 11 eX0_parts_49 (by decide) ?_
        obtain ⟨b2, b3⟩ := pt_skip (by omega) hJ (by omega)
        have hbig : ¬ big w (w * h) Dd q := fun z => b3 z.1
        have hcy := cnb_n hbig
        have hb9 := ih (q + 1) DK RE PF rc (by omega) (by omega) h01 b2 (fun k hk hbk j hj => by
          by_cases e : k = q
          · subst e; exact absurd hbk hbig
          · exact hT k (by omega) hbk j hj) (by rw [hcy]; omega)
        rw [hcy] at hb9
        exact hb9
      ·
        refine j_aload_n C eX0_parts_29 0 rfl ?_
        refine j_iload_n C eX0_parts_30 1 rfl ?_
        have hdq : DK q = 1 := by have := h01 q (by omega); omega
        refine j_callVv C (As := [.int (zI (q : Int))]) (rest := []) (ctX0_reachPart l D cB cI cZ cL ad w h hs aG aS G S CB SB DK DR RE PF PK CO rc ((cnb w (w * h) Dd q : Nat) : Int) kn cn q (by omega) h01 hdq) (cwV 1 C.1.2.2.2.2 gX0_parts_X0_reachPart rfl rfl rfl (by decide +kernel) ⟨Nat.le_of_ble_eq_true rfl, Nat.le_of_ble_eq_true rfl⟩) [0, 1, 2, 3, 4, 5, 6, 7, 8, 9, 10] [] (wr := []) rfl (by decide) rfl (by decide) (by decide) 0 rfl rfl rfl rfl (Nat.le_of_ble_eq_true rfl) eX0_parts_31 ⟨Nat.le_of_ble_eq_true rfl, Nat.le_of_ble_eq_true rfl⟩ (fun w1 hp => ?_)
        obtain ⟨DK', RE', r', a1, a2, a3, a4, a5, rfl⟩ := hp
        rw [List.nil_append]
        obtain ⟨b1, b2, b3, b4⟩ := pt_next (by omega) hJ hDd hdq a2
        have hcq : sumN (cmp w (w * h) Dd q) (w * h) = (r' : Int) := by
          have z1 := a1.2.2 (fun _ => 1)
          rw [sumN_c] at z1
          have z2 : sumN (fun q' => cmp w (w * h) DK q q' * 1) (w * h) = sumN (cmp w (w * h) Dd q) (w * h) := sumN_congr (fun k hk => by rw [Int.mul_one, b4 k hk])
          omega
        have hnn' := sumN_nn (f := DK') (n := w * h) (fun k hk => by have := a3 k hk; omega)
        refine j_aload_n C eX0_parts_34 0 rfl ?_
        refine j_getf C hwsX0_parts 0 rfl rfl 9 (by decide) kX0_parts_92 rfl rfl eX0_parts_35 ?_
        refine j_iconst C eX0_parts_38 ?_
        refine j_icmp_lt C 46 eX0_parts_39 (by decide) (by omega) (by omega) (fun c39 => ?_) (fun c39 => ?_)
        ·
          refine j_iinc C eX0_parts_46 1 rfl rfl (by decide) (lv' := [(0, .ref (ad 0)), (1, .int (zI ((q : Int) + 1)))]) rfl ?_
          refine j_goto C 11 eX0_parts_49 (by decide) ?_
          have hbig : ¬ big w (w * h) Dd q := fun z => by have := z.2; omega
          have hcy := cnb_n hbig
          have hb9 := ih (q + 1) DK' RE' PF (r' : Int) (by omega) (by omega) a3 b2 (fun k hk hbk j hj => by
            by_cases e : k = q
            · subst e; exact absurd hbk hbig
            · exact hT k (by omega) hbk j hj) (by rw [hcy]; omega)
          rw [hcy] at hb9
          exact hb9
        ·
          refine j_aload_n C eX0_parts_42 0 rfl ?_
          refine j_callVv C (As := []) (rest := []) (ctX0_keepPart l D cB cI cZ cL ad w h hs aG aS G S CB SB DK' DR RE' PF PK CO kn cn r' (cnb w (w * h) Dd q) (by omega) (fun i hi => by obtain ⟨q', e1, e2, e3⟩ := a1.1 i hi; exact ⟨q', e1, e2⟩) (by omega)) (cwV 0 C.1.2.2.2.2 gX0_parts_X0_keepPart rfl rfl rfl (by decide +kernel) ⟨Nat.le_of_ble_eq_true rfl, Nat.le_of_ble_eq_true rfl⟩) [0, 1, 2, 3, 4, 5, 6, 7, 8, 9, 10] [] (wr := []) rfl (by decide) rfl (by decide) (by decide) 0 rfl rfl rfl rfl (Nat.le_of_ble_eq_true rfl) eX0_parts_43 ⟨Nat.le_of_ble_eq_true rfl, Nat.le_of_ble_eq_true rfl⟩ (fun w1 hp => ?_)
          obtain ⟨PF', p1, p2, rfl⟩ := hp
          rw [List.nil_append]
          refine j_iinc C eX0_parts_46 1 rfl rfl (by decide) (lv' := [(0, .ref (ad 0)), (1, .int (zI ((q : Int) + 1)))]) rfl ?_
          refine j_goto C 11 eX0_parts_49 (by decide) ?_
          have hbig : big w (w * h) Dd q := ⟨b3, by omega⟩
          have hcy := cnb_y hbig
          have hb9 := ih (q + 1) DK' RE' PF' (r' : Int) (by omega) (by omega) a3 b2 (fun k hk hbk j hj => by
            by_cases e : k = q
            · subst e
              rw [p1 j hj, facL_eq a1 a4 hj]
              exact fac_congr (fun q' hq' => b4 q' hq') j
            · have hl := cnb_lt hbk (q := q) (by omega)
              rw [p2 _ (by omega)]
              exact hT k (by omega) hbk j hj) (by rw [hcy]; omega)
          rw [hcy] at hb9
          exact hb9
set_option maxHeartbeats 4000000 in
set_option maxRecDepth 100000 in
theorem ctX0_parts (l : Launch) (D : va_G) (cB cI cZ cL : ClassId) (ad : Nat → Nat) (w h : Nat) (hs : Sz w h) (aG aS : Nat) (G S CB SB DK DR RE PF PK CO : Nat → Int) (rc pn kn cn : Int)  : mI l yX0_parts wsX0_parts rmX0_parts D vwCl (tyl cB cI cZ cL) [.ref (ad 0)] (wX cB cI cZ ad w h aG aS G S CB SB DK DR RE PF PK CO rc pn kn cn) 0 0 (fun z w1 => ∃ (CB' SB' DK' RE' PF' : Nat → Int) (rc' : Int), tdp w h (w * h) (dkn (fun k => G k % 256) (w * h)) (w * h) PF' ∧ 3 * ((cnb w (w * h) (dkn (fun k => G k % 256) (w * h)) (w * h) : Nat) : Int) ≤ ((w * h : Nat) : Int) ∧ z = ((cnb w (w * h) (dkn (fun k => G k % 256) (w * h)) (w * h) : Nat) : Int) ∧ w1 = wX cB cI cZ ad w h aG aS G S CB' SB' DK' DR RE' PF' PK CO rc' ((cnb w (w * h) (dkn (fun k => G k % 256) (w * h)) (w * h) : Nat) : Int) kn cn) := by
  refine mI_of (own := RX0) rfl (by decide) rfl (Nat.le_of_ble_eq_true rfl) ?_
  intro p e s m args below meth c C hr hlocks hname
  show J p l e rmX0_parts s m args below meth c _ 2 D vwCl _ 0 [(0, .ref (ad 0))] [] (wX cB cI cZ ad w h aG aS G S CB SB DK DR RE PF PK CO rc pn kn cn) 0 0
  have hm := hs.mul
  refine j_aload_n C eX0_parts_0 0 rfl ?_
  refine j_callVv C (As := []) (rest := []) (ctX0_markDark l D cB cI cZ cL ad w h hs aG aS G S CB SB DK DR RE PF PK CO rc pn kn cn ) (cwV 0 C.1.2.2.2.2 gX0_parts_X0_markDark rfl rfl rfl (by decide +kernel) ⟨Nat.le_of_ble_eq_true rfl, Nat.le_of_ble_eq_true rfl⟩) [0, 1, 2, 3, 4, 5, 6, 7, 8, 9, 10] [] (wr := []) rfl (by decide) rfl (by decide) (by decide) 0 rfl rfl rfl rfl (Nat.le_of_ble_eq_true rfl) eX0_parts_1 ⟨Nat.le_of_ble_eq_true rfl, Nat.le_of_ble_eq_true rfl⟩ (fun w1 hp => ?_)
  obtain ⟨CB1, SB1, DK1, hDK1, rfl⟩ := hp
  rw [List.nil_append]
  have h01 : ∀ k, k < w * h → DK1 k = 0 ∨ DK1 k = 1 := fun k hk => by rw [hDK1 k hk]; exact dkf_01 _ _ _
  have hs0 : sumN DK1 (w * h) ≤ ((w * h : Nat) : Int) := by
    have := sumN_le (f := DK1) (g := fun _ => 1) (n := w * h) (fun k hk => by have := h01 k hk; omega)
    rw [sumN_c] at this
    omega
  refine j_aload_n C eX0_parts_4 0 rfl ?_
  refine j_iconst C eX0_parts_5 ?_
  refine j_putf C hwsX0_parts tyX0 tyX0_ok nmX0 0 rfl rfl 11 (by decide) kX0_parts_85 rfl rfl (tyX0_ok 11 (by decide)) rfl rfl (Nat.le_of_ble_eq_true rfl) eX0_parts_6 (wd' := wX cB cI cZ ad w h aG aS G S CB1 SB1 DK1 DR RE PF PK CO rc 0 kn cn) rfl ?_
  refine j_iconst C eX0_parts_9 ?_
  refine j_istore_n C eX0_parts_10 rfl (by decide) (lv' := [(0, .ref (ad 0)), (1, .int (zI 0))]) rfl ?_
  refine lpX0_parts C hs (Dd := (dkn (fun k => G k % 256) (w * h))) (fun b hb => if_neg (by omega)) (fun DK' RE' PF' rc' hT' h3' => ?_) (w * h + 1) 0 DK1 RE PF rc (by omega) (by omega) h01 (fun b hb => by rw [hDK1 b hb, dkn_in hb]; exact ⟨fun z => ⟨z, fun j hj => absurd hj (Nat.not_lt_zero _)⟩, fun z => z.1⟩) (fun k hk => absurd hk (Nat.not_lt_zero _)) (by show 3 * ((0 : Nat) : Int) + _ ≤ _; omega)
  refine j_aload_n C eX0_parts_52 0 rfl ?_
  refine j_getf C hwsX0_parts 0 rfl rfl 11 (by decide) kX0_parts_85 rfl rfl eX0_parts_53 ?_
  exact j_iret C hr hlocks rfl eX0_parts_56 ⟨CB1, SB1, DK', RE', PF', rc', hT', h3', rfl, rfl⟩
