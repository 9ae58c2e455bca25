/-! THE CLASS: tally, spread, threshold, dark -/
abbrev ivt (g : Nat → Int) (n : Nat) : Prop := (n : Int) < 2 * sumN (hst g n) (thr g n + 1)
/-- 1 where a grey is dark -/
noncomputable def dkf (g : Nat → Int) (n k : Nat) : Int := if (g k ≤ ((thr g n : Nat) : Int) ↔ ¬ ivt g n) then 1 else 0
theorem ivt_congr {g g' : Nat → Int} {n : Nat} (h : ∀ k, k < n → g k = g' k) : ivt g n ↔ ivt g' n := by
  unfold ivt
  rw [hst_congr h, thr_congr h]
theorem dkf_congr {g g' : Nat → Int} {n : Nat} (h : ∀ k, k < n → g k = g' k) {k : Nat} (hk : k < n) : dkf g n k = dkf g' n k := by
  unfold dkf
  have e := ivt_congr h
  have e1 := thr_congr h
  have e2 := h k hk
  by_cases c : (g k ≤ ((thr g n : Nat) : Int) ↔ ¬ ivt g n)
  · rw [if_pos c, if_pos]
    rw [← e1, ← e2]
    exact c.trans (not_congr e)
  · rw [if_neg c, if_neg]
    intro q
    rw [← e1, ← e2] at q
    exact c (q.trans (not_congr e.symm))
theorem dkf_01 (g : Nat → Int) (n k : Nat) : dkf g n k = 0 ∨ dkf g n k = 1 := by unfold dkf; split <;> simp
theorem hwsX0_tallyGreys : ∀ w ∈ u_ws RX0 TX0 16, w ∈ wsX0_tallyGreys := fun _ h => List.mem_cons_of_mem _ (List.mem_append_right _ h)
theorem kX0_tallyGreys_25 : Cond.fieldLink RX0 25 "SheetRows" (TX0 2).2.1 (TX0 2).2.2.1 ∈ wsX0_tallyGreys := by decide +kernel
theorem kX0_tallyGreys_32 : Cond.fieldLink RX0 32 "SheetRows" (TX0 4).2.1 (TX0 4).2.2.1 ∈ wsX0_tallyGreys := by decide +kernel
theorem kX0_tallyGreys_36 : Cond.fieldLink RX0 36 "SheetRows" (TX0 5).2.1 (TX0 5).2.2.1 ∈ wsX0_tallyGreys := by decide +kernel
abbrev rmX0_tallyGreys : Room := { frames := 1, cells := 0, slots := 0, locals := 23 }
set_option maxHeartbeats 4000000 in
set_option maxRecDepth 100000 in
theorem lqX0_tallyGreys {p : Program} {l : Launch} {e : Env} {s : State} {m : MethodId} {args : Array Value} {below : List Frame} {meth : Method} {c : Code} {Q : State → Prop} {D : va_G} {A : Nat → Prop} {cB cI cZ cL : ClassId} {w h : Nat} {ad : Nat → Nat} {aG aS : Nat} {G S SB DK DR RE PF PK CO : Nat → Int} {rc pn kn cn : Int} (C : JC p m c cX0_tallyGreys 2 s args wsX0_tallyGreys RX0 D vwCl (tyl cB cI cZ cL) A) (hs : Sz w h) (kx : ∀ CB : Nat → Int, CB 0 = 0 → (∀ v, v < 256 → CB (v + 1) = hst (fun k => G k % 256) (w * h) v) → J p l e rmX0_tallyGreys s m args below meth c Q 2 D vwCl A 46 [(0, .ref (ad 0)), (1, .int (zI ((w * h) : Int)))] [] (wX cB cI cZ ad w h aG aS G S CB SB DK DR RE PF PK CO rc pn kn cn) 0 0) : ∀ (n i : Nat) (CB : Nat → Int), i ≤ w * h → w * h - i < n → CB 0 = 0 → (∀ v, v < 256 → CB (v + 1) = hst (fun k => G k % 256) i v) → J p l e rmX0_tallyGreys s m args below meth c Q 2 D vwCl A 10 [(0, .ref (ad 0)), (1, .int (zI (i : Int)))] [] (wX cB cI cZ ad w h aG aS G S CB SB DK DR RE PF PK CO rc pn kn cn) 0 0 := by
  have hm := hs.mul
  intro n
  induction n with
  | zero => intro i CB _ hn; exact absurd hn (Nat.not_lt_zero _)
  | succ n ih =>
    intro i CB hi hn h0 hCB
    refine j_iload_n C eX0_tallyGreys_10 1 rfl ?_
    refine j_aload_n C eX0_tallyGreys_11 0 rfl ?_
    refine j_getf C hwsX0_tallyGreys 0 rfl rfl 2 (by decide) kX0_tallyGreys_25 rfl rfl eX0_tallyGreys_12 ?_
    refine j_alen C 1 0 rfl rfl eX0_tallyGreys_15 ?_
    refine j_icmp_ge C 46 eX0_tallyGreys_16 (by decide) (by omega) (by omega) (fun c16 => ?_) (fun c16 => ?_)
    ·
      have he : i = w * h := by omega
      subst he
      exact kx CB h0 hCB
    ·
      refine j_aload_n C eX0_tallyGreys_19 0 rfl ?_
      refine j_getf C hwsX0_tallyGreys 0 rfl rfl 4 (by decide) kX0_tallyGreys_32 rfl rfl eX0_tallyGreys_20 ?_
      refine j_aload_n C eX0_tallyGreys_23 0 rfl ?_
      refine j_getf C hwsX0_tallyGreys 0 rfl rfl 2 (by decide) kX0_tallyGreys_25 rfl rfl eX0_tallyGreys_24 ?_
      refine j_iload_n C eX0_tallyGreys_27 1 rfl ?_
      refine j_bald C 1 0 rfl rfl i rfl (by omega) (by omega) eX0_tallyGreys_28 ?_
      refine j_sipush C eX0_tallyGreys_29 (by decide +kernel) ?_
      refine j_and255 C eX0_tallyGreys_32 ?_
      refine j_iconst C eX0_tallyGreys_33 ?_
      refine j_iadd C eX0_tallyGreys_34 ?_
      refine j_dup2 C eX0_tallyGreys_35 rfl rfl ?_
      refine j_iald C 3 1 rfl rfl ((G i % 256).toNat + 1) (by omega) (by omega) (by omega) eX0_tallyGreys_36 ?_
      refine j_iconst C eX0_tallyGreys_37 ?_
      refine j_iadd C eX0_tallyGreys_38 ?_
      refine j_iast C 3 1 rfl rfl ((G i % 256).toNat + 1) (by omega) (by omega) (by omega) eX0_tallyGreys_39 (wd' := wX cB cI cZ ad w h aG aS G S (zup CB ((G i % 256).toNat + 1) ((CB ((G i % 256).toNat + 1)) + 1)) SB DK DR RE PF PK CO rc pn kn cn) rfl ?_
      refine j_iinc C eX0_tallyGreys_40 1 rfl rfl (by decide) (lv' := [(0, .ref (ad 0)), (1, .int (zI ((i : Int) + 1)))]) rfl ?_
      refine j_goto C 10 eX0_tallyGreys_43 (by decide) ?_
      refine ih (i + 1) _ (by omega) (by omega) ?_ ?_
      · rw [zup_n (by omega)]; exact h0
      · intro v hv
        have e1 : hst (fun k => G k % 256) (i + 1) v = hst (fun k => G k % 256) i v + if G i % 256 = (v : Int) then 1 else 0 := rfl
        rw [e1]
        by_cases e : v = (G i % 256).toNat
        · subst e
          rw [zup_s, hCB _ hv, if_pos (by omega)]
        · rw [zup_n (by omega), hCB v hv, if_neg (by omega)]; omega
set_option maxHeartbeats 4000000 in
set_option maxRecDepth 100000 in
theorem lrX0_tallyGreys {p : Program} {l : Launch} {e : Env} {s : State} {m : MethodId} {args : Array Value} {below : List Frame} {meth : Method} {c : Code} {Q : State → Prop} {D : va_G} {A : Nat → Prop} {cB cI cZ cL : ClassId} {w h : Nat} {ad : Nat → Nat} {aG aS : Nat} {G S DK DR RE PF PK CO : Nat → Int} {rc pn kn cn : Int} (C : JC p m c cX0_tallyGreys 2 s args wsX0_tallyGreys RX0 D vwCl (tyl cB cI cZ cL) A) (hs : Sz w h) (kx : ∀ CB SB : Nat → Int, tly (fun k => G k % 256) (w * h) CB SB → J p l e rmX0_tallyGreys s m args below meth c Q 2 D vwCl A 110 [(0, .ref (ad 0)), (1, .int (zI 257))] [] (wX cB cI cZ ad w h aG aS G S CB SB DK DR RE PF PK CO rc pn kn cn) 0 0) : ∀ (n u : Nat) (CB SB : Nat → Int), u ≤ 256 → 256 - u < n → (∀ v, v ≤ u → CB v = sumN (hst (fun k => G k % 256) (w * h)) v ∧ SB v = sumN (fun u => (u : Int) * (hst (fun k => G k % 256) (w * h)) u) v) → (∀ v, u ≤ v → v < 256 → CB (v + 1) = (hst (fun k => G k % 256) (w * h)) v) → J p l e rmX0_tallyGreys s m args below meth c Q 2 D vwCl A 55 [(0, .ref (ad 0)), (1, .int (zI ((u + 1) : Int)))] [] (wX cB cI cZ ad w h aG aS G S CB SB DK DR RE PF PK CO rc pn kn cn) 0 0 := by
  have hm := hs.mul
  intro n
  induction n with
  | zero => intro u CB SB _ hn; exact absurd hn (Nat.not_lt_zero _)
  | succ n ih =>
    intro u CB SB hu hn hA hB
    refine j_iload_n C eX0_tallyGreys_55 1 rfl ?_
    refine j_sipush C eX0_tallyGreys_56 (by decide +kernel) ?_
    refine j_icmp_gt C 110 eX0_tallyGreys_59 (by decide) (by omega) (by omega) (fun c59 => ?_) (fun c59 => ?_)
    ·
      have he : u = 256 := by omega
      subst he
      exact kx CB SB hA
    ·
      refine j_aload_n C eX0_tallyGreys_62 0 rfl ?_
      refine j_getf C hwsX0_tallyGreys 0 rfl rfl 5 (by decide) kX0_tallyGreys_36 rfl rfl eX0_tallyGreys_63 ?_
      refine j_iload_n C eX0_tallyGreys_66 1 rfl ?_
      refine j_aload_n C eX0_tallyGreys_67 0 rfl ?_
      refine j_getf C hwsX0_tallyGreys 0 rfl rfl 5 (by decide) kX0_tallyGreys_36 rfl rfl eX0_tallyGreys_68 ?_
      refine j_iload_n C eX0_tallyGreys_71 1 rfl ?_
      refine j_iconst C eX0_tallyGreys_72 ?_
      refine j_isub C eX0_tallyGreys_73 ?_
      refine j_iald C 4 1 rfl rfl u (by omega) (by omega) (by omega) eX0_tallyGreys_74 ?_
      refine j_aload_n C eX0_tallyGreys_75 0 rfl ?_
      refine j_getf C hwsX0_tallyGreys 0 rfl rfl 4 (by decide) kX0_tallyGreys_32 rfl rfl eX0_tallyGreys_76 ?_
      refine j_iload_n C eX0_tallyGreys_79 1 rfl ?_
      refine j_iald C 3 1 rfl rfl (u + 1) rfl (by omega) (by omega) eX0_tallyGreys_80 ?_
      refine j_iload_n C eX0_tallyGreys_81 1 rfl ?_
      refine j_iconst C eX0_tallyGreys_82 ?_
      refine j_isub C eX0_tallyGreys_83 ?_
      refine j_imul C eX0_tallyGreys_84 ?_
      refine j_iadd C eX0_tallyGreys_85 ?_
      refine j_iast C 4 1 rfl rfl (u + 1) rfl (by omega) (by omega) eX0_tallyGreys_86 (wd' := wX cB cI cZ ad w h aG aS G S CB (zup SB (u + 1) ((SB u) + ((CB (u + 1)) * (((u + 1) : Int) - 1)))) DK DR RE PF PK CO rc pn kn cn) rfl ?_
      refine j_aload_n C eX0_tallyGreys_87 0 rfl ?_
      refine j_getf C hwsX0_tallyGreys 0 rfl rfl 4 (by decide) kX0_tallyGreys_32 rfl rfl eX0_tallyGreys_88 ?_
      refine j_iload_n C eX0_tallyGreys_91 1 rfl ?_
      refine j_dup2 C eX0_tallyGreys_92 rfl rfl ?_
      refine j_iald C 3 1 rfl rfl (u + 1) rfl (by omega) (by omega) eX0_tallyGreys_93 ?_
      refine j_aload_n C eX0_tallyGreys_94 0 rfl ?_
      refine j_getf C hwsX0_tallyGreys 0 rfl rfl 4 (by decide) kX0_tallyGreys_32 rfl rfl eX0_tallyGreys_95 ?_
      refine j_iload_n C eX0_tallyGreys_98 1 rfl ?_
      refine j_iconst C eX0_tallyGreys_99 ?_
      refine j_isub C eX0_tallyGreys_100 ?_
      refine j_iald C 3 1 rfl rfl u (by omega) (by omega) (by omega) eX0_tallyGreys_101 ?_
      refine j_iadd C eX0_tallyGreys_102 ?_
      refine j_iast C 3 1 rfl rfl (u + 1) rfl (by omega) (by omega) eX0_tallyGreys_103 (wd' := wX cB cI cZ ad w h aG aS G S (zup CB (u + 1) ((CB (u + 1)) + (CB u))) (zup SB (u + 1) ((SB u) + ((CB (u + 1)) * (((u + 1) : Int) - 1)))) DK DR RE PF PK CO rc pn kn cn) rfl ?_
      refine j_iinc C eX0_tallyGreys_104 1 rfl rfl (by decide) (lv' := [(0, .ref (ad 0)), (1, .int (zI (((u + 1) : Int) + 1)))]) rfl ?_
      refine j_goto C 55 eX0_tallyGreys_107 (by decide) ?_
      refine ih (u + 1) _ _ (by omega) (by omega) ?_ ?_
      · intro v hv
        by_cases e : v = u + 1
        · subst e
          rw [zup_s, zup_s, hB u (by omega) (by omega), (hA u (by omega)).1, (hA u (by omega)).2]
          constructor
          · show (hst (fun k => G k % 256) (w * h)) u + sumN (hst (fun k => G k % 256) (w * h)) u = sumN (hst (fun k => G k % 256) (w * h)) u + (hst (fun k => G k % 256) (w * h)) u
            omega
          · show _ = sumN (fun u => (u : Int) * (hst (fun k => G k % 256) (w * h)) u) u + (u : Int) * (hst (fun k => G k % 256) (w * h)) u
            rw [show ((u : Int) + 1) - 1 = (u : Int) by omega, Int.mul_comm ((hst (fun k => G k % 256) (w * h)) u)]
        · rw [zup_n e, zup_n e]
          exact hA v (by omega)
      · intro v h1 h2
        rw [zup_n (by omega)]
        exact hB v (by omega) h2
set_option maxHeartbeats 4000000 in
set_option maxRecDepth 100000 in
theorem ctX0_tallyGreys (l : Launch) (D : va_G) (cB cI cZ cL : ClassId) (ad : Nat → Nat) (w h : Nat) (hs : Sz w h) (aG aS : Nat) (G S CB SB DK DR RE PF PK CO : Nat → Int) (rc pn kn cn : Int)  : mV l yX0_tallyGreys wsX0_tallyGreys rmX0_tallyGreys D vwCl (tyl cB cI cZ cL) [.ref (ad 0)] (wX cB cI cZ ad w h aG aS G S CB SB DK DR RE PF PK CO rc pn kn cn) 0 0 (fun w1 => ∃ CB' SB' : Nat → Int, tly (fun k => G k % 256) (w * h) CB' SB' ∧ w1 = wX cB cI cZ ad w h aG aS G S CB' SB' DK DR RE PF PK CO rc pn kn cn) := by
  refine mV_of (own := RX0) rfl (by decide) rfl (Nat.le_of_ble_eq_true rfl) ?_
  intro p e s m args below meth c C hr hlocks hname
  show J p l e rmX0_tallyGreys s m args below meth c _ 2 D vwCl _ 0 [(0, .ref (ad 0))] [] (wX cB cI cZ ad w h aG aS G S CB SB DK DR RE PF PK CO rc pn kn cn) 0 0
  have hm := hs.mul
  refine j_aload_n C eX0_tallyGreys_0 0 rfl ?_
  refine j_getf C hwsX0_tallyGreys 0 rfl rfl 4 (by decide) kX0_tallyGreys_32 rfl rfl eX0_tallyGreys_1 ?_
  refine j_iconst C eX0_tallyGreys_4 ?_
  refine j_callSv C (As := [.ref (ad 4), .int (zI 0)]) (rest := []) (ctJ7_fill_53178 l D cB cI cZ cL (ad 4) 257 CB 0 (by omega)) (va_cwS 2 C.1.2.2.2.2 gX0_tallyGreys_J7_fill_53178 rfl rfl rfl (by decide +kernel) ⟨Nat.le_of_ble_eq_true rfl, Nat.le_of_ble_eq_true rfl⟩) [3] [0, 1, 2, 4, 5, 6, 7, 8, 9, 10] (wr := ([0, 1, 2, 4, 5, 6, 7, 8, 9, 10].filterMap (fun i => (wX cB cI cZ ad w h aG aS G S CB SB DK DR RE PF PK CO rc pn kn cn)[i]?))) rfl (by decide) rfl (by decide) (by decide) rfl rfl (Nat.le_of_ble_eq_true rfl) eX0_tallyGreys_5 ⟨Nat.le_of_ble_eq_true rfl, Nat.le_of_ble_eq_true rfl⟩ (fun w1 hp => ?_)
  obtain ⟨CB1, hCB1, rfl⟩ := hp
  refine j_perm [0, 1, 2, 10, 3, 4, 5, 6, 7, 8, 9] (by decide) (wd' := wX cB cI cZ ad w h aG aS G S CB1 SB DK DR RE PF PK CO rc pn kn cn) rfl ?_
  refine j_iconst C eX0_tallyGreys_8 ?_
  refine j_istore_n C eX0_tallyGreys_9 rfl (by decide) (lv' := [(0, .ref (ad 0)), (1, .int (zI 0))]) rfl ?_
  refine lqX0_tallyGreys C hs (fun CB2 h0 hCB2 => ?_) (w * h + 1) 0 CB1 (by omega) (by omega) (hCB1 0 (by omega)) (fun v hv => by rw [hCB1 (v + 1) (by omega)]; rfl)
  refine j_aload_n C eX0_tallyGreys_46 0 rfl ?_
  refine j_getf C hwsX0_tallyGreys 0 rfl rfl 5 (by decide) kX0_tallyGreys_36 rfl rfl eX0_tallyGreys_47 ?_
  refine j_iconst C eX0_tallyGreys_50 ?_
  refine j_iconst C eX0_tallyGreys_51 ?_
  refine j_iast C 4 1 rfl rfl 0 rfl (by omega) (by omega) eX0_tallyGreys_52 (wd' := wX cB cI cZ ad w h aG aS G S CB2 (zup SB 0 0) DK DR RE PF PK CO rc pn kn cn) rfl ?_
  refine j_iconst C eX0_tallyGreys_53 ?_
  refine j_istore_n C eX0_tallyGreys_54 rfl (by decide) (lv' := [(0, .ref (ad 0)), (1, .int (zI 1))]) rfl ?_
  refine lrX0_tallyGreys C hs (fun CB' SB' ht => ?_) 257 0 _ _ (by omega) (by omega) (fun v hv => by
    have e : v = 0 := by omega
    subst e
    exact ⟨h0, zup_s⟩) (fun v _ hv => hCB2 v hv)
  exact j_vret C hr hlocks eX0_tallyGreys_110 ⟨CB', SB', ht, rfl⟩
theorem hwsX0_spreadOfLot : ∀ w ∈ u_ws RX0 TX0 16, w ∈ wsX0_spreadOfLot := fun _ h => List.mem_cons_of_mem _ (List.mem_append_right _ h)
theorem kX0_spreadOfLot_32 : Cond.fieldLink RX0 32 "SheetRows" (TX0 4).2.1 (TX0 4).2.2.1 ∈ wsX0_spreadOfLot := by decide +kernel
theorem kX0_spreadOfLot_36 : Cond.fieldLink RX0 36 "SheetRows" (TX0 5).2.1 (TX0 5).2.2.1 ∈ wsX0_spreadOfLot := by decide +kernel
abbrev rmX0_spreadOfLot : Room := { frames := 0, cells := 0, slots := 0, locals := 0 }
set_option maxHeartbeats 4000000 in
set_option maxRecDepth 100000 in
theorem ctX0_spreadOfLot (l : Launch) (D : va_G) (cB cI cZ cL : ClassId) (ad : Nat → Nat) (w h : Nat) (hs : Sz w h) (aG aS : Nat) (G S CB SB DK DR RE PF PK CO : Nat → Int) (rc pn kn cn : Int) (g : Nat → Int) (n : Nat) (hn : n ≤ 2304) (ht : tly g n CB SB) (a b : Nat) (hab : a ≤ b) (hb : b ≤ 256) : mI l yX0_spreadOfLot wsX0_spreadOfLot rmX0_spreadOfLot D vwCl (tyl cB cI cZ cL) [.ref (ad 0), .int (zI (a : Int)), .int (zI (b : Int))] (wX cB cI cZ ad w h aG aS G S CB SB DK DR RE PF PK CO rc pn kn cn) 0 0 (fun z w1 => w1 = wX cB cI cZ ad w h aG aS G S CB SB DK DR RE PF PK CO rc pn kn cn ∧ z = far (hst g n) a b) := by
  refine mI_of (own := RX0) rfl (by decide) rfl (Nat.le_of_ble_eq_true rfl) ?_
  intro p e s m args below meth c C hr hlocks hname
  show J p l e rmX0_spreadOfLot s m args below meth c _ 8 D vwCl _ 0 [(0, .ref (ad 0)), (1, .int (zI (a : Int))), (2, .int (zI (b : Int)))] [] (wX cB cI cZ ad w h aG aS G S CB SB DK DR RE PF PK CO rc pn kn cn) 0 0
  have hm := hs.mul
  have bnd : ∀ v, v ≤ 256 → (0 ≤ CB v ∧ CB v ≤ 2304) ∧ (0 ≤ SB v ∧ SB v ≤ 587520) := fun v hv => by
    rw [(ht v hv).1, (ht v hv).2]
    have h1 := cum_in g n v
    exact ⟨by omega, scum_in g hn hv⟩
  have ba := bnd a (by omega)
  have bb := bnd b hb
  refine j_aload_n C eX0_spreadOfLot_0 0 rfl ?_
  refine j_getf C hwsX0_spreadOfLot 0 rfl rfl 4 (by decide) kX0_spreadOfLot_32 rfl rfl eX0_spreadOfLot_1 ?_
  refine j_iload_n C eX0_spreadOfLot_4 2 rfl ?_
  refine j_iald C 3 1 rfl rfl b rfl (by omega) (by omega) eX0_spreadOfLot_5 ?_
  refine j_aload_n C eX0_spreadOfLot_6 0 rfl ?_
  refine j_getf C hwsX0_spreadOfLot 0 rfl rfl 4 (by decide) kX0_spreadOfLot_32 rfl rfl eX0_spreadOfLot_7 ?_
  refine j_iload_n C eX0_spreadOfLot_10 1 rfl ?_
  refine j_iald C 3 1 rfl rfl a rfl (by omega) (by omega) eX0_spreadOfLot_11 ?_
  refine j_isub C eX0_spreadOfLot_12 ?_
  refine j_istore_n C eX0_spreadOfLot_13 rfl (by decide) (lv' := [(0, .ref (ad 0)), (1, .int (zI (a : Int))), (2, .int (zI (b : Int))), (3, .int (zI ((CB b) - (CB a))))]) rfl ?_
  refine j_iload_n C eX0_spreadOfLot_14 3 rfl ?_
  refine j_if_gt C 20 eX0_spreadOfLot_15 (by decide) (by omega) (fun c15 => ?_) (fun c15 => ?_)
  ·
    have hH := hst_nn g n
    have e1 : CB b - CB a = rs (hst g n) a b := by rw [(ht b hb).1, (ht a (by omega)).1]; rfl
    have e2 : SB b - SB a = rs (fun u => (u : Int) * hst g n u) a b := by rw [(ht b hb).2, (ht a (by omega)).2]; rfl
    have hsn : 0 ≤ SB b - SB a := by rw [e2]; exact rs_nn hab (fun u _ _ => Int.mul_nonneg (by omega) (hH u))
    have hmn := mn_in hH hab (by omega)
    have hmd : (SB b - SB a) / (CB b - CB a) = mnH (hst g n) a b := by unfold mnH; rw [if_neg (by omega), e1, e2]
    obtain ⟨k, hk⟩ : ∃ k : Nat, (SB b - SB a) / (CB b - CB a) = (k : Int) := ⟨((SB b - SB a) / (CB b - CB a)).toNat, by omega⟩
    have hkb : k < b := by omega
    refine j_aload_n C eX0_spreadOfLot_20 0 rfl ?_
    refine j_getf C hwsX0_spreadOfLot 0 rfl rfl 5 (by decide) kX0_spreadOfLot_36 rfl rfl eX0_spreadOfLot_21 ?_
    refine j_iload_n C eX0_spreadOfLot_24 2 rfl ?_
    refine j_iald C 4 1 rfl rfl b rfl (by omega) (by omega) eX0_spreadOfLot_25 ?_
    refine j_aload_n C eX0_spreadOfLot_26 0 rfl ?_
    refine j_getf C hwsX0_spreadOfLot 0 rfl rfl 5 (by decide) kX0_spreadOfLot_36 rfl rfl eX0_spreadOfLot_27 ?_
    refine j_iload_n C eX0_spreadOfLot_30 1 rfl ?_
    refine j_iald C 4 1 rfl rfl a rfl (by omega) (by omega) eX0_spreadOfLot_31 ?_
    refine j_isub C eX0_spreadOfLot_32 ?_
    refine j_iload_n C eX0_spreadOfLot_33 3 rfl ?_
    refine j_idiv C eX0_spreadOfLot_34 (by omega) (by omega) ?_
    rw [Int.tdiv_eq_ediv_of_nonneg (by omega), hk]
    refine j_istore C eX0_spreadOfLot_35 rfl (by decide) (lv' := [(0, .ref (ad 0)), (1, .int (zI (a : Int))), (2, .int (zI (b : Int))), (3, .int (zI ((CB b) - (CB a)))), (4, .int (zI (k : Int)))]) rfl ?_
    refine j_iload C eX0_spreadOfLot_37 4 rfl ?_
    refine j_iconst C eX0_spreadOfLot_39 ?_
    refine j_iadd C eX0_spreadOfLot_40 ?_
    refine j_istore C eX0_spreadOfLot_41 rfl (by decide) (lv' := [(0, .ref (ad 0)), (1, .int (zI (a : Int))), (2, .int (zI (b : Int))), (3, .int (zI ((CB b) - (CB a)))), (4, .int (zI (k : Int))), (5, .int (zI ((k : Int) + 1)))]) rfl ?_
    refine j_iload C eX0_spreadOfLot_43 4 rfl ?_
    refine j_aload_n C eX0_spreadOfLot_45 0 rfl ?_
    refine j_getf C hwsX0_spreadOfLot 0 rfl rfl 4 (by decide) kX0_spreadOfLot_32 rfl rfl eX0_spreadOfLot_46 ?_
    refine j_iload C eX0_spreadOfLot_49 5 rfl ?_
    refine j_iald C 3 1 rfl rfl (k + 1) rfl (by omega) (by omega) eX0_spreadOfLot_51 ?_
    refine j_aload_n C eX0_spreadOfLot_52 0 rfl ?_
    refine j_getf C hwsX0_spreadOfLot 0 rfl rfl 4 (by decide) kX0_spreadOfLot_32 rfl rfl eX0_spreadOfLot_53 ?_
    refine j_iload_n C eX0_spreadOfLot_56 1 rfl ?_
    refine j_iald C 3 1 rfl rfl a rfl (by omega) (by omega) eX0_spreadOfLot_57 ?_
    refine j_isub C eX0_spreadOfLot_58 ?_
    refine j_imul C eX0_spreadOfLot_59 ?_
    refine j_aload_n C eX0_spreadOfLot_60 0 rfl ?_
    refine j_getf C hwsX0_spreadOfLot 0 rfl rfl 5 (by decide) kX0_spreadOfLot_36 rfl rfl eX0_spreadOfLot_61 ?_
    refine j_iload C eX0_spreadOfLot_64 5 rfl ?_
    refine j_iald C 4 1 rfl rfl (k + 1) rfl (by omega) (by omega) eX0_spreadOfLot_66 ?_
    refine j_aload_n C eX0_spreadOfLot_67 0 rfl ?_
    refine j_getf C hwsX0_spreadOfLot 0 rfl rfl 5 (by decide) kX0_spreadOfLot_36 rfl rfl eX0_spreadOfLot_68 ?_
    refine j_iload_n C eX0_spreadOfLot_71 1 rfl ?_
    refine j_iald C 4 1 rfl rfl a rfl (by omega) (by omega) eX0_spreadOfLot_72 ?_
    refine j_isub C eX0_spreadOfLot_73 ?_
    refine j_isub C eX0_spreadOfLot_74 ?_
    refine j_istore C eX0_spreadOfLot_75 rfl (by decide) (lv' := [(0, .ref (ad 0)), (1, .int (zI (a : Int))), (2, .int (zI (b : Int))), (3, .int (zI ((CB b) - (CB a)))), (4, .int (zI (k : Int))), (5, .int (zI ((k : Int) + 1))), (6, .int (zI (((k : Int) * ((CB (k + 1)) - (CB a))) - ((SB (k + 1)) - (SB a)))))]) rfl ?_
    refine j_aload_n C eX0_spreadOfLot_77 0 rfl ?_
    refine j_getf C hwsX0_spreadOfLot 0 rfl rfl 5 (by decide) kX0_spreadOfLot_36 rfl rfl eX0_spreadOfLot_78 ?_
    refine j_iload_n C eX0_spreadOfLot_81 2 rfl ?_
    refine j_iald C 4 1 rfl rfl b rfl (by omega) (by omega) eX0_spreadOfLot_82 ?_
    refine j_aload_n C eX0_spreadOfLot_83 0 rfl ?_
    refine j_getf C hwsX0_spreadOfLot 0 rfl rfl 5 (by decide) kX0_spreadOfLot_36 rfl rfl eX0_spreadOfLot_84 ?_
    refine j_iload C eX0_spreadOfLot_87 5 rfl ?_
    refine j_iald C 4 1 rfl rfl (k + 1) rfl (by omega) (by omega) eX0_spreadOfLot_89 ?_
    refine j_isub C eX0_spreadOfLot_90 ?_
    refine j_iload C eX0_spreadOfLot_91 4 rfl ?_
    refine j_aload_n C eX0_spreadOfLot_93 0 rfl ?_
    refine j_getf C hwsX0_spreadOfLot 0 rfl rfl 4 (by decide) kX0_spreadOfLot_32 rfl rfl eX0_spreadOfLot_94 ?_
    refine j_iload_n C eX0_spreadOfLot_97 2 rfl ?_
    refine j_iald C 3 1 rfl rfl b rfl (by omega) (by omega) eX0_spreadOfLot_98 ?_
    refine j_aload_n C eX0_spreadOfLot_99 0 rfl ?_
    refine j_getf C hwsX0_spreadOfLot 0 rfl rfl 4 (by decide) kX0_spreadOfLot_32 rfl rfl eX0_spreadOfLot_100 ?_
    refine j_iload C eX0_spreadOfLot_103 5 rfl ?_
    refine j_iald C 3 1 rfl rfl (k + 1) rfl (by omega) (by omega) eX0_spreadOfLot_105 ?_
    refine j_isub C eX0_spreadOfLot_106 ?_
    refine j_imul C eX0_spreadOfLot_107 ?_
    refine j_isub C eX0_spreadOfLot_108 ?_
    refine j_istore C eX0_spreadOfLot_109 rfl (by decide) (lv' := [(0, .ref (ad 0)), (1, .int (zI (a : Int))), (2, .int (zI (b : Int))), (3, .int (zI ((CB b) - (CB a)))), (4, .int (zI (k : Int))), (5, .int (zI ((k : Int) + 1))), (6, .int (zI (((k : Int) * ((CB (k + 1)) - (CB a))) - ((SB (k + 1)) - (SB a))))), (7, .int (zI (((SB b) - (SB (k + 1))) - ((k : Int) * ((CB b) - (CB (k + 1)))))))]) rfl ?_
    refine j_iload C eX0_spreadOfLot_111 6 rfl ?_
    refine j_iload C eX0_spreadOfLot_113 7 rfl ?_
    refine j_iadd C eX0_spreadOfLot_115 ?_
    exact j_iret C hr hlocks rfl eX0_spreadOfLot_116 ⟨rfl, by rw [← lot_far ht hab hb]; unfold lot; rw [if_neg (by omega), hk, Int.toNat_natCast]⟩
  ·
    refine j_iconst C eX0_spreadOfLot_18 ?_
    exact j_iret C hr hlocks rfl eX0_spreadOfLot_19 ⟨rfl, by rw [← lot_far ht hab hb]; unfold lot; rw [if_pos (by omega)]⟩
theorem hwsX0_spreadAt : ∀ w ∈ u_ws RX0 TX0 16, w ∈ wsX0_spreadAt := fun _ h => List.mem_cons_of_mem _ (List.mem_append_right _ h)
abbrev rmX0_spreadAt : Room := { frames := 1, cells := 0, slots := 0, locals := 27 }
set_option maxHeartbeats 4000000 in
set_option maxRecDepth 100000 in
theorem ctX0_spreadAt (l : Launch) (D : va_G) (cB cI cZ cL : ClassId) (ad : Nat → Nat) (w h : Nat) (hs : Sz w h) (aG aS : Nat) (G S CB SB DK DR RE PF PK CO : Nat → Int) (rc pn kn cn : Int) (g : Nat → Int) (n : Nat) (hn : n ≤ 2304) (ht : tly g n CB SB) (t : Nat) (htt : t ≤ 254) : mI l yX0_spreadAt wsX0_spreadAt rmX0_spreadAt D vwCl (tyl cB cI cZ cL) [.ref (ad 0), .int (zI (t : Int))] (wX cB cI cZ ad w h aG aS G S CB SB DK DR RE PF PK CO rc pn kn cn) 0 0 (fun z w1 => w1 = wX cB cI cZ ad w h aG aS G S CB SB DK DR RE PF PK CO rc pn kn cn ∧ z = spr (hst g n) t) := by
  refine mI_of (own := RX0) rfl (by decide) rfl (Nat.le_of_ble_eq_true rfl) ?_
  intro p e s m args below meth c C hr hlocks hname
  show J p l e rmX0_spreadAt s m args below meth c _ 2 D vwCl _ 0 [(0, .ref (ad 0)), (1, .int (zI (t : Int)))] [] (wX cB cI cZ ad w h aG aS G S CB SB DK DR RE PF PK CO rc pn kn cn) 0 0
  refine j_aload_n C eX0_spreadAt_0 0 rfl ?_
  refine j_iconst C eX0_spreadAt_1 ?_
  refine j_iload_n C eX0_spreadAt_2 1 rfl ?_
  refine j_iconst C eX0_spreadAt_3 ?_
  refine j_iadd C eX0_spreadAt_4 ?_
  refine j_callVi C (As := [.int (zI 0), .int (zI ((t : Int) + 1))]) (rest := []) (ctX0_spreadOfLot l D cB cI cZ cL ad w h hs aG aS G S CB SB DK DR RE PF PK CO rc pn kn cn g n hn ht 0 (t + 1) (by omega) (by omega)) (cwV 2 C.1.2.2.2.2 gX0_spreadAt_X0_spreadOfLot rfl rfl rfl (by decide +kernel) ⟨Nat.le_of_ble_eq_true rfl, Nat.le_of_ble_eq_true rfl⟩) [0, 1, 2, 3, 4, 5, 6, 7, 8, 9, 10] [] (wr := []) rfl (by decide) rfl (by decide) (by decide) 0 rfl rfl rfl rfl (Nat.le_of_ble_eq_true rfl) eX0_spreadAt_5 ⟨Nat.le_of_ble_eq_true rfl, Nat.le_of_ble_eq_true rfl⟩ (fun z w1 hp => ?_)
  obtain ⟨rfl, rfl⟩ := hp
  rw [List.nil_append]
  refine j_aload_n C eX0_spreadAt_8 0 rfl ?_
  refine j_iload_n C eX0_spreadAt_9 1 rfl ?_
  refine j_iconst C eX0_spreadAt_10 ?_
  refine j_iadd C eX0_spreadAt_11 ?_
  refine j_sipush C eX0_spreadAt_12 (by decide +kernel) ?_
  refine j_callVi C (As := [.int (zI ((t : Int) + 1)), .int (zI 256)]) (rest := [.int (zI (far (hst g n) 0 (t + 1)))]) (ctX0_spreadOfLot l D cB cI cZ cL ad w h hs aG aS G S CB SB DK DR RE PF PK CO rc pn kn cn g n hn ht (t + 1) 256 (by omega) (by omega)) (cwV 2 C.1.2.2.2.2 gX0_spreadAt_X0_spreadOfLot rfl rfl rfl (by decide +kernel) ⟨Nat.le_of_ble_eq_true rfl, Nat.le_of_ble_eq_true rfl⟩) [0, 1, 2, 3, 4, 5, 6, 7, 8, 9, 10] [] (wr := []) rfl (by decide) rfl (by decide) (by decide) 0 rfl rfl rfl rfl (Nat.le_of_ble_eq_true rfl) eX0_spreadAt_15 ⟨Nat.le_of_ble_eq_true rfl, Nat.le_of_ble_eq_true rfl⟩ (fun z w1 hp => ?_)
  obtain ⟨rfl, rfl⟩ := hp
  rw [List.nil_append]
  refine j_iadd C eX0_spreadAt_18 ?_
  exact j_iret C hr hlocks rfl eX0_spreadAt_19 ⟨rfl, rfl⟩
theorem hwsX0_threshold : ∀ w ∈ u_ws RX0 TX0 16, w ∈ wsX0_threshold := fun _ h => List.mem_cons_of_mem _ (List.mem_append_right _ h)
abbrev rmX0_threshold : Room := { frames := 2, cells := 0, slots := 0, locals := 48 }
set_option maxHeartbeats 4000000 in
set_option maxRecDepth 100000 in
theorem lpX0_threshold {p : Program} {l : Launch} {e : Env} {s : State} {m : MethodId} {args : Array Value} {below : List Frame} {meth : Method} {c : Code} {Q : State → Prop} {D : va_G} {A : Nat → Prop} {cB cI cZ cL : ClassId} {w h : Nat} {ad : Nat → Nat} {aG aS : Nat} {G S CB SB DK DR RE PF PK CO : Nat → Int} {rc pn kn cn : Int} (C : JC p m c cX0_threshold 5 s args wsX0_threshold RX0 D vwCl (tyl cB cI cZ cL) A) (hs : Sz w h) (ht : tly (fun k => G k % 256) (w * h) CB SB) (kx : J p l e rmX0_threshold s m args below meth c Q 5 D vwCl A 45 [(0, .ref (ad 0)), (1, .int (zI ((am (spr (hst (fun k => G k % 256) (w * h))) 254) : Int))), (2, .int (zI ((spr (hst (fun k => G k % 256) (w * h))) (am (spr (hst (fun k => G k % 256) (w * h))) 254)))), (3, .int (zI ((254 + 1) : Int)))] [] (wX cB cI cZ ad w h aG aS G S CB SB DK DR RE PF PK CO rc pn kn cn) 0 0) : ∀ (n t : Nat), t ≤ 254 → 254 - t < n → J p l e rmX0_threshold s m args below meth c Q 5 D vwCl A 14 [(0, .ref (ad 0)), (1, .int (zI ((am (spr (hst (fun k => G k % 256) (w * h))) t) : Int))), (2, .int (zI ((spr (hst (fun k => G k % 256) (w * h))) (am (spr (hst (fun k => G k % 256) (w * h))) t)))), (3, .int (zI ((t + 1) : Int)))] [] (wX cB cI cZ ad w h aG aS G S CB SB DK DR RE PF PK CO rc pn kn cn) 0 0 := by
  have hm := hs.mul
  intro n
  induction n with
  | zero => intro t _ hn; exact absurd hn (Nat.not_lt_zero _)
  | succ n ih =>
    intro t htt hn
    have hal := am_le (spr (hst (fun k => G k % 256) (w * h))) t
    have hr : ∀ u : Nat, u ≤ 254 → 0 ≤ (spr (hst (fun k => G k % 256) (w * h))) u ∧ (spr (hst (fun k => G k % 256) (w * h))) u ≤ 1179648 := fun u hu => by
      have h1 := far_in (fun k => G k % 256) (n := (w * h)) (by omega) (a := 0) (b := u + 1) (by omega) (by omega)
      have h2 := far_in (fun k => G k % 256) (n := (w * h)) (by omega) (a := u + 1) (b := 256) (by omega) (by omega)
      unfold spr
      omega
    refine j_iload_n C eX0_threshold_14 3 rfl ?_
    refine j_sipush C eX0_threshold_15 (by decide +kernel) ?_
    refine j_icmp_ge C 45 eX0_threshold_18 (by decide) (by omega) (by omega) (fun c18 => ?_) (fun c18 => ?_)
    ·
      have he : t = 254 := by omega
      subst he
      exact kx
    ·
      refine j_aload_n C eX0_threshold_21 0 rfl ?_
      refine j_iload_n C eX0_threshold_22 3 rfl ?_
      refine j_callVi C (As := [.int (zI ((t + 1) : Int))]) (rest := []) (ctX0_spreadAt l D cB cI cZ cL ad w h hs aG aS G S CB SB DK DR RE PF PK CO rc pn kn cn (fun k => G k % 256) (w * h) (by omega) ht (t + 1) (by omega)) (cwV 1 C.1.2.2.2.2 gX0_threshold_X0_spreadAt rfl rfl rfl (by decide +kernel) ⟨Nat.le_of_ble_eq_true rfl, Nat.le_of_ble_eq_true rfl⟩) [0, 1, 2, 3, 4, 5, 6, 7, 8, 9, 10] [] (wr := []) rfl (by decide) rfl (by decide) (by decide) 0 rfl rfl rfl rfl (Nat.le_of_ble_eq_true rfl) eX0_threshold_23 ⟨Nat.le_of_ble_eq_true rfl, Nat.le_of_ble_eq_true rfl⟩ (fun z w1 hp => ?_)
      obtain ⟨rfl, rfl⟩ := hp
      rw [List.nil_append]
      refine j_istore C eX0_threshold_26 rfl (by decide) (lv' := [(0, .ref (ad 0)), (1, .int (zI ((am (spr (hst (fun k => G k % 256) (w * h))) t) : Int))), (2, .int (zI ((spr (hst (fun k => G k % 256) (w * h))) (am (spr (hst (fun k => G k % 256) (w * h))) t)))), (3, .int (zI ((t + 1) : Int))), (4, .int (zI ((spr (hst (fun k => G k % 256) (w * h))) (t + 1))))]) rfl ?_
      have hr1 := hr (t + 1) (by omega)
      have hr2 := hr (am (spr (hst (fun k => G k % 256) (w * h))) t) (by omega)
      refine j_iload C eX0_threshold_28 4 rfl ?_
      refine j_iload_n C eX0_threshold_30 2 rfl ?_
      refine j_icmp_ge C 39 eX0_threshold_31 (by decide) (by omega) (by omega) (fun c31 => ?_) (fun c31 => ?_)
      ·
        refine j_iinc C eX0_threshold_39 3 rfl rfl (by decide) (lv' := [(0, .ref (ad 0)), (1, .int (zI ((am (spr (hst (fun k => G k % 256) (w * h))) t) : Int))), (2, .int (zI ((spr (hst (fun k => G k % 256) (w * h))) (am (spr (hst (fun k => G k % 256) (w * h))) t)))), (3, .int (zI (((t + 1) : Int) + 1))), (4, .int (zI ((spr (hst (fun k => G k % 256) (w * h))) (t + 1))))]) rfl ?_
        refine j_goto C 14 eX0_threshold_42 (by decide) ?_
        refine j_loc [0, 1, 2, 3] (lv' := [(0, .ref (ad 0)), (1, .int (zI ((am (spr (hst (fun k => G k % 256) (w * h))) t) : Int))), (2, .int (zI ((spr (hst (fun k => G k % 256) (w * h))) (am (spr (hst (fun k => G k % 256) (w * h))) t)))), (3, .int (zI (((t + 1) : Int) + 1)))]) rfl ?_
        have e1 : am (spr (hst (fun k => G k % 256) (w * h))) (t + 1) = am (spr (hst (fun k => G k % 256) (w * h))) t := by show (if (spr (hst (fun k => G k % 256) (w * h))) (t + 1) < (spr (hst (fun k => G k % 256) (w * h))) (am (spr (hst (fun k => G k % 256) (w * h))) t) then t + 1 else am (spr (hst (fun k => G k % 256) (w * h))) t) = _; rw [if_neg (by omega)]
        have hb := ih (t + 1) (by omega) (by omega)
        rw [e1] at hb
        exact hb
      ·
        refine j_iload_n C eX0_threshold_34 3 rfl ?_
        refine j_istore_n C eX0_threshold_35 rfl (by decide) (lv' := [(0, .ref (ad 0)), (1, .int (zI ((t + 1) : Int))), (2, .int (zI ((spr (hst (fun k => G k % 256) (w * h))) (am (spr (hst (fun k => G k % 256) (w * h))) t)))), (3, .int (zI ((t + 1) : Int))), (4, .int (zI ((spr (hst (fun k => G k % 256) (w * h))) (t + 1))))]) rfl ?_
        refine j_iload C eX0_threshold_36 4 rfl ?_
        refine j_istore_n C eX0_threshold_38 rfl (by decide) (lv' := [(0, .ref (ad 0)), (1, .int (zI ((t + 1) : Int))), (2, .int (zI ((spr (hst (fun k => G k % 256) (w * h))) (t + 1)))), (3, .int (zI ((t + 1) : Int))), (4, .int (zI ((spr (hst (fun k => G k % 256) (w * h))) (t + 1))))]) rfl ?_
        refine j_iinc C eX0_threshold_39 3 rfl rfl (by decide) (lv' := [(0, .ref (ad 0)), (1, .int (zI ((t + 1) : Int))), (2, .int (zI ((spr (hst (fun k => G k % 256) (w * h))) (t + 1)))), (3, .int (zI (((t + 1) : Int) + 1))), (4, .int (zI ((spr (hst (fun k => G k % 256) (w * h))) (t + 1))))]) rfl ?_
        refine j_goto C 14 eX0_threshold_42 (by decide) ?_
        refine j_loc [0, 1, 2, 3] (lv' := [(0, .ref (ad 0)), (1, .int (zI ((t + 1) : Int))), (2, .int (zI ((spr (hst (fun k => G k % 256) (w * h))) (t + 1)))), (3, .int (zI (((t + 1) : Int) + 1)))]) rfl ?_
        have e1 : am (spr (hst (fun k => G k % 256) (w * h))) (t + 1) = t + 1 := by show (if (spr (hst (fun k => G k % 256) (w * h))) (t + 1) < (spr (hst (fun k => G k % 256) (w * h))) (am (spr (hst (fun k => G k % 256) (w * h))) t) then t + 1 else am (spr (hst (fun k => G k % 256) (w * h))) t) = _; rw [if_pos c31]
        have hb := ih (t + 1) (by omega) (by omega)
        rw [e1] at hb
        exact hb
set_option maxHeartbeats 4000000 in
set_option maxRecDepth 100000 in
theorem ctX0_threshold (l : Launch) (D : va_G) (cB cI cZ cL : ClassId) (ad : Nat → Nat) (w h : Nat) (hs : Sz w h) (aG aS : Nat) (G S CB SB DK DR RE PF PK CO : Nat → Int) (rc pn kn cn : Int)  : mI l yX0_threshold wsX0_threshold rmX0_threshold D vwCl (tyl cB cI cZ cL) [.ref (ad 0)] (wX cB cI cZ ad w h aG aS G S CB SB DK DR RE PF PK CO rc pn kn cn) 0 0 (fun z w1 => ∃ CB' SB' : Nat → Int, tly (fun k => G k % 256) (w * h) CB' SB' ∧ w1 = wX cB cI cZ ad w h aG aS G S CB' SB' DK DR RE PF PK CO rc pn kn cn ∧ z = ((thr (fun k => G k % 256) (w * h) : Nat) : Int)) := by
  refine mI_of (own := RX0) rfl (by decide) rfl (Nat.le_of_ble_eq_true rfl) ?_
  intro p e s m args below meth c C hr hlocks hname
  show J p l e rmX0_threshold s m args below meth c _ 5 D vwCl _ 0 [(0, .ref (ad 0))] [] (wX cB cI cZ ad w h aG aS G S CB SB DK DR RE PF PK CO rc pn kn cn) 0 0
  have hm := hs.mul
  refine j_aload_n C eX0_threshold_0 0 rfl ?_
  refine j_callVv C (As := []) (rest := []) (ctX0_tallyGreys l D cB cI cZ cL ad w h hs aG aS G S CB SB DK DR RE PF PK CO rc pn kn cn ) (cwV 0 C.1.2.2.2.2 gX0_threshold_X0_tallyGreys rfl rfl rfl (by decide +kernel) ⟨Nat.le_of_ble_eq_true rfl, Nat.le_of_ble_eq_true rfl⟩) [0, 1, 2, 3, 4, 5, 6, 7, 8, 9, 10] [] (wr := []) rfl (by decide) rfl (by decide) (by decide) 0 rfl rfl rfl rfl (Nat.le_of_ble_eq_true rfl) eX0_threshold_1 ⟨Nat.le_of_ble_eq_true rfl, Nat.le_of_ble_eq_true rfl⟩ (fun w1 hp => ?_)
  obtain ⟨CB1, SB1, ht, rfl⟩ := hp
  rw [List.nil_append]
  refine j_iconst C eX0_threshold_4 ?_
  refine j_istore_n C eX0_threshold_5 rfl (by decide) (lv' := [(0, .ref (ad 0)), (1, .int (zI 0))]) rfl ?_
  refine j_aload_n C eX0_threshold_6 0 rfl ?_
  refine j_iconst C eX0_threshold_7 ?_
  refine j_callVi C (As := [.int (zI 0)]) (rest := []) (ctX0_spreadAt l D cB cI cZ cL ad w h hs aG aS G S CB1 SB1 DK DR RE PF PK CO rc pn kn cn (fun k => G k % 256) (w * h) (by omega) ht 0 (by omega)) (cwV 1 C.1.2.2.2.2 gX0_threshold_X0_spreadAt rfl rfl rfl (by decide +kernel) ⟨Nat.le_of_ble_eq_true rfl, Nat.le_of_ble_eq_true rfl⟩) [0, 1, 2, 3, 4, 5, 6, 7, 8, 9, 10] [] (wr := []) rfl (by decide) rfl (by decide) (by decide) 0 rfl rfl rfl rfl (Nat.le_of_ble_eq_true rfl) eX0_threshold_8 ⟨Nat.le_of_ble_eq_true rfl, Nat.le_of_ble_eq_true rfl⟩ (fun z w1 hp => ?_)
  obtain ⟨rfl, rfl⟩ := hp
  rw [List.nil_append]
  refine j_istore_n C eX0_threshold_11 rfl (by decide) (lv' := [(0, .ref (ad 0)), (1, .int (zI 0)), (2, .int (zI ((spr (hst (fun k => G k % 256) (w * h))) 0)))]) rfl ?_
  refine j_iconst C eX0_threshold_12 ?_
  refine j_istore_n C eX0_threshold_13 rfl (by decide) (lv' := [(0, .ref (ad 0)), (1, .int (zI 0)), (2, .int (zI ((spr (hst (fun k => G k % 256) (w * h))) 0))), (3, .int (zI 1))]) rfl ?_
  refine lpX0_threshold C hs ht ?_ 255 0 (by omega) (by omega)
  refine j_iload_n C eX0_threshold_45 1 rfl ?_
  exact j_iret C hr hlocks rfl eX0_threshold_46 ⟨CB1, SB1, ht, rfl, by rw [thr_eq]⟩
theorem hwsX0_inverted : ∀ w ∈ u_ws RX0 TX0 16, w ∈ wsX0_inverted := fun _ h => List.mem_cons_of_mem _ (List.mem_append_right _ h)
abbrev rmX0_inverted : Room := { frames := 3, cells := 0, slots := 0, locals := 72 }
set_option maxHeartbeats 4000000 in
set_option maxRecDepth 100000 in
theorem ctX0_inverted (l : Launch) (D : va_G) (cB cI cZ cL : ClassId) (ad : Nat → Nat) (w h : Nat) (hs : Sz w h) (aG aS : Nat) (G S CB SB DK DR RE PF PK CO : Nat → Int) (rc pn kn cn : Int)  : mI l yX0_inverted wsX0_inverted rmX0_inverted D vwCl (tyl cB cI cZ cL) [.ref (ad 0)] (wX cB cI cZ ad w h aG aS G S CB SB DK DR RE PF PK CO rc pn kn cn) 0 0 (fun z w1 => ∃ CB' SB' : Nat → Int, w1 = wX cB cI cZ ad w h aG aS G S CB' SB' DK DR RE PF PK CO rc pn kn cn ∧ z = if ivt (fun k => G k % 256) (w * h) then 1 else 0) := by
  refine mI_of (own := RX0) rfl (by decide) rfl (Nat.le_of_ble_eq_true rfl) ?_
  intro p e s m args below meth c C hr hlocks hname
  show J p l e rmX0_inverted s m args below meth c _ 1 D vwCl _ 0 [(0, .ref (ad 0))] [] (wX cB cI cZ ad w h aG aS G S CB SB DK DR RE PF PK CO rc pn kn cn) 0 0
  have hm := hs.mul
  refine j_aload_n C eX0_inverted_0 0 rfl ?_
  refine j_aload_n C eX0_inverted_1 0 rfl ?_
  refine j_callVi C (As := []) (rest := [.ref (ad 0)]) (ctX0_threshold l D cB cI cZ cL ad w h hs aG aS G S CB SB DK DR RE PF PK CO rc pn kn cn ) (cwV 0 C.1.2.2.2.2 gX0_inverted_X0_threshold rfl rfl rfl (by decide +kernel) ⟨Nat.le_of_ble_eq_true rfl, Nat.le_of_ble_eq_true rfl⟩) [0, 1, 2, 3, 4, 5, 6, 7, 8, 9, 10] [] (wr := []) rfl (by decide) rfl (by decide) (by decide) 0 rfl rfl rfl rfl (Nat.le_of_ble_eq_true rfl) eX0_inverted_2 ⟨Nat.le_of_ble_eq_true rfl, Nat.le_of_ble_eq_true rfl⟩ (fun z w1 hp => ?_)
  obtain ⟨CB1, SB1, ht, rfl, rfl⟩ := hp
  rw [List.nil_append]
  have htl := thr_le (fun k => G k % 256) (w * h)
  have hcb := (ht (thr (fun k => G k % 256) (w * h) + 1) (by omega)).1
  have hcm := cum_in (fun k => G k % 256) (w * h) (thr (fun k => G k % 256) (w * h) + 1)
  refine j_callVi C (As := [.int (zI ((thr (fun k => G k % 256) (w * h)) : Int))]) (rest := []) (ctX0_hasMostlyLow l D cB cI cZ cL ad w h hs aG aS G S CB1 SB1 DK DR RE PF PK CO rc pn kn cn (thr (fun k => G k % 256) (w * h)) (by omega) (by omega)) (cwV 1 C.1.2.2.2.2 gX0_inverted_X0_hasMostlyLow rfl rfl rfl (by decide +kernel) ⟨Nat.le_of_ble_eq_true rfl, Nat.le_of_ble_eq_true rfl⟩) [0, 1, 2, 3, 4, 5, 6, 7, 8, 9, 10] [] (wr := []) rfl (by decide) rfl (by decide) (by decide) 0 rfl rfl rfl rfl (Nat.le_of_ble_eq_true rfl) eX0_inverted_5 ⟨Nat.le_of_ble_eq_true rfl, Nat.le_of_ble_eq_true rfl⟩ (fun z w1 hp => ?_)
  obtain ⟨rfl, rfl⟩ := hp
  rw [List.nil_append]
  rw [hcb]
  exact j_iret C hr hlocks (nar_bool (by split <;> omega)) eX0_inverted_8 ⟨CB1, SB1, rfl, rfl⟩
theorem hwsX0_markDark : ∀ w ∈ u_ws RX0 TX0 16, w ∈ wsX0_markDark := fun _ h => List.mem_cons_of_mem _ (List.mem_append_right _ h)
theorem kX0_markDark_25 : Cond.fieldLink RX0 25 "SheetRows" (TX0 2).2.1 (TX0 2).2.2.1 ∈ wsX0_markDark := by decide +kernel
theorem kX0_markDark_39 : Cond.fieldLink RX0 39 "SheetRows" (TX0 6).2.1 (TX0 6).2.2.1 ∈ wsX0_markDark := by decide +kernel
abbrev rmX0_markDark : Room := { frames := 3, cells := 0, slots := 0, locals := 72 }
set_option maxHeartbeats 4000000 in
set_option maxRecDepth 100000 in
theorem lpX0_markDark {p : Program} {l : Launch} {e : Env} {s : State} {m : MethodId} {args : Array Value} {below : List Frame} {meth : Method} {c : Code} {Q : State → Prop} {D : va_G} {A : Nat → Prop} {cB cI cZ cL : ClassId} {w h : Nat} {ad : Nat → Nat} {aG aS : Nat} {G S CB SB DR RE PF PK CO : Nat → Int} {rc pn kn cn : Int} (C : JC p m c cX0_markDark 5 s args wsX0_markDark RX0 D vwCl (tyl cB cI cZ cL) A) (hs : Sz w h) {d : Int} (hd : (d = 1 ∧ ¬ ivt (fun k => G k % 256) (w * h)) ∨ (d = 0 ∧ ivt (fun k => G k % 256) (w * h))) (kx : ∀ DK : Nat → Int, (∀ k, k < w * h → DK k = dkf (fun k => G k % 256) (w * h) k) → J p l e rmX0_markDark s m args below meth c Q 5 D vwCl A 74 [(0, .ref (ad 0)), (1, .int (zI ((thr (fun k => G k % 256) (w * h)) : Int))), (2, .int (zI d)), (3, .int (zI ((w * h) : Int)))] [] (wX cB cI cZ ad w h aG aS G S CB SB DK DR RE PF PK CO rc pn kn cn) 0 0) : ∀ (n i : Nat) (DK : Nat → Int), i ≤ w * h → w * h - i < n → (∀ k, k < i → DK k = dkf (fun k => G k % 256) (w * h) k) → J p l e rmX0_markDark s m args below meth c Q 5 D vwCl A 21 [(0, .ref (ad 0)), (1, .int (zI ((thr (fun k => G k % 256) (w * h)) : Int))), (2, .int (zI d)), (3, .int (zI (i : Int)))] [] (wX cB cI cZ ad w h aG aS G S CB SB DK DR RE PF PK CO rc pn kn cn) 0 0 := by
  have hm := hs.mul
  have htl := thr_le (fun k => G k % 256) (w * h)
  intro n
  induction n with
  | zero => intro i DK _ hn; exact absurd hn (Nat.not_lt_zero _)
  | succ n ih =>
    intro i DK hi hn hDK
    refine j_iload_n C eX0_markDark_21 3 rfl ?_
    refine j_aload_n C eX0_markDark_22 0 rfl ?_
    refine j_getf C hwsX0_markDark 0 rfl rfl 2 (by decide) kX0_markDark_25 rfl rfl eX0_markDark_23 ?_
    refine j_alen C 1 0 rfl rfl eX0_markDark_26 ?_
    refine j_icmp_ge C 74 eX0_markDark_27 (by decide) (by omega) (by omega) (fun c27 => ?_) (fun c27 => ?_)
    ·
      have he : i = w * h := by omega
      subst he
      exact kx DK hDK
    ·
      refine j_aload_n C eX0_markDark_30 0 rfl ?_
      refine j_getf C hwsX0_markDark 0 rfl rfl 2 (by decide) kX0_markDark_25 rfl rfl eX0_markDark_31 ?_
      refine j_iload_n C eX0_markDark_34 3 rfl ?_
      refine j_bald C 1 0 rfl rfl i rfl (by omega) (by omega) eX0_markDark_35 ?_
      refine j_sipush C eX0_markDark_36 (by decide +kernel) ?_
      refine j_and255 C eX0_markDark_39 ?_
      refine j_iload_n C eX0_markDark_40 1 rfl ?_
      refine j_icmp_gt C 48 eX0_markDark_41 (by decide) (by omega) (by omega) (fun c41 => ?_) (fun c41 => ?_)
      ·
        refine j_iconst C eX0_markDark_48 ?_
        refine j_istore C eX0_markDark_49 rfl (by decide) (lv' := [(0, .ref (ad 0)), (1, .int (zI ((thr (fun k => G k % 256) (w * h)) : Int))), (2, .int (zI d)), (3, .int (zI (i : Int))), (4, .int (zI 0))]) rfl ?_
        refine j_aload_n C eX0_markDark_51 0 rfl ?_
        refine j_getf C hwsX0_markDark 0 rfl rfl 6 (by decide) kX0_markDark_39 rfl rfl eX0_markDark_52 ?_
        refine j_iload_n C eX0_markDark_55 3 rfl ?_
        refine j_iload C eX0_markDark_56 4 rfl ?_
        refine j_iload_n C eX0_markDark_58 2 rfl ?_
        refine j_icmp_ne C 66 eX0_markDark_59 (by decide) (by omega) (by omega) (fun c59 => ?_) (fun c59 => ?_)
        ·
          refine j_iconst C eX0_markDark_66 ?_
          refine j_zast C 5 2 rfl rfl i rfl (by omega) (by omega) (nar_z (by omega)) eX0_markDark_67 (wd' := wX cB cI cZ ad w h aG aS G S CB SB (zup DK i 0) DR RE PF PK CO rc pn kn cn) rfl ?_
          refine j_iinc C eX0_markDark_68 3 rfl rfl (by decide) (lv' := [(0, .ref (ad 0)), (1, .int (zI ((thr (fun k => G k % 256) (w * h)) : Int))), (2, .int (zI d)), (3, .int (zI ((i : Int) + 1))), (4, .int (zI 0))]) rfl ?_
          refine j_goto C 21 eX0_markDark_71 (by decide) ?_
          refine j_loc [0, 1, 2, 3] (lv' := [(0, .ref (ad 0)), (1, .int (zI ((thr (fun k => G k % 256) (w * h)) : Int))), (2, .int (zI d)), (3, .int (zI ((i : Int) + 1)))]) rfl ?_
          refine ih (i + 1) _ (by omega) (by omega) (fun k hk => ?_)
          by_cases e : k = i
          · subst e
            rw [zup_s]
            unfold dkf
            rw [if_neg]
            rcases hd with ⟨q1, q2⟩ | ⟨q1, q2⟩
            · intro z; have z2 : G k % 256 ≤ ((thr (fun k => G k % 256) (w * h) : Nat) : Int) := z.mpr q2; omega
            · intro z; exact z.mp (by omega) q2
          · rw [zup_n e]; exact hDK k (by omega)
        ·
          refine j_iconst C eX0_markDark_62 ?_
          refine j_goto C 67 eX0_markDark_63 (by decide) ?_
          refine j_zast C 5 2 rfl rfl i rfl (by omega) (by omega) (nar_z (by omega)) eX0_markDark_67 (wd' := wX cB cI cZ ad w h aG aS G S CB SB (zup DK i 1) DR RE PF PK CO rc pn kn cn) rfl ?_
          refine j_iinc C eX0_markDark_68 3 rfl rfl (by decide) (lv' := [(0, .ref (ad 0)), (1, .int (zI ((thr (fun k => G k % 256) (w * h)) : Int))), (2, .int (zI d)), (3, .int (zI ((i : Int) + 1))), (4, .int (zI 0))]) rfl ?_
          refine j_goto C 21 eX0_markDark_71 (by decide) ?_
          refine j_loc [0, 1, 2, 3] (lv' := [(0, .ref (ad 0)), (1, .int (zI ((thr (fun k => G k % 256) (w * h)) : Int))), (2, .int (zI d)), (3, .int (zI ((i : Int) + 1)))]) rfl ?_
          refine ih (i + 1) _ (by omega) (by omega) (fun k hk => ?_)
          by_cases e : k = i
          · subst e
            rw [zup_s]
            unfold dkf
            rw [if_pos]
            rcases hd with ⟨q1, q2⟩ | ⟨q1, q2⟩
            · exact ⟨fun _ => q2, fun _ => by omega⟩
            · exact ⟨fun z => by have z2 : G k % 256 ≤ ((thr (fun k => G k % 256) (w * h) : Nat) : Int) := z; omega, fun z => absurd q2 z⟩
          · rw [zup_n e]; exact hDK k (by omega)
      ·
        refine j_iconst C eX0_markDark_44 ?_
        refine j_goto C 49 eX0_markDark_45 (by decide) ?_
        refine j_istore C eX0_markDark_49 rfl (by decide) (lv' := [(0, .ref (ad 0)), (1, .int (zI ((thr (fun k => G k % 256) (w * h)) : Int))), (2, .int (zI d)), (3, .int (zI (i : Int))), (4, .int (zI 1))]) rfl ?_
        refine j_aload_n C eX0_markDark_51 0 rfl ?_
        refine j_getf C hwsX0_markDark 0 rfl rfl 6 (by decide) kX0_markDark_39 rfl rfl eX0_markDark_52 ?_
        refine j_iload_n C eX0_markDark_55 3 rfl ?_
        refine j_iload C eX0_markDark_56 4 rfl ?_
        refine j_iload_n C eX0_markDark_58 2 rfl ?_
        refine j_icmp_ne C 66 eX0_markDark_59 (by decide) (by omega) (by omega) (fun c59 => ?_) (fun c59 => ?_)
        ·
          refine j_iconst C eX0_markDark_66 ?_
          refine j_zast C 5 2 rfl rfl i rfl (by omega) (by omega) (nar_z (by omega)) eX0_markDark_67 (wd' := wX cB cI cZ ad w h aG aS G S CB SB (zup DK i 0) DR RE PF PK CO rc pn kn cn) rfl ?_
          refine j_iinc C eX0_markDark_68 3 rfl rfl (by decide) (lv' := [(0, .ref (ad 0)), (1, .int (zI ((thr (fun k => G k % 256) (w * h)) : Int))), (2, .int (zI d)), (3, .int (zI ((i : Int) + 1))), (4, .int (zI 1))]) rfl ?_
          refine j_goto C 21 eX0_markDark_71 (by decide) ?_
          refine j_loc [0, 1, 2, 3] (lv' := [(0, .ref (ad 0)), (1, .int (zI ((thr (fun k => G k % 256) (w * h)) : Int))), (2, .int (zI d)), (3, .int (zI ((i : Int) + 1)))]) rfl ?_
          refine ih (i + 1) _ (by omega) (by omega) (fun k hk => ?_)
          by_cases e : k = i
          · subst e
            rw [zup_s]
            unfold dkf
            rw [if_neg]
            rcases hd with ⟨q1, q2⟩ | ⟨q1, q2⟩
            · intro z; have z2 : G k % 256 ≤ ((thr (fun k => G k % 256) (w * h) : Nat) : Int) := z.mpr q2; omega
            · intro z; exact z.mp (by omega) q2
          · rw [zup_n e]; exact hDK k (by omega)
        ·
          refine j_iconst C eX0_markDark_62 ?_
          refine j_goto C 67 eX0_markDark_63 (by decide) ?_
          refine j_zast C 5 2 rfl rfl i rfl (by omega) (by omega) (nar_z (by omega)) eX0_markDark_67 (wd' := wX cB cI cZ ad w h aG aS G S CB SB (zup DK i 1) DR RE PF PK CO rc pn kn cn) rfl ?_
          refine j_iinc C eX0_markDark_68 3 rfl rfl (by decide) (lv' := [(0, .ref (ad 0)), (1, .int (zI ((thr (fun k => G k % 256) (w * h)) : Int))), (2, .int (zI d)), (3, .int (zI ((i : Int) + 1))), (4, .int (zI 1))]) rfl ?_
          refine j_goto C 21 eX0_markDark_71 (by decide) ?_
          refine j_loc [0, 1, 2, 3] (lv' := [(0, .ref (ad 0)), (1, .int (zI ((thr (fun k => G k % 256) (w * h)) : Int))), (2, .int (zI d)), (3, .int (zI ((i : Int) + 1)))]) rfl ?_
          refine ih (i + 1) _ (by omega) (by omega) (fun k hk => ?_)
          by_cases e : k = i
          · subst e
            rw [zup_s]
            unfold dkf
            rw [if_pos]
            rcases hd with ⟨q1, q2⟩ | ⟨q1, q2⟩
            · exact ⟨fun _ => q2, fun _ => by omega⟩
            · exact ⟨fun z => by have z2 : G k % 256 ≤ ((thr (fun k => G k % 256) (w * h) : Nat) : Int) := z; omega, fun z => absurd q2 z⟩
          · rw [zup_n e]; exact hDK k (by omega)
set_option maxHeartbeats 4000000 in
set_option maxRecDepth 100000 in
theorem ctX0_markDark (l : Launch) (D : va_G) (cB cI cZ cL : ClassId) (ad : Nat → Nat) (w h : Nat) (hs : Sz w h) (aG aS : Nat) (G S CB SB DK DR RE PF PK CO : Nat → Int) (rc pn kn cn : Int)  : mV l yX0_markDark wsX0_markDark rmX0_markDark D vwCl (tyl cB cI cZ cL) [.ref (ad 0)] (wX cB cI cZ ad w h aG aS G S CB SB DK DR RE PF PK CO rc pn kn cn) 0 0 (fun w1 => ∃ CB' SB' DK' : Nat → Int, (∀ k, k < w * h → DK' k = dkf (fun k => G k % 256) (w * h) k) ∧ w1 = wX cB cI cZ ad w h aG aS G S CB' SB' DK' DR RE PF PK CO rc pn kn cn) := by
  refine mV_of (own := RX0) rfl (by decide) rfl (Nat.le_of_ble_eq_true rfl) ?_
  intro p e s m args below meth c C hr hlocks hname
  show J p l e rmX0_markDark s m args below meth c _ 5 D vwCl _ 0 [(0, .ref (ad 0))] [] (wX cB cI cZ ad w h aG aS G S CB SB DK DR RE PF PK CO rc pn kn cn) 0 0
  have hm := hs.mul
  refine j_aload_n C eX0_markDark_0 0 rfl ?_
  refine j_callVi C (As := []) (rest := []) (ctX0_threshold l D cB cI cZ cL ad w h hs aG aS G S CB SB DK DR RE PF PK CO rc pn kn cn ) (cwV 0 C.1.2.2.2.2 gX0_markDark_X0_threshold rfl rfl rfl (by decide +kernel) ⟨Nat.le_of_ble_eq_true rfl, Nat.le_of_ble_eq_true rfl⟩) [0, 1, 2, 3, 4, 5, 6, 7, 8, 9, 10] [] (wr := []) rfl (by decide) rfl (by decide) (by decide) 0 rfl rfl rfl rfl (Nat.le_of_ble_eq_true rfl) eX0_markDark_1 ⟨Nat.le_of_ble_eq_true rfl, Nat.le_of_ble_eq_true rfl⟩ (fun z w1 hp => ?_)
  obtain ⟨CB1, SB1, ht, rfl, rfl⟩ := hp
  rw [List.nil_append]
  refine j_istore_n C eX0_markDark_4 rfl (by decide) (lv' := [(0, .ref (ad 0)), (1, .int (zI ((thr (fun k => G k % 256) (w * h)) : Int)))]) rfl ?_
  refine j_aload_n C eX0_markDark_5 0 rfl ?_
  refine j_iload_n C eX0_markDark_6 1 rfl ?_
  have htl := thr_le (fun k => G k % 256) (w * h)
  have hcb := (ht (thr (fun k => G k % 256) (w * h) + 1) (by omega)).1
  have hcm := cum_in (fun k => G k % 256) (w * h) (thr (fun k => G k % 256) (w * h) + 1)
  refine j_callVi C (As := [.int (zI ((thr (fun k => G k % 256) (w * h)) : Int))]) (rest := []) (ctX0_hasMostlyLow l D cB cI cZ cL ad w h hs aG aS G S CB1 SB1 DK DR RE PF PK CO rc pn kn cn (thr (fun k => G k % 256) (w * h)) (by omega) (by omega)) (cwV 1 C.1.2.2.2.2 gX0_markDark_X0_hasMostlyLow rfl rfl rfl (by decide +kernel) ⟨Nat.le_of_ble_eq_true rfl, Nat.le_of_ble_eq_true rfl⟩) [0, 1, 2, 3, 4, 5, 6, 7, 8, 9, 10] [] (wr := []) rfl (by decide) rfl (by decide) (by decide) 0 rfl rfl rfl rfl (Nat.le_of_ble_eq_true rfl) eX0_markDark_7 ⟨Nat.le_of_ble_eq_true rfl, Nat.le_of_ble_eq_true rfl⟩ (fun z w1 hp => ?_)
  obtain ⟨rfl, rfl⟩ := hp
  rw [List.nil_append]
  rw [hcb]
  obtain ⟨e0, he0⟩ : ∃ e0 : Int, e0 = (if ((w * h : Nat) : Int) < 2 * sumN (hst (fun k => G k % 256) (w * h)) (thr (fun k => G k % 256) (w * h) + 1) then 1 else 0) := ⟨_, rfl⟩
  rw [← he0]
  have he1 : (e0 = 1 ∧ ivt (fun k => G k % 256) (w * h)) ∨ (e0 = 0 ∧ ¬ ivt (fun k => G k % 256) (w * h)) := by
    rw [he0]
    by_cases c : ivt (fun k => G k % 256) (w * h)
    · exact Or.inl ⟨if_pos c, c⟩
    · exact Or.inr ⟨if_neg c, c⟩
  refine j_if_ne C 17 eX0_markDark_10 (by decide) (by omega) (fun c10 => ?_) (fun c10 => ?_)
  ·
    refine j_iconst C eX0_markDark_17 ?_
    refine j_istore_n C eX0_markDark_18 rfl (by decide) (lv' := [(0, .ref (ad 0)), (1, .int (zI ((thr (fun k => G k % 256) (w * h)) : Int))), (2, .int (zI 0))]) rfl ?_
    refine j_iconst C eX0_markDark_19 ?_
    refine j_istore_n C eX0_markDark_20 rfl (by decide) (lv' := [(0, .ref (ad 0)), (1, .int (zI ((thr (fun k => G k % 256) (w * h)) : Int))), (2, .int (zI 0)), (3, .int (zI 0))]) rfl ?_
    refine j_loc [0, 1, 2, 3] (lv' := [(0, .ref (ad 0)), (1, .int (zI ((thr (fun k => G k % 256) (w * h)) : Int))), (2, .int (zI 0)), (3, .int (zI 0))]) rfl ?_
    have hd9 : (0 = (1 : Int) ∧ ¬ ivt (fun k => G k % 256) (w * h)) ∨ (0 = (0 : Int) ∧ ivt (fun k => G k % 256) (w * h)) := by
      rcases he1 with ⟨q1, q2⟩ | ⟨q1, q2⟩
      · exact Or.inr ⟨rfl, q2⟩
      · omega
    refine lpX0_markDark C hs (d := 0) hd9 (fun DK' hDK' => ?_) (w * h + 1) 0 DK (by omega) (by omega) (fun k hk => absurd hk (Nat.not_lt_zero _))
    exact j_vret C hr hlocks eX0_markDark_74 ⟨CB1, SB1, DK', hDK', rfl⟩
  ·
    refine j_iconst C eX0_markDark_13 ?_
    refine j_goto C 18 eX0_markDark_14 (by decide) ?_
    refine j_istore_n C eX0_markDark_18 rfl (by decide) (lv' := [(0, .ref (ad 0)), (1, .int (zI ((thr (fun k => G k % 256) (w * h)) : Int))), (2, .int (zI 1))]) rfl ?_
    refine j_iconst C eX0_markDark_19 ?_
    refine j_istore_n C eX0_markDark_20 rfl (by decide) (lv' := [(0, .ref (ad 0)), (1, .int (zI ((thr (fun k => G k % 256) (w * h)) : Int))), (2, .int (zI 1)), (3, .int (zI 0))]) rfl ?_
    refine j_loc [0, 1, 2, 3] (lv' := [(0, .ref (ad 0)), (1, .int (zI ((thr (fun k => G k % 256) (w * h)) : Int))), (2, .int (zI 1)), (3, .int (zI 0))]) rfl ?_
    have hd9 : (1 = (1 : Int) ∧ ¬ ivt (fun k => G k % 256) (w * h)) ∨ (1 = (0 : Int) ∧ ivt (fun k => G k % 256) (w * h)) := by
      rcases he1 with ⟨q1, q2⟩ | ⟨q1, q2⟩
      · omega
      · exact Or.inl ⟨rfl, q2⟩
    refine lpX0_markDark C hs (d := 1) hd9 (fun DK' hDK' => ?_) (w * h + 1) 0 DK (by omega) (by omega) (fun k hk => absurd hk (Nat.not_lt_zero _))
    exact j_vret C hr hlocks eX0_markDark_74 ⟨CB1, SB1, DK', hDK', rfl⟩
