/-! THE CLASS: parts -/
theorem td_nat (a b : Nat) : (a : Int).tdiv (b : Int) = ((a / b : Nat) : Int) := by
  rw [Int.tdiv_eq_ediv_of_nonneg (Int.natCast_nonneg a)]
  exact (Int.natCast_ediv a b).symm
theorem mV_mono {l : Launch} {y : MethodName} {ws : List Cond} {rm : Room} {D : va_G} {cl : List vw_C} {tys : List (ClassId × FieldType)} {av : List Value} {w0 : va_W} {mc ms : Nat} {post post' : va_W → Prop} (h : mV l y ws rm D cl tys av w0 mc ms post) (hp : ∀ w1, post w1 → post' w1) : mV l y ws rm D cl tys av w0 mc ms post' := by
  intro sz p e ha hc hk s m args below hf happ hP hK
  obtain ⟨n, o, a1, a2, a3, ⟨⟨u, q1, q2, q3⟩, q4⟩, q5⟩ := h sz p e ha hc hk s m args below hf happ hP hK
  exact ⟨n, o, a1, a2, a3, ⟨⟨u, q1, hp _ q2, q3⟩, q4⟩, q5⟩
theorem mI_mono {l : Launch} {y : MethodName} {ws : List Cond} {rm : Room} {D : va_G} {cl : List vw_C} {tys : List (ClassId × FieldType)} {av : List Value} {w0 : va_W} {mc ms : Nat} {post post' : Int → va_W → Prop} (h : mI l y ws rm D cl tys av w0 mc ms post) (hp : ∀ z w1, post z w1 → post' z w1) : mI l y ws rm D cl tys av w0 mc ms post' := by
  intro sz p e ha hc hk s m args below hf happ hP hK
  obtain ⟨n, o, a1, a2, a3, ⟨⟨r, u, q1, ⟨z, q2, q2'⟩, q3⟩, q4⟩, q5⟩ := h sz p e ha hc hk s m args below hf happ hP hK
  exact ⟨n, o, a1, a2, a3, ⟨⟨r, u, q1, ⟨z, q2, hp _ _ q2'⟩, q3⟩, q4⟩, q5⟩
theorem ix_mod {w x y : Nat} (hx : x < w) : (y * w + x) % w = x := by rw [Nat.add_comm, Nat.add_mul_mod_self_right]; exact Nat.mod_eq_of_lt hx
theorem ix_div {w x y : Nat} (hx : x < w) : (y * w + x) / w = y := by
  rw [Nat.add_comm, Nat.add_mul_div_right _ _ (by omega), Nat.div_eq_of_lt hx, Nat.zero_add]
theorem ctX0_reach2 (l : Launch) (D : va_G) (cB cI cZ cL : ClassId) (ad : Nat → Nat) (w h : Nat) (hs : Sz w h) (aG aS : Nat) (G S CB SB DK DR RE PF PK CO : Nat → Int) (pn kn cn : Int) (P : Nat → Prop) (q r : Nat) (hq : q < w * h) (hP : P q) (hd : ∀ k, k < w * h → DK k = 0 ∨ DK k = 1) (hr : (r : Int) + sumN DK (w * h) ≤ ((w * h : Nat) : Int)) : mV l yX0_reach wsX0_reach rmX0_reach D vwCl (tyl cB cI cZ cL) [.ref (ad 0), .int (zI (q : Int))] (wX cB cI cZ ad w h aG aS G S CB SB DK DR RE PF PK CO (r : Int) pn kn cn) 0 0 (fun w1 => ∃ (DK' RE' : Nat → Int) (r' : Nat), trn (w * h) P DK RE r DK' RE' r' ∧ DK' q = 0 ∧ w1 = wX cB cI cZ ad w h aG aS G S CB SB DK' DR RE' PF PK CO (r' : Int) pn kn cn) := by
  refine mV_mono (ctX0_reach l D cB cI cZ cL ad w h hs aG aS G S CB SB DK DR RE PF PK CO pn kn cn q r hq (fun h1 => ?_) (hd q hq)) (fun w1 hp => ?_)
  · have h2 := sumN_one (f := fun _ => 0) (g := DK) (q := q) (n := w * h) hq
    have h3 : sumN DK (w * h) = sumN (zup DK q 0) (w * h) + 1 := by
      have := sumN_one (f := zup DK q 0) (g := DK) hq (fun k _ hne => zup_n hne)
      rw [zup_s, h1] at this
      omega
    have h4 := sumN_nn (f := zup DK q 0) (n := w * h) (fun k hk => by
      by_cases e : k = q
      · subst e; rw [zup_s]; exact Int.le_refl _
      · rw [zup_n e]; have := hd k hk; omega)
    omega
  · by_cases c : DK q = 1
    · rw [if_pos c] at hp
      exact ⟨_, _, r + 1, trn_put hd hq c hP, zup_s, hp⟩
    · rw [if_neg c] at hp
      exact ⟨_, _, r, trn_refl hd, by have := hd q hq; omega, hp⟩
theorem trn_sum {n : Nat} {P : Nat → Prop} {DK RE : Nat → Int} {r : Nat} {DK' RE' : Nat → Int} {r' : Nat} (h : trn n P DK RE r DK' RE' r') : (r' : Int) + sumN DK' n = (r : Int) + sumN DK n := by
  have h1 := h.2.2.2.2.2 (fun _ => 1)
  rw [sumN_c, sumN_c] at h1
  simpa using h1
theorem trn_z {n : Nat} {P : Nat → Prop} {DK RE : Nat → Int} {r : Nat} {DK' RE' : Nat → Int} {r' : Nat} (h : trn n P DK RE r DK' RE' r') {q : Nat} (hq : q < n) (h0 : DK q = 0) : DK' q = 0 := by
  rcases h.2.2.2.2.1 q hq with z | z
  · exact z
  · have := ((h.2.2.2.1 q hq).mp z).1
    omega
theorem hwsX0_reachAround : ∀ w ∈ u_ws RX0 TX0 16, w ∈ wsX0_reachAround := fun _ h => List.mem_cons_of_mem _ (List.mem_append_right _ h)
theorem kX0_reachAround_18 : Cond.fieldLink RX0 18 "SheetRows" (TX0 0).2.1 (TX0 0).2.2.1 ∈ wsX0_reachAround := by decide +kernel
theorem kX0_reachAround_22 : Cond.fieldLink RX0 22 "SheetRows" (TX0 1).2.1 (TX0 1).2.2.1 ∈ wsX0_reachAround := by decide +kernel
theorem kmX0_reachAround_9 : Cond.methodLink RX0 9 Lib.Math.min.name ∈ wsX0_reachAround ∧ Cond.static Lib.Math.min.name ∈ wsX0_reachAround ∧ Cond.initialized "java/lang/Math" ∈ wsX0_reachAround ∧ Cond.code Lib.Math.min.name Lib.Math.min.code 2 (some .int) ∈ wsX0_reachAround := ⟨by decide +kernel, by decide +kernel, by decide +kernel, by decide +kernel⟩
theorem kmX0_reachAround_15 : Cond.methodLink RX0 15 Lib.Math.max.name ∈ wsX0_reachAround ∧ Cond.static Lib.Math.max.name ∈ wsX0_reachAround ∧ Cond.initialized "java/lang/Math" ∈ wsX0_reachAround ∧ Cond.code Lib.Math.max.name Lib.Math.max.code 2 (some .int) ∈ wsX0_reachAround := ⟨by decide +kernel, by decide +kernel, by decide +kernel, by decide +kernel⟩
abbrev rmX0_reachAround : Room := { frames := 1, cells := 0, slots := 0, locals := 21 }
set_option maxHeartbeats 4000000 in
set_option maxRecDepth 100000 in
theorem lqX0_reachAround {p : Program} {l : Launch} {e : Env} {s : State} {m : MethodId} {args : Array Value} {below : List Frame} {meth : Method} {c : Code} {Q : State → Prop} {D : va_G} {A : Nat → Prop} {cB cI cZ cL : ClassId} {w h : Nat} {ad : Nat → Nat} {aG aS : Nat} {G S CB SB DR PF PK CO : Nat → Int} {pn kn cn : Int} (C : JC p m c cX0_reachAround 5 s args wsX0_reachAround RX0 D vwCl (tyl cB cI cZ cL) A) (hs : Sz w h) {D0 R0 : Nat → Int} {r0 : Nat} (h9 : (r0 : Int) + sumN D0 (w * h) ≤ ((w * h : Nat) : Int)) {x y ro : Nat} (hx : x < w) (hy : y < h) (hro : ro < h) (hr1 : ro ≤ y + 1) (hr2 : y ≤ ro + 1) (kx : ∀ (DK RE : Nat → Int) (r : Nat), trn (w * h) (fun q => adj w (y * w + x) q) D0 R0 r0 DK RE r → (∀ y' x', y' < ro + 1 → y ≤ y' + 1 → x ≤ x' + 1 → x' ≤ x + 1 → x' < w → DK (y' * w + x') = 0) → ∀ co : Nat, J p l e rmX0_reachAround s m args below meth c Q 5 D vwCl A 69 [(0, .ref (ad 0)), (1, .int (zI (x : Int))), (2, .int (zI (y : Int))), (3, .int (zI (ro : Int))), (4, .int (zI (co : Int)))] [] (wX cB cI cZ ad w h aG aS G S CB SB DK DR RE PF PK CO (r : Int) pn kn cn) 0 0) : ∀ (n co : Nat) (DK RE : Nat → Int) (r : Nat), x ≤ co + 1 → co ≤ min w (x + 2) → w + 1 - co < n → trn (w * h) (fun q => adj w (y * w + x) q) D0 R0 r0 DK RE r → (∀ y' x', y' < ro → y ≤ y' + 1 → x ≤ x' + 1 → x' ≤ x + 1 → x' < w → DK (y' * w + x') = 0) → (∀ x', x' < co → x ≤ x' + 1 → x' < w → DK (ro * w + x') = 0) → J p l e rmX0_reachAround s m args below meth c Q 5 D vwCl A 33 [(0, .ref (ad 0)), (1, .int (zI (x : Int))), (2, .int (zI (y : Int))), (3, .int (zI (ro : Int))), (4, .int (zI (co : Int)))] [] (wX cB cI cZ ad w h aG aS G S CB SB DK DR RE PF PK CO (r : Int) pn kn cn) 0 0 := by
  have hm := hs.mul
  obtain ⟨h1, h2, h3, h4⟩ := id hs
  intro n
  induction n with
  | zero => intro co DK RE r _ _ hn; exact absurd hn (Nat.not_lt_zero _)
  | succ n ih =>
    intro co DK RE r hc1 hc2 hn hT hV hC
    refine j_iload C eX0_reachAround_33 4 rfl ?_
    refine j_aload_n C eX0_reachAround_35 0 rfl ?_
    refine j_getf C hwsX0_reachAround 0 rfl rfl 0 (by decide) kX0_reachAround_18 rfl rfl eX0_reachAround_36 ?_
    refine j_iconst C eX0_reachAround_39 ?_
    refine j_isub C eX0_reachAround_40 ?_
    refine j_iload_n C eX0_reachAround_41 1 rfl ?_
    refine j_iconst C eX0_reachAround_42 ?_
    refine j_iadd C eX0_reachAround_43 ?_
    refine j_mmin C kmX0_reachAround_9.1 kmX0_reachAround_9.2.1 kmX0_reachAround_9.2.2.1 kmX0_reachAround_9.2.2.2 (Nat.le_of_ble_eq_true rfl) (Nat.le_of_ble_eq_true rfl) ⟨Nat.le_of_ble_eq_true rfl, Nat.le_of_ble_eq_true rfl⟩ (by omega) (by omega) eX0_reachAround_44 ?_
    refine j_icmp_gt C 69 eX0_reachAround_47 (by decide) (by omega) (by omega) (fun c47 => ?_) (fun c47 => ?_)
    ·
      refine kx DK RE r hT (fun y' x' q1 q2 q3 q4 q5 => ?_) co
      by_cases e : y' = ro
      · subst e; exact hC x' (by omega) q3 q5
      · exact hV y' x' (by omega) q2 q3 q4 q5
    ·
      refine j_aload_n C eX0_reachAround_50 0 rfl ?_
      refine j_iload_n C eX0_reachAround_51 3 rfl ?_
      refine j_aload_n C eX0_reachAround_52 0 rfl ?_
      refine j_getf C hwsX0_reachAround 0 rfl rfl 0 (by decide) kX0_reachAround_18 rfl rfl eX0_reachAround_53 ?_
      refine j_imul C eX0_reachAround_56 ?_
      refine j_iload C eX0_reachAround_57 4 rfl ?_
      refine j_iadd C eX0_reachAround_59 ?_
      have h7 := ix_lt (w := w) (h := h) (x := co) (y := ro) (by omega) hro
      have hsum := trn_sum hT
      have e9 : (ro : Int) * (w : Int) + (co : Int) = ((ro * w + co : Nat) : Int) := by push_cast; rfl
      rw [e9]
      have hadj : adj w (y * w + x) (ro * w + co) := by
        unfold adj
        rw [ix_mod hx, ix_div hx, ix_mod (by omega), ix_div (by omega)]
        omega
      refine j_callVv C (As := [.int (zI ((ro * w + co : Nat) : Int))]) (rest := []) (ctX0_reach2 l D cB cI cZ cL ad w h hs aG aS G S CB SB DK DR RE PF PK CO pn kn cn (fun q => adj w (y * w + x) q) (ro * w + co) r h7 hadj hT.2.2.2.2.1 (by omega)) (cwV 1 C.1.2.2.2.2 gX0_reachAround_X0_reach rfl rfl rfl (by decide +kernel) ⟨Nat.le_of_ble_eq_true rfl, Nat.le_of_ble_eq_true rfl⟩) [0, 1, 2, 3, 4, 5, 6, 7, 8, 9, 10] [] (wr := []) rfl (by decide) rfl (by decide) (by decide) 0 rfl rfl rfl rfl (Nat.le_of_ble_eq_true rfl) eX0_reachAround_60 ⟨Nat.le_of_ble_eq_true rfl, Nat.le_of_ble_eq_true rfl⟩ (fun w1 hp => ?_)
      obtain ⟨DK', RE', r', hT', hz, rfl⟩ := hp
      rw [List.nil_append]
      refine j_iinc C eX0_reachAround_63 4 rfl rfl (by decide) (lv' := [(0, .ref (ad 0)), (1, .int (zI (x : Int))), (2, .int (zI (y : Int))), (3, .int (zI (ro : Int))), (4, .int (zI ((co : Int) + 1)))]) rfl ?_
      refine j_goto C 33 eX0_reachAround_66 (by decide) ?_
      refine ih (co + 1) DK' RE' r' (by omega) (by omega) (by omega) (trn_trans hT hT') (fun y' x' q1 q2 q3 q4 q5 => trn_z hT' (ix_lt q5 (by omega)) (hV y' x' q1 q2 q3 q4 q5)) (fun x' q1 q2 q3 => ?_)
      by_cases e : x' = co
      · subst e; exact hz
      · exact trn_z hT' (ix_lt q3 hro) (hC x' (by omega) q2 q3)
set_option maxHeartbeats 4000000 in
set_option maxRecDepth 100000 in
theorem lpX0_reachAround {p : Program} {l : Launch} {e : Env} {s : State} {m : MethodId} {args : Array Value} {below : List Frame} {meth : Method} {c : Code} {Q : State → Prop} {D : va_G} {A : Nat → Prop} {cB cI cZ cL : ClassId} {w h : Nat} {ad : Nat → Nat} {aG aS : Nat} {G S CB SB DR PF PK CO : Nat → Int} {pn kn cn : Int} (C : JC p m c cX0_reachAround 5 s args wsX0_reachAround RX0 D vwCl (tyl cB cI cZ cL) A) (hs : Sz w h) {D0 R0 : Nat → Int} {r0 : Nat} (h9 : (r0 : Int) + sumN D0 (w * h) ≤ ((w * h : Nat) : Int)) {x y : Nat} (hx : x < w) (hy : y < h) (kx : ∀ (DK RE : Nat → Int) (r : Nat), trn (w * h) (fun q => adj w (y * w + x) q) D0 R0 r0 DK RE r → (∀ q, q < w * h → adj w (y * w + x) q → DK q = 0) → ∀ ro : Nat, J p l e rmX0_reachAround s m args below meth c Q 5 D vwCl A 75 [(0, .ref (ad 0)), (1, .int (zI (x : Int))), (2, .int (zI (y : Int))), (3, .int (zI (ro : Int)))] [] (wX cB cI cZ ad w h aG aS G S CB SB DK DR RE PF PK CO (r : Int) pn kn cn) 0 0) : ∀ (n ro : Nat) (DK RE : Nat → Int) (r : Nat), y ≤ ro + 1 → ro ≤ min h (y + 2) → h + 1 - ro < n → trn (w * h) (fun q => adj w (y * w + x) q) D0 R0 r0 DK RE r → (∀ y' x', y' < ro → y ≤ y' + 1 → x ≤ x' + 1 → x' ≤ x + 1 → x' < w → DK (y' * w + x') = 0) → J p l e rmX0_reachAround s m args below meth c Q 5 D vwCl A 8 [(0, .ref (ad 0)), (1, .int (zI (x : Int))), (2, .int (zI (y : Int))), (3, .int (zI (ro : Int)))] [] (wX cB cI cZ ad w h aG aS G S CB SB DK DR RE PF PK CO (r : Int) pn kn cn) 0 0 := by
  have hm := hs.mul
  obtain ⟨h1, h2, h3, h4⟩ := id hs
  intro n
  induction n with
  | zero => intro ro DK RE r _ _ hn; exact absurd hn (Nat.not_lt_zero _)
  | succ n ih =>
    intro ro DK RE r hc1 hc2 hn hT hV
    refine j_iload_n C eX0_reachAround_8 3 rfl ?_
    refine j_aload_n C eX0_reachAround_9 0 rfl ?_
    refine j_getf C hwsX0_reachAround 0 rfl rfl 1 (by decide) kX0_reachAround_22 rfl rfl eX0_reachAround_10 ?_
    refine j_iconst C eX0_reachAround_13 ?_
    refine j_isub C eX0_reachAround_14 ?_
    refine j_iload_n C eX0_reachAround_15 2 rfl ?_
    refine j_iconst C eX0_reachAround_16 ?_
    refine j_iadd C eX0_reachAround_17 ?_
    refine j_mmin C kmX0_reachAround_9.1 kmX0_reachAround_9.2.1 kmX0_reachAround_9.2.2.1 kmX0_reachAround_9.2.2.2 (Nat.le_of_ble_eq_true rfl) (Nat.le_of_ble_eq_true rfl) ⟨Nat.le_of_ble_eq_true rfl, Nat.le_of_ble_eq_true rfl⟩ (by omega) (by omega) eX0_reachAround_18 ?_
    refine j_icmp_gt C 75 eX0_reachAround_21 (by decide) (by omega) (by omega) (fun c21 => ?_) (fun c21 => ?_)
    ·
      refine kx DK RE r hT (fun q hq ha => ?_) ro
      obtain ⟨e1, e2, e3⟩ := ix_of h1 hq
      unfold adj at ha
      rw [ix_mod hx, ix_div hx] at ha
      have := hV (q / w) (q % w) (by omega) (by omega) (by omega) (by omega) e2
      rw [e3] at this
      exact this
    ·
      refine j_iconst C eX0_reachAround_24 ?_
      refine j_iload_n C eX0_reachAround_25 1 rfl ?_
      refine j_iconst C eX0_reachAround_26 ?_
      refine j_isub C eX0_reachAround_27 ?_
      refine j_mmax C kmX0_reachAround_15.1 kmX0_reachAround_15.2.1 kmX0_reachAround_15.2.2.1 kmX0_reachAround_15.2.2.2 (Nat.le_of_ble_eq_true rfl) (Nat.le_of_ble_eq_true rfl) ⟨Nat.le_of_ble_eq_true rfl, Nat.le_of_ble_eq_true rfl⟩ (by omega) (by omega) eX0_reachAround_28 ?_
      rw [show (max 0 ((x : Int) - 1)) = ((x - 1 : Nat) : Int) by omega]
      refine j_istore C eX0_reachAround_31 rfl (by decide) (lv' := [(0, .ref (ad 0)), (1, .int (zI (x : Int))), (2, .int (zI (y : Int))), (3, .int (zI (ro : Int))), (4, .int (zI ((x - 1 : Nat) : Int)))]) rfl ?_
      refine lqX0_reachAround C hs h9 hx hy (by omega) (by omega) (by omega) (fun DK' RE' r' hT' hV' co => ?_) (w + 2) (x - 1) DK RE r (by omega) (by omega) (by omega) hT hV (fun x' q1 q2 q3 => by omega)
      refine j_iinc C eX0_reachAround_69 3 rfl rfl (by decide) (lv' := [(0, .ref (ad 0)), (1, .int (zI (x : Int))), (2, .int (zI (y : Int))), (3, .int (zI ((ro : Int) + 1))), (4, .int (zI (co : Int)))]) rfl ?_
      refine j_goto C 8 eX0_reachAround_72 (by decide) ?_
      refine j_loc [0, 1, 2, 3] (lv' := [(0, .ref (ad 0)), (1, .int (zI (x : Int))), (2, .int (zI (y : Int))), (3, .int (zI ((ro : Int) + 1)))]) rfl ?_
      exact ih (ro + 1) DK' RE' r' (by omega) (by omega) (by omega) hT' hV'
set_option maxHeartbeats 4000000 in
set_option maxRecDepth 100000 in
theorem ctX0_reachAround (l : Launch) (D : va_G) (cB cI cZ cL : ClassId) (ad : Nat → Nat) (w h : Nat) (hs : Sz w h) (aG aS : Nat) (G S CB SB DK DR RE PF PK CO : Nat → Int) (pn kn cn : Int) (x y r : Nat) (hx : x < w) (hy : y < h) (hd : ∀ k, k < w * h → DK k = 0 ∨ DK k = 1) (hsum : (r : Int) + sumN DK (w * h) ≤ ((w * h : Nat) : Int)) : mV l yX0_reachAround wsX0_reachAround rmX0_reachAround D vwCl (tyl cB cI cZ cL) [.ref (ad 0), .int (zI (x : Int)), .int (zI (y : Int))] (wX cB cI cZ ad w h aG aS G S CB SB DK DR RE PF PK CO (r : Int) pn kn cn) 0 0 (fun w1 => ∃ (DK' RE' : Nat → Int) (r' : Nat), trn (w * h) (fun q => adj w (y * w + x) q) DK RE r DK' RE' r' ∧ (∀ q, q < w * h → adj w (y * w + x) q → DK' q = 0) ∧ w1 = wX cB cI cZ ad w h aG aS G S CB SB DK' DR RE' PF PK CO (r' : Int) pn kn cn) := by
  refine mV_of (own := RX0) rfl (by decide) rfl (Nat.le_of_ble_eq_true rfl) ?_
  intro p e s m args below meth c C hr hlocks hname
  show J p l e rmX0_reachAround s m args below meth c _ 5 D vwCl _ 0 [(0, .ref (ad 0)), (1, .int (zI (x : Int))), (2, .int (zI (y : Int)))] [] (wX cB cI cZ ad w h aG aS G S CB SB DK DR RE PF PK CO (r : Int) pn kn cn) 0 0
  obtain ⟨h1, h2, h3, h4⟩ := id hs
  refine j_iconst C eX0_reachAround_0 ?_
  refine j_iload_n C eX0_reachAround_1 2 rfl ?_
  refine j_iconst C eX0_reachAround_2 ?_
  refine j_isub C eX0_reachAround_3 ?_
  refine j_mmax C kmX0_reachAround_15.1 kmX0_reachAround_15.2.1 kmX0_reachAround_15.2.2.1 kmX0_reachAround_15.2.2.2 (Nat.le_of_ble_eq_true rfl) (Nat.le_of_ble_eq_true rfl) ⟨Nat.le_of_ble_eq_true rfl, Nat.le_of_ble_eq_true rfl⟩ (by omega) (by omega) eX0_reachAround_4 ?_
  rw [show (max 0 ((y : Int) - 1)) = ((y - 1 : Nat) : Int) by omega]
  refine j_istore_n C eX0_reachAround_7 rfl (by decide) (lv' := [(0, .ref (ad 0)), (1, .int (zI (x : Int))), (2, .int (zI (y : Int))), (3, .int (zI ((y - 1 : Nat) : Int)))]) rfl ?_
  refine lpX0_reachAround C hs hsum hx hy (fun DK' RE' r' hT' hA' ro => ?_) (h + 2) (y - 1) DK RE r (by omega) (by omega) (by omega) (trn_refl hd) (fun y' x' q1 q2 q3 q4 q5 => by omega)
  exact j_vret C hr hlocks eX0_reachAround_75 ⟨DK', RE', r', hT', hA', rfl⟩
theorem hwsX0_reachPart : ∀ w ∈ u_ws RX0 TX0 16, w ∈ wsX0_reachPart := fun _ h => List.mem_cons_of_mem _ (List.mem_append_right _ h)
theorem kX0_reachPart_18 : Cond.fieldLink RX0 18 "SheetRows" (TX0 0).2.1 (TX0 0).2.2.1 ∈ wsX0_reachPart := by decide +kernel
theorem kX0_reachPart_46 : Cond.fieldLink RX0 46 "SheetRows" (TX0 8).2.1 (TX0 8).2.2.1 ∈ wsX0_reachPart := by decide +kernel
theorem kX0_reachPart_92 : Cond.fieldLink RX0 92 "SheetRows" (TX0 9).2.1 (TX0 9).2.2.1 ∈ wsX0_reachPart := by decide +kernel
abbrev rmX0_reachPart : Room := { frames := 2, cells := 0, slots := 0, locals := 45 }
theorem rp_end {w n q0 r : Nat} {D0 R0 DK RE : Nat → Int} (h01 : ∀ q, q < n → D0 q = 0 ∨ D0 q = 1) (hq : q0 < n) (hd : D0 q0 = 1) (hT : trn n (fun q => con w n D0 q0 q) D0 R0 0 DK RE r) (hz : DK q0 = 0) (hC : ∀ i, i < r → ∀ q : Nat, RE i = (q : Int) → ∀ b, b < n → adj w q b → DK b = 0) :
    lst n (cmp w n D0 q0) RE r ∧ (∀ q, q < n → (DK q = 1 ↔ D0 q = 1 ∧ ¬ con w n D0 q0 q)) ∧ 0 < r := by
  obtain ⟨t1, t2, t3, t4, t5, t6⟩ := hT
  have hin : ∀ b, b < n → D0 b = 1 → DK b = 0 → ∃ i, i < r ∧ RE i = (b : Int) := fun b hb h1 h2 => by
    refine Classical.byContradiction (fun hno => ?_)
    have h3 : DK b = 1 := (t4 b hb).mpr ⟨h1, fun i _ i2 e => hno ⟨i, i2, e⟩⟩
    omega
  have hcon : ∀ b, con w n D0 q0 b → ∃ i, i < r ∧ RE i = (b : Int) := fun b hb => by
    refine hb (fun a => ∃ i, i < r ∧ RE i = (a : Int)) (hin q0 hq hd hz) (fun a b ha l1 l2 d1 d2 hab => ?_)
    obtain ⟨i, i1, i2⟩ := ha
    exact hin b l2 d2 (hC i i1 a i2 b l2 hab)
  have hDK : ∀ q, q < n → (DK q = 1 ↔ D0 q = 1 ∧ ¬ con w n D0 q0 q) := fun q hq' => by
    rw [t4 q hq']
    constructor
    · rintro ⟨z1, z2⟩
      refine ⟨z1, fun z => ?_⟩
      obtain ⟨i, i1, i2⟩ := hcon q z
      exact z2 i (Nat.zero_le _) i1 i2
    · rintro ⟨z1, z2⟩
      refine ⟨z1, fun i _ i2 e => ?_⟩
      obtain ⟨q', e1, e2, e3, e4⟩ := t3 i (Nat.zero_le _) i2
      have : q = q' := by omega
      subst this
      exact z2 e4
  refine ⟨⟨fun i hi => ?_, fun q hq' hs => ?_, fun F => ?_⟩, hDK, ?_⟩
  · obtain ⟨q', e1, e2, e3, e4⟩ := t3 i (Nat.zero_le _) hi
    exact ⟨q', e1, e2, ind_1 ⟨e3, e4⟩⟩
  · exact hcon q (ind_iff.mp hs).2
  · have h1 := t6 F
    have h2 : sumN (fun q => D0 q * F q) n = sumN (fun q => DK q * F q + cmp w n D0 q0 q * F q) n := sumN_congr (fun q hq' => by
      have c0 := h01 q hq'
      have c1 := t5 q hq'
      have c2 := hDK q hq'
      by_cases z : D0 q = 1 ∧ con w n D0 q0 q
      · have e1 : cmp w n D0 q0 q = 1 := ind_1 z
        have e2 : DK q = 0 := by
          rcases c1 with c | c
          · exact c
          · exact absurd z.2 (c2.mp c).2
        rw [e1, e2, z.1]; omega
      · have e1 : cmp w n D0 q0 q = 0 := ind_0 z
        have e2 : DK q = D0 q := by
          rcases c0 with c | c
          · rcases c1 with d | d
            · omega
            · have := (c2.mp d).1; omega
          · rw [c]; exact c2.mpr ⟨c, fun y => z ⟨c, y⟩⟩
        rw [e1, e2]; omega)
    have h3 : sumN (fun i => F (R0 i).toNat) 0 = 0 := rfl
    rw [h2, sumN_add, h3] at h1
    omega
  · obtain ⟨i, i1, -⟩ := hcon q0 (con_refl q0)
    omega
set_option maxHeartbeats 4000000 in
set_option maxRecDepth 100000 in
theorem lpX0_reachPart {p : Program} {l : Launch} {e : Env} {s : State} {m : MethodId} {args : Array Value} {below : List Frame} {meth : Method} {c : Code} {Q : State → Prop} {D : va_G} {A : Nat → Prop} {cB cI cZ cL : ClassId} {w h : Nat} {ad : Nat → Nat} {aG aS : Nat} {G S CB SB DR PF PK CO : Nat → Int} {pn kn cn : Int} (C : JC p m c cX0_reachPart 3 s args wsX0_reachPart RX0 D vwCl (tyl cB cI cZ cL) A) (hs : Sz w h) {D0 R0 : Nat → Int} {q0 : Nat} (h01 : ∀ q, q < w * h → D0 q = 0 ∨ D0 q = 1) (hq : q0 < w * h) (hd0 : D0 q0 = 1) (kx : ∀ (DK RE : Nat → Int) (r : Nat), lst (w * h) (cmp w (w * h) D0 q0) RE r → (∀ q, q < w * h → (DK q = 1 ↔ D0 q = 1 ∧ ¬ con w (w * h) D0 q0 q)) → (∀ q, q < w * h → DK q = 0 ∨ DK q = 1) → 0 < r → (r : Int) + sumN DK (w * h) = sumN D0 (w * h) → J p l e rmX0_reachPart s m args below meth c Q 3 D vwCl A 61 [(0, .ref (ad 0)), (1, .int (zI (q0 : Int))), (2, .int (zI (r : Int)))] [] (wX cB cI cZ ad w h aG aS G S CB SB DK DR RE PF PK CO (r : Int) pn kn cn) 0 0) : ∀ (n nx : Nat) (DK RE : Nat → Int) (r : Nat), nx ≤ r → w * h - nx < n → trn (w * h) (fun q => con w (w * h) D0 q0 q) D0 R0 0 DK RE r → DK q0 = 0 → (∀ i, i < nx → ∀ q : Nat, RE i = (q : Int) → ∀ b, b < w * h → adj w q b → DK b = 0) → J p l e rmX0_reachPart s m args below meth c Q 3 D vwCl A 12 [(0, .ref (ad 0)), (1, .int (zI (q0 : Int))), (2, .int (zI (nx : Int)))] [] (wX cB cI cZ ad w h aG aS G S CB SB DK DR RE PF PK CO (r : Int) pn kn cn) 0 0 := by
  have hm := hs.mul
  obtain ⟨h1, h2, h3, h4⟩ := id hs
  have hs0 : sumN D0 (w * h) ≤ ((w * h : Nat) : Int) := by
    have := sumN_le (f := D0) (g := fun _ => 1) (n := w * h) (fun k hk => by have := h01 k hk; omega)
    rw [sumN_c] at this
    omega
  intro n
  induction n with
  | zero => intro nx DK RE r _ hn; exact absurd hn (Nat.not_lt_zero _)
  | succ n ih =>
    intro nx DK RE r hnx hn hT hz hC
    have hsum := trn_sum hT
    have hnn := sumN_nn (f := DK) (n := w * h) (fun k hk => by have := hT.2.2.2.2.1 k hk; omega)
    refine j_iload_n C eX0_reachPart_12 2 rfl ?_
    refine j_aload_n C eX0_reachPart_13 0 rfl ?_
    refine j_getf C hwsX0_reachPart 0 rfl rfl 9 (by decide) kX0_reachPart_92 rfl rfl eX0_reachPart_14 ?_
    refine j_icmp_ge C 61 eX0_reachPart_17 (by decide) (by omega) (by omega) (fun c17 => ?_) (fun c17 => ?_)
    ·
      have he : nx = r := by omega
      subst he
      obtain ⟨a1, a2, a3⟩ := rp_end h01 hq hd0 hT hz hC
      exact kx DK RE nx a1 a2 hT.2.2.2.2.1 a3 (by omega)
    ·
      refine j_iload_n C eX0_reachPart_20 2 rfl ?_
      refine j_aload_n C eX0_reachPart_21 0 rfl ?_
      refine j_getf C hwsX0_reachPart 0 rfl rfl 8 (by decide) kX0_reachPart_46 rfl rfl eX0_reachPart_22 ?_
      refine j_alen C 7 1 rfl rfl eX0_reachPart_25 ?_
      refine j_icmp_ge C 61 eX0_reachPart_26 (by decide) (by omega) (by omega) (fun c26 => ?_) (fun c26 => ?_)
      ·
        have he : nx = r := by omega
        subst he
        obtain ⟨a1, a2, a3⟩ := rp_end h01 hq hd0 hT hz hC
        exact kx DK RE nx a1 a2 hT.2.2.2.2.1 a3 (by omega)
      ·
        obtain ⟨q, hq1, hq2, hq3, hq4⟩ := hT.2.2.1 nx (Nat.zero_le _) (by omega)
        refine j_aload_n C eX0_reachPart_29 0 rfl ?_
        refine j_aload_n C eX0_reachPart_30 0 rfl ?_
        refine j_getf C hwsX0_reachPart 0 rfl rfl 8 (by decide) kX0_reachPart_46 rfl rfl eX0_reachPart_31 ?_
        refine j_iload_n C eX0_reachPart_34 2 rfl ?_
        refine j_iald C 7 1 rfl rfl nx rfl (by omega) (by omega) eX0_reachPart_35 ?_
        rw [hq1]
        refine j_aload_n C eX0_reachPart_36 0 rfl ?_
        refine j_getf C hwsX0_reachPart 0 rfl rfl 0 (by decide) kX0_reachPart_18 rfl rfl eX0_reachPart_37 ?_
        refine j_irem C eX0_reachPart_40 (by omega) (by omega) ?_
        rw [tm_nat]
        refine j_aload_n C eX0_reachPart_41 0 rfl ?_
        refine j_getf C hwsX0_reachPart 0 rfl rfl 8 (by decide) kX0_reachPart_46 rfl rfl eX0_reachPart_42 ?_
        refine j_iload_n C eX0_reachPart_45 2 rfl ?_
        refine j_iald C 7 1 rfl rfl nx rfl (by omega) (by omega) eX0_reachPart_46 ?_
        rw [hq1]
        refine j_aload_n C eX0_reachPart_47 0 rfl ?_
        refine j_getf C hwsX0_reachPart 0 rfl rfl 0 (by decide) kX0_reachPart_18 rfl rfl eX0_reachPart_48 ?_
        refine j_idiv C eX0_reachPart_51 (by omega) (by omega) ?_
        rw [td_nat]
        obtain ⟨e1, e2, e3⟩ := ix_of h1 hq2
        refine j_callVv C (As := [.int (zI ((q % w : Nat) : Int)), .int (zI ((q / w : Nat) : Int))]) (rest := []) (ctX0_reachAround l D cB cI cZ cL ad w h hs aG aS G S CB SB DK DR RE PF PK CO pn kn cn (q % w) (q / w) r e2 e1 hT.2.2.2.2.1 (by omega)) (cwV 2 C.1.2.2.2.2 gX0_reachPart_X0_reachAround rfl rfl rfl (by decide +kernel) ⟨Nat.le_of_ble_eq_true rfl, Nat.le_of_ble_eq_true rfl⟩) [0, 1, 2, 3, 4, 5, 6, 7, 8, 9, 10] [] (wr := []) rfl (by decide) rfl (by decide) (by decide) 0 rfl rfl rfl rfl (Nat.le_of_ble_eq_true rfl) eX0_reachPart_52 ⟨Nat.le_of_ble_eq_true rfl, Nat.le_of_ble_eq_true rfl⟩ (fun w1 hp => ?_)
        rw [e3] at hp
        obtain ⟨DK', RE', r', hT', hA', rfl⟩ := hp
        rw [List.nil_append]
        refine j_iinc C eX0_reachPart_55 2 rfl rfl (by decide) (lv' := [(0, .ref (ad 0)), (1, .int (zI (q0 : Int))), (2, .int (zI ((nx : Int) + 1)))]) rfl ?_
        refine j_goto C 12 eX0_reachPart_58 (by decide) ?_
        have hT2 : trn (w * h) (fun q => con w (w * h) D0 q0 q) DK RE r DK' RE' r' := trn_weak (fun b hb d1 ha => con_step hq4 hq2 hb hq3 (((hT.2.2.2.1 b hb).mp d1).1) ha) hT'
        refine ih (nx + 1) DK' RE' r' (by have := hT'.1; omega) (by omega) (trn_trans hT hT2) (trn_z hT' hq hz) (fun i hi q' e b hb ha => ?_)
        have e5 : RE' i = RE i := hT'.2.1 i (by omega)
        by_cases c : i = nx
        · subst c
          have : q' = q := by omega
          subst this
          exact hA' b hb ha
        · exact trn_z hT' hb (hC i (by omega) q' (by omega) b hb ha)
set_option maxHeartbeats 4000000 in
set_option maxRecDepth 100000 in
theorem ctX0_reachPart (l : Launch) (D : va_G) (cB cI cZ cL : ClassId) (ad : Nat → Nat) (w h : Nat) (hs : Sz w h) (aG aS : Nat) (G S CB SB DK DR RE PF PK CO : Nat → Int) (rc pn kn cn : Int) (q0 : Nat) (hq : q0 < w * h) (h01 : ∀ k, k < w * h → DK k = 0 ∨ DK k = 1) (hd0 : DK q0 = 1) : mV l yX0_reachPart wsX0_reachPart rmX0_reachPart D vwCl (tyl cB cI cZ cL) [.ref (ad 0), .int (zI (q0 : Int))] (wX cB cI cZ ad w h aG aS G S CB SB DK DR RE PF PK CO rc pn kn cn) 0 0 (fun w1 => ∃ (DK' RE' : Nat → Int) (r' : Nat), lst (w * h) (cmp w (w * h) DK q0) RE' r' ∧ (∀ q, q < w * h → (DK' q = 1 ↔ DK q = 1 ∧ ¬ con w (w * h) DK q0 q)) ∧ (∀ q, q < w * h → DK' q = 0 ∨ DK' q = 1) ∧ 0 < r' ∧ (r' : Int) + sumN DK' (w * h) = sumN DK (w * h) ∧ w1 = wX cB cI cZ ad w h aG aS G S CB SB DK' DR RE' PF PK CO (r' : Int) pn kn cn) := by
  refine mV_of (own := RX0) rfl (by decide) rfl (Nat.le_of_ble_eq_true rfl) ?_
  intro p e s m args below meth c C hr hlocks hname
  show J p l e rmX0_reachPart s m args below meth c _ 3 D vwCl _ 0 [(0, .ref (ad 0)), (1, .int (zI (q0 : Int)))] [] (wX cB cI cZ ad w h aG aS G S CB SB DK DR RE PF PK CO rc pn kn cn) 0 0
  have hm := hs.mul
  have hs0 : sumN DK (w * h) ≤ ((w * h : Nat) : Int) := by
    have := sumN_le (f := DK) (g := fun _ => 1) (n := w * h) (fun k hk => by have := h01 k hk; omega)
    rw [sumN_c] at this
    omega
  refine j_aload_n C eX0_reachPart_0 0 rfl ?_
  refine j_iconst C eX0_reachPart_1 ?_
  refine j_putf C hwsX0_reachPart tyX0 tyX0_ok nmX0 0 rfl rfl 9 (by decide) kX0_reachPart_92 rfl rfl (tyX0_ok 9 (by decide)) rfl rfl (Nat.le_of_ble_eq_true rfl) eX0_reachPart_2 (wd' := wX cB cI cZ ad w h aG aS G S CB SB DK DR RE PF PK CO 0 pn kn cn) rfl ?_
  refine j_aload_n C eX0_reachPart_5 0 rfl ?_
  refine j_iload_n C eX0_reachPart_6 1 rfl ?_
  refine j_callVv C (As := [.int (zI (q0 : Int))]) (rest := []) (ctX0_reach2 l D cB cI cZ cL ad w h hs aG aS G S CB SB DK DR RE PF PK CO pn kn cn (fun q => con w (w * h) DK q0 q) q0 0 hq (con_refl q0) h01 (by omega)) (cwV 1 C.1.2.2.2.2 gX0_reachPart_X0_reach rfl rfl rfl (by decide +kernel) ⟨Nat.le_of_ble_eq_true rfl, Nat.le_of_ble_eq_true rfl⟩) [0, 1, 2, 3, 4, 5, 6, 7, 8, 9, 10] [] (wr := []) rfl (by decide) rfl (by decide) (by decide) 0 rfl rfl rfl rfl (Nat.le_of_ble_eq_true rfl) eX0_reachPart_7 ⟨Nat.le_of_ble_eq_true rfl, Nat.le_of_ble_eq_true rfl⟩ (fun w1 hp => ?_)
  obtain ⟨DK1, RE1, r1, hT, hz, rfl⟩ := hp
  rw [List.nil_append]
  refine j_iconst C eX0_reachPart_10 ?_
  refine j_istore_n C eX0_reachPart_11 rfl (by decide) (lv' := [(0, .ref (ad 0)), (1, .int (zI (q0 : Int))), (2, .int (zI 0))]) rfl ?_
  refine lpX0_reachPart C hs h01 hq hd0 (fun DK' RE' r' a1 a2 a3 a4 a5 => ?_) (w * h + 1) 0 DK1 RE1 r1 (Nat.zero_le _) (by omega) hT hz (fun i hi => absurd hi (Nat.not_lt_zero _))
  exact j_vret C hr hlocks eX0_reachPart_61 ⟨DK', RE', r', a1, a2, a3, a4, a5, rfl⟩
