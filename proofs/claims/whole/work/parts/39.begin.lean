/-! THE LAW's BEGINNING -/
section LBG
variable {p : Program} {l : Launch} {e : Env} {s : State} {m : MethodId} {below : List Frame} {meth : Method} {c : Code} {b L : Nat} {xs : Nat → Int32} {D : va_G} {cB cI cZ cL : ClassId} {w h : Nat} {ad bd : Nat → Nat} {o : Nat}
theorem bg_X0 : ∀ j, j < 16 → defaultValue (tyX0 j) = vp_V [.int (zI 0), .int (zI 0), .null, .null, .null, .null, .null, .null, .null, .int (zI 0), .null, .int (zI 0), .null, .int (zI 0), .null, .int (zI 0)] j := by decide +kernel
theorem bg_X1 : ∀ j, j < 15 → defaultValue (tyX1 j) = vp_V [.int (zI 0), .int (zI 0), .int (zI 0), .int (zI 0), .null, .null, .null, .null, .int (zI 0), .null, .null, .int (zI 0), .null, .int (zI 0), .null] j := by decide +kernel
theorem bg_m0 : Cond.classLink RL 8 RX0 ∈ wsL_law ∧ Cond.instantiable RX0 16 ∈ wsL_law ∧ Cond.initialized RX0 ∈ wsL_law := ⟨(List.mem_of_getElem? (i := 0) rfl), (List.mem_of_getElem? (i := 1) rfl), (List.mem_of_getElem? (i := 2) rfl)⟩
theorem bg_m1 : Cond.classLink RL 32 RX1 ∈ wsL_law ∧ Cond.instantiable RX1 15 ∈ wsL_law ∧ Cond.initialized RX1 ∈ wsL_law := ⟨(List.mem_of_getElem? (i := 3) rfl), (List.mem_of_getElem? (i := 4) rfl), (List.mem_of_getElem? (i := 5) rfl)⟩
theorem bg_m2 : Cond.arrayClass .long ∈ wsL_law ∧ Cond.methodLink RL 29 yX0_init ∈ wsL_law ∧ Cond.instanceMethod yX0_init ∈ wsL_law := ⟨(List.mem_of_getElem? (i := 6) rfl), (List.mem_of_getElem? (i := 11) rfl), (List.mem_of_getElem? (i := 12) rfl)⟩
theorem bg_m3 : Cond.methodLink RL 34 yX1_init ∈ wsL_law ∧ Cond.instanceMethod yX1_init ∈ wsL_law := ⟨(List.mem_of_getElem? (i := 43) rfl), (List.mem_of_getElem? (i := 44) rfl)⟩
set_option maxHeartbeats 4000000 in
set_option maxRecDepth 100000 in
theorem lw_begin (Cx : LC p l s m c b L xs D cB cI cZ cL) (hr9 : meth.sig.returnType = ret) (hlocks : meth.locks = false) : JW p l e s m b below meth c D 0 [(0, .ref b)] [] [] 0 0 := by
  obtain ⟨C, hX, hbl, hL, hXC, hl9⟩ := id Cx
  have hbA : ¬ va_A [] s.heap.size b := fun q => Nat.lt_irrefl _ (Nat.lt_of_lt_of_le hbl (va_A0 q))
  have C5 := C.1.2.2.2.2
  refine j_new C (C9 := RX0) (ci := 1) (fs := [.int (zI 0), .int (zI 0), .null, .null, .null, .null, .null, .null, .null, .int (zI 0), .null, .int (zI 0), .null, .int (zI 0), .null, .int (zI 0)]) inlX0 tyX0 tyX0_ok bg_m0.1 bg_m0.2.1 bg_m0.2.2 rfl bg_X0 (Nat.le_of_ble_eq_true rfl) (Nat.le_of_ble_eq_true rfl) eL_law_0 (fun q => ?_)
  refine j_dup C eL_law_3 rfl ?_
  refine j_aload_n C eL_law_4 0 rfl ?_
  refine j_iconst C eL_law_5 ?_
  refine j_cell C hX hbl hbA hL 0 (by omega) (va_cwS 2 C5 gL_law_L_cell rfl rfl rfl (by decide +kernel) ⟨Nat.le_of_ble_eq_true rfl, Nat.le_of_ble_eq_true rfl⟩) (Nat.le_of_ble_eq_true rfl) eL_law_6 ⟨Nat.le_of_ble_eq_true rfl, Nat.le_of_ble_eq_true rfl⟩ ?_
  refine j_aload_n C eL_law_9 0 rfl ?_
  refine j_iconst C eL_law_10 ?_
  refine j_cell C hX hbl hbA hL 1 (by omega) (va_cwS 2 C5 gL_law_L_cell rfl rfl rfl (by decide +kernel) ⟨Nat.le_of_ble_eq_true rfl, Nat.le_of_ble_eq_true rfl⟩) (Nat.le_of_ble_eq_true rfl) eL_law_11 ⟨Nat.le_of_ble_eq_true rfl, Nat.le_of_ble_eq_true rfl⟩ ?_
  refine j_callIv C (As := [.int (zI (cel L xs 0)), .int (zI (cel L xs 1))]) (rest := [.ref q]) (ctX0_init l D cB cI cZ cL q (cel L xs 0) (cel L xs 1) (cel_in L xs 0) (cel_in L xs 1)) ⟨callB_of 2 C5 gL_law_X0_init rfl rfl rfl (C5 _ bg_m0.2.2) (C5 _ bg_m2.2.1) (by decide +kernel) ⟨Nat.le_of_ble_eq_true rfl, Nat.le_of_ble_eq_true rfl⟩, rfl, C5 _ bg_m2.2.2⟩ [0] [] (wr := []) rfl (by decide) rfl (by decide) (by decide) rfl rfl (Nat.le_of_ble_eq_true rfl) eL_law_14 ⟨Nat.le_of_ble_eq_true rfl, Nat.le_of_ble_eq_true rfl⟩ (fun w1 hp => ?_)
  obtain ⟨ad, aG, aS, G, rfl, hG, rfl⟩ := hp
  have hs := clp_sz (cel L xs 0) (cel L xs 1)
  rw [List.nil_append]
  refine j_astore_n C eL_law_17 rfl (by decide) (lv' := [(0, .ref b), (1, .ref (ad 0))]) rfl ?_
  refine j_new C (C9 := RX1) (ci := 2) (fs := [.int (zI 0), .int (zI 0), .int (zI 0), .int (zI 0), .null, .null, .null, .null, .int (zI 0), .null, .null, .int (zI 0), .null, .int (zI 0), .null]) inlX1 tyX1 tyX1_ok bg_m1.1 bg_m1.2.1 bg_m1.2.2 rfl bg_X1 (Nat.le_of_ble_eq_true rfl) (Nat.le_of_ble_eq_true rfl) eL_law_18 (fun q => ?_)
  refine j_dup C eL_law_21 rfl ?_
  refine j_aload_n C eL_law_22 0 rfl ?_
  refine j_iconst C eL_law_23 ?_
  refine j_cell C hX hbl hbA hL 0 (by omega) (va_cwS 2 C5 gL_law_L_cell rfl rfl rfl (by decide +kernel) ⟨Nat.le_of_ble_eq_true rfl, Nat.le_of_ble_eq_true rfl⟩) (Nat.le_of_ble_eq_true rfl) eL_law_24 ⟨Nat.le_of_ble_eq_true rfl, Nat.le_of_ble_eq_true rfl⟩ ?_
  refine j_aload_n C eL_law_27 0 rfl ?_
  refine j_iconst C eL_law_28 ?_
  refine j_cell C hX hbl hbA hL 1 (by omega) (va_cwS 2 C5 gL_law_L_cell rfl rfl rfl (by decide +kernel) ⟨Nat.le_of_ble_eq_true rfl, Nat.le_of_ble_eq_true rfl⟩) (Nat.le_of_ble_eq_true rfl) eL_law_29 ⟨Nat.le_of_ble_eq_true rfl, Nat.le_of_ble_eq_true rfl⟩ ?_
  refine j_callIv C (As := [.int (zI (cel L xs 0)), .int (zI (cel L xs 1))]) (rest := [.ref q]) (ctX1_init l D cB cI cZ cL q (cel L xs 0) (cel L xs 1) (cel_in L xs 0) (cel_in L xs 1)) ⟨callB_of 2 C5 gL_law_X1_init rfl rfl rfl (C5 _ bg_m1.2.2) (C5 _ bg_m3.1) (by decide +kernel) ⟨Nat.le_of_ble_eq_true rfl, Nat.le_of_ble_eq_true rfl⟩, rfl, C5 _ bg_m3.2⟩ [11] [0, 1, 2, 3, 4, 5, 6, 7, 8, 9, 10] (wr := wX cB cI cZ ad (clp (cel L xs 0)) (clp (cel L xs 1)) aG aS G (fun _ => 0) (fun _ => 0) (fun _ => 0) (fun _ => 0) (fun _ => 0) (fun _ => 0) (fun _ => 0) (fun _ => 0) (fun _ => 0) 0 0 0 0) rfl (by decide) rfl (by decide) (by decide) rfl rfl (Nat.le_of_ble_eq_true rfl) eL_law_32 ⟨Nat.le_of_ble_eq_true rfl, Nat.le_of_ble_eq_true rfl⟩ (fun w1 hp => ?_)
  obtain ⟨bd, M, rfl, hM, rfl⟩ := hp
  refine j_astore_n C eL_law_35 rfl (by decide) (lv' := [(0, .ref b), (1, .ref (ad 0)), (2, .ref (bd 0))]) rfl ?_
  refine j_iconst C eL_law_36 ?_
  refine j_newl C bg_m2.1 3 rfl (Nat.le_of_ble_eq_true rfl) (Nat.le_of_ble_eq_true rfl) eL_law_37 (fun o => ?_)
  refine j_perm [20, 11, 12, 13, 14, 15, 16, 17, 18, 19, 0, 1, 2, 3, 4, 5, 6, 7, 8, 9, 10] (by decide) (wd' := ((o, oL cL (fun _ => 0)) :: wM cB cI bd (clp (cel L xs 0)) (clp (cel L xs 1)) M (fun _ => 0) (fun _ => 0) (fun _ => 0) (fun _ => 0) (fun _ => 0) (fun _ => 0) (fun _ => 0) 0 0 0 0) ++ wX cB cI cZ ad (clp (cel L xs 0)) (clp (cel L xs 1)) aG aS G (fun _ => 0) (fun _ => 0) (fun _ => 0) (fun _ => 0) (fun _ => 0) (fun _ => 0) (fun _ => 0) (fun _ => 0) (fun _ => 0) 0 0 0 0) rfl ?_
  refine j_astore_n C eL_law_39 rfl (by decide) (lv' := [(0, .ref b), (1, .ref (ad 0)), (2, .ref (bd 0)), (3, .ref o)]) rfl ?_
  refine j_iconst C eL_law_40 ?_
  refine j_istore C eL_law_41 rfl (by decide) (lv' := [(0, .ref b), (1, .ref (ad 0)), (2, .ref (bd 0)), (3, .ref o), (4, .int (zI 2))]) rfl ?_
  generalize clp (cel L xs 0) = w at hG hM hs ⊢
  generalize clp (cel L xs 1) = h at hG hM hs ⊢
  have hr : rel w h G (fun _ => 0) (fun _ => 0) (fun _ => 0) 0 0 0 M (fun _ => 0) (fun _ => 0) (fun _ => 0) := ⟨fun k hk => by rw [hG k hk]; omega, fun k hk => by rw [hG k hk, hM k hk]; decide, ⟨by omega, fun i j hi => by omega⟩, ⟨by omega, fun i hi => by omega⟩, ⟨by omega, fun i hi => by omega⟩⟩
  exact lw_loop Cx hs hr9 hlocks 600 2 _ _ (by omega) (Nat.le_of_ble_eq_true rfl) (Nat.le_of_ble_eq_true rfl) (by omega) _ _ _ _ _ _ _ _ _ _ _ _ _ _ _ _ _ _ _ _ _ _ _ _ _ _ hr
end LBG
