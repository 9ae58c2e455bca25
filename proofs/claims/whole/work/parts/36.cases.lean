/-! THE LAW's CASES -/
section LCS
variable {p : Program} {l : Launch} {e : Env} {s : State} {m : MethodId} {below : List Frame} {meth : Method} {c : Code} {b L : Nat} {xs : Nat → Int32} {D : va_G} {cB cI cZ cL : ClassId} {w h : Nat} {ad bd : Nat → Nat} {o : Nat} {i cells slots : Nat} {a1 a2 a3 : Int}
set_option maxHeartbeats 4000000 in
set_option maxRecDepth 100000 in
theorem lc_1 (Cx : LC p l s m c b L xs D cB cI cZ cL) (hs : Sz w h) (hi : i + 3 < L) (h1 : (xs (i + 1)).toInt = a1) (h2 : (xs (i + 2)).toInt = a2) (h3 : (xs (i + 3)).toInt = a3) {f : Nat → Int64} {aG aS : Nat} {G S CB SB DK DR RE PF PK CO : Nat → Int} {rc : Int} {np nk nc : Nat} {M O CT LB FS TD PR BY : Nat → Int} {th : Int} (hr : rel w h G PF PK CO np nk nc M TD PR BY) (hc9 : cells + 1 ≤ 601024) (hs9 : slots + 6 ≤ 7293000) (K : nxt p l e s m b below meth c D cB cI cZ cL w h ad bd o 500 i (cells + 1) (slots + 6)) : JW p l e s m b below meth c D 186 (lvI ad bd b o i) [] (((o, oL cL f) :: wM cB cI bd w h M O CT LB FS TD PR BY th (np : Int) (nk : Int) (nc : Int)) ++ wX cB cI cZ ad w h aG aS G S CB SB DK DR RE PF PK CO rc (np : Int) (nk : Int) (nc : Int)) cells slots := by
  obtain ⟨C, hX, hbl, hL, hXC, hl9⟩ := Cx
  have hbA : ¬ va_A [] s.heap.size b := fun q => Nat.lt_irrefl _ (Nat.lt_of_lt_of_le hbl (va_A0 q))
  have hA0 : ∀ q, q < s.heap.size → ¬ va_A [] s.heap.size q := fun q hq z => Nat.lt_irrefl _ (Nat.lt_of_lt_of_le hq (va_A0 z))
  have hm := hs.mul
  have e1 := sc_in (xs (i + 1))
  have e2 := sc_in (xs (i + 2))
  have e3 := sc_in (xs (i + 3))
  rw [h1] at e1
  rw [h2] at e2
  rw [h3] at e3
  obtain ⟨hG, hM, ⟨hnp, hPF⟩, ⟨hnk, hPK⟩, ⟨hnc, hCO⟩⟩ := id hr
  have hgM := rl_gry hM
  refine j_aload_n C eL_law_186 1 rfl ?_
  refine j_callVi C (As := []) (rest := []) (ctX0_threshold l D cB cI cZ cL ad w h hs aG aS G S CB SB DK DR RE PF PK CO rc (np : Int) (nk : Int) (nc : Int) ) (cwV 0 C.1.2.2.2.2 gL_law_X0_threshold rfl rfl rfl (by decide +kernel) ⟨Nat.le_of_ble_eq_true rfl, Nat.le_of_ble_eq_true rfl⟩) [10, 11, 12, 13, 14, 15, 16, 17, 18, 19, 20] [0, 1, 2, 3, 4, 5, 6, 7, 8, 9] (wr := (o, oL cL f) :: wM cB cI bd w h M O CT LB FS TD PR BY th (np : Int) (nk : Int) (nc : Int)) rfl (by decide) rfl (by decide) (by decide) 10 rfl rfl rfl rfl (Nat.le_of_ble_eq_true rfl) eL_law_187 ⟨by show _ ≤ (601024 : Nat); omega, by show _ ≤ (7293000 : Nat); omega⟩ (fun z w1 hp => ?_)
  obtain ⟨CB', SB', -, rfl, rfl⟩ := hp
  rw [thr_congr (rl_fn hM)]
  refine j_aload_n C eL_law_190 2 rfl ?_
  refine j_callVi C (As := []) (rest := [.int (zI ((thr M (w * h) : Nat) : Int))]) (ctX1_threshold l D cB cI cZ cL bd w h hs M O CT LB FS TD PR BY th (np : Int) (nk : Int) (nc : Int) hgM) (cwV 0 C.1.2.2.2.2 gL_law_X1_threshold rfl rfl rfl (by decide +kernel) ⟨Nat.le_of_ble_eq_true rfl, Nat.le_of_ble_eq_true rfl⟩) [1, 2, 3, 4, 5, 6, 7, 8, 9] [0, 10, 11, 12, 13, 14, 15, 16, 17, 18, 19, 20] (wr := (o, oL cL f) :: wX cB cI cZ ad w h aG aS G S CB' SB' DK DR RE PF PK CO rc (np : Int) (nk : Int) (nc : Int)) rfl (by decide) rfl (by decide) (by decide) 1 rfl rfl rfl rfl (Nat.le_of_ble_eq_true rfl) eL_law_191 ⟨by show _ ≤ (601024 : Nat); omega, by show _ ≤ (7293000 : Nat); omega⟩ (fun z w1 hp => ?_)
  obtain ⟨CT', rfl, rfl⟩ := hp
  refine j_perm [0, 12, 13, 14, 15, 16, 17, 18, 19, 20, 1, 2, 3, 4, 5, 6, 7, 8, 9, 10, 11] (by decide) (wd' := ((o, oL cL f) :: wM cB cI bd w h M O CT' LB FS TD PR BY 0 (np : Int) (nk : Int) (nc : Int)) ++ wX cB cI cZ ad w h aG aS G S CB' SB' DK DR RE PF PK CO rc (np : Int) (nk : Int) (nc : Int)) rfl ?_
  refine j_same C 500 eL_law_194 (by decide) ?_
  refine j_widen (cells' := cells + 1) (slots' := slots + 6) (by omega) (by omega) ?_
  exact K _ _ _ _ _ _ _ _ _ _ _ _ _ _ _ _ _ _ _ _ _ _ _ _ _ _ hr
set_option maxHeartbeats 4000000 in
set_option maxRecDepth 100000 in
theorem lc_2 (Cx : LC p l s m c b L xs D cB cI cZ cL) (hs : Sz w h) (hi : i + 3 < L) (h1 : (xs (i + 1)).toInt = a1) (h2 : (xs (i + 2)).toInt = a2) (h3 : (xs (i + 3)).toInt = a3) {f : Nat → Int64} {aG aS : Nat} {G S CB SB DK DR RE PF PK CO : Nat → Int} {rc : Int} {np nk nc : Nat} {M O CT LB FS TD PR BY : Nat → Int} {th : Int} (hr : rel w h G PF PK CO np nk nc M TD PR BY) (hc9 : cells + 1 ≤ 601024) (hs9 : slots + 6 ≤ 7293000) (K : nxt p l e s m b below meth c D cB cI cZ cL w h ad bd o 500 i (cells + 1) (slots + 6)) : JW p l e s m b below meth c D 199 (lvI ad bd b o i) [] (((o, oL cL f) :: wM cB cI bd w h M O CT LB FS TD PR BY th (np : Int) (nk : Int) (nc : Int)) ++ wX cB cI cZ ad w h aG aS G S CB SB DK DR RE PF PK CO rc (np : Int) (nk : Int) (nc : Int)) cells slots := by
  obtain ⟨C, hX, hbl, hL, hXC, hl9⟩ := Cx
  have hbA : ¬ va_A [] s.heap.size b := fun q => Nat.lt_irrefl _ (Nat.lt_of_lt_of_le hbl (va_A0 q))
  have hA0 : ∀ q, q < s.heap.size → ¬ va_A [] s.heap.size q := fun q hq z => Nat.lt_irrefl _ (Nat.lt_of_lt_of_le hq (va_A0 z))
  have hm := hs.mul
  have e1 := sc_in (xs (i + 1))
  have e2 := sc_in (xs (i + 2))
  have e3 := sc_in (xs (i + 3))
  rw [h1] at e1
  rw [h2] at e2
  rw [h3] at e3
  obtain ⟨hG, hM, ⟨hnp, hPF⟩, ⟨hnk, hPK⟩, ⟨hnc, hCO⟩⟩ := id hr
  have hgM := rl_gry hM
  refine j_aload_n C eL_law_199 1 rfl ?_
  refine j_callVi C (As := []) (rest := []) (ctX0_parts l D cB cI cZ cL ad w h hs aG aS G S CB SB DK DR RE PF PK CO rc (np : Int) (nk : Int) (nc : Int) ) (cwV 0 C.1.2.2.2.2 gL_law_X0_parts rfl rfl rfl (by decide +kernel) ⟨Nat.le_of_ble_eq_true rfl, Nat.le_of_ble_eq_true rfl⟩) [10, 11, 12, 13, 14, 15, 16, 17, 18, 19, 20] [0, 1, 2, 3, 4, 5, 6, 7, 8, 9] (wr := (o, oL cL f) :: wM cB cI bd w h M O CT LB FS TD PR BY th (np : Int) (nk : Int) (nc : Int)) rfl (by decide) rfl (by decide) (by decide) 10 rfl rfl rfl rfl (Nat.le_of_ble_eq_true rfl) eL_law_200 ⟨by show _ ≤ (601024 : Nat); omega, by show _ ≤ (7293000 : Nat); omega⟩ (fun z w1 hp => ?_)
  obtain ⟨CB', SB', DK', RE', PF', rc', ht1, hn1, rfl, rfl⟩ := hp
  have ed : dkn (fun k => G k % 256) (w * h) = dkn M (w * h) := dkn_congr (rl_fn hM)
  rw [ed] at hn1 ⊢
  refine j_aload_n C eL_law_203 2 rfl ?_
  refine j_callVi C (As := []) (rest := [.int (zI ((cnb w (w * h) (dkn M (w * h)) (w * h) : Nat) : Int))]) (ctX1_parts l D cB cI cZ cL bd w h hs M O CT LB FS TD PR BY th (np : Int) (nk : Int) (nc : Int) hgM) (cwV 0 C.1.2.2.2.2 gL_law_X1_parts rfl rfl rfl (by decide +kernel) ⟨Nat.le_of_ble_eq_true rfl, Nat.le_of_ble_eq_true rfl⟩) [1, 2, 3, 4, 5, 6, 7, 8, 9] [0, 10, 11, 12, 13, 14, 15, 16, 17, 18, 19, 20] (wr := (o, oL cL f) :: wX cB cI cZ ad w h aG aS G S CB' SB' DK' DR RE' PF' PK CO rc' ((cnb w (w * h) (dkn M (w * h)) (w * h) : Nat) : Int) (nk : Int) (nc : Int)) rfl (by decide) rfl (by decide) (by decide) 1 rfl rfl rfl rfl (Nat.le_of_ble_eq_true rfl) eL_law_204 ⟨by show _ ≤ (601024 : Nat); omega, by show _ ≤ (7293000 : Nat); omega⟩ (fun z w1 hp => ?_)
  obtain ⟨CT', O', LB', TD', ht2, rfl, rfl⟩ := hp
  refine j_perm [0, 12, 13, 14, 15, 16, 17, 18, 19, 20, 1, 2, 3, 4, 5, 6, 7, 8, 9, 10, 11] (by decide) (wd' := ((o, oL cL f) :: wM cB cI bd w h M O' CT' LB' FS TD' PR BY 0 ((cnb w (w * h) (dkn M (w * h)) (w * h) : Nat) : Int) (nk : Int) (nc : Int)) ++ wX cB cI cZ ad w h aG aS G S CB' SB' DK' DR RE' PF' PK CO rc' ((cnb w (w * h) (dkn M (w * h)) (w * h) : Nat) : Int) (nk : Int) (nc : Int)) rfl ?_
  refine j_same C 500 eL_law_207 (by decide) ?_
  refine j_widen (cells' := cells + 1) (slots' := slots + 6) (by omega) (by omega) ?_
  exact K _ _ _ _ _ _ _ _ _ _ _ _ _ _ _ _ _ _ _ _ _ _ _ _ _ _ ⟨hG, hM, ⟨by omega, (rl_parts hM ht1 ht2).2⟩, ⟨hnk, hPK⟩, ⟨hnc, hCO⟩⟩
set_option maxHeartbeats 4000000 in
set_option maxRecDepth 100000 in
theorem lc_3 (Cx : LC p l s m c b L xs D cB cI cZ cL) (hs : Sz w h) (hi : i + 3 < L) (h1 : (xs (i + 1)).toInt = a1) (h2 : (xs (i + 2)).toInt = a2) (h3 : (xs (i + 3)).toInt = a3) {f : Nat → Int64} {aG aS : Nat} {G S CB SB DK DR RE PF PK CO : Nat → Int} {rc : Int} {np nk nc : Nat} {M O CT LB FS TD PR BY : Nat → Int} {th : Int} (hr : rel w h G PF PK CO np nk nc M TD PR BY) (hc9 : cells + 1 ≤ 601024) (hs9 : slots + 6 ≤ 7293000) (K : nxt p l e s m b below meth c D cB cI cZ cL w h ad bd o 500 i (cells + 1) (slots + 6)) : JW p l e s m b below meth c D 212 (lvI ad bd b o i) [] (((o, oL cL f) :: wM cB cI bd w h M O CT LB FS TD PR BY th (np : Int) (nk : Int) (nc : Int)) ++ wX cB cI cZ ad w h aG aS G S CB SB DK DR RE PF PK CO rc (np : Int) (nk : Int) (nc : Int)) cells slots := by
  obtain ⟨C, hX, hbl, hL, hXC, hl9⟩ := Cx
  have hbA : ¬ va_A [] s.heap.size b := fun q => Nat.lt_irrefl _ (Nat.lt_of_lt_of_le hbl (va_A0 q))
  have hA0 : ∀ q, q < s.heap.size → ¬ va_A [] s.heap.size q := fun q hq z => Nat.lt_irrefl _ (Nat.lt_of_lt_of_le hq (va_A0 z))
  have hm := hs.mul
  have e1 := sc_in (xs (i + 1))
  have e2 := sc_in (xs (i + 2))
  have e3 := sc_in (xs (i + 3))
  rw [h1] at e1
  rw [h2] at e2
  rw [h3] at e3
  obtain ⟨hG, hM, ⟨hnp, hPF⟩, ⟨hnk, hPK⟩, ⟨hnc, hCO⟩⟩ := id hr
  have hgM := rl_gry hM
  refine j_aload_n C eL_law_212 1 rfl ?_
  refine j_aload_n C eL_law_213 0 rfl ?_
  refine j_iload C eL_law_214 4 rfl ?_
  refine j_iconst C eL_law_216 ?_
  refine j_iadd C eL_law_217 ?_
  refine j_sld C hX hbl hbA (i + 1) (by omega) (by omega) hL eL_law_218 ?_
  rw [h1]
  refine j_aload_n C eL_law_219 0 rfl ?_
  refine j_iload C eL_law_220 4 rfl ?_
  refine j_iconst C eL_law_222 ?_
  refine j_iadd C eL_law_223 ?_
  refine j_sld C hX hbl hbA (i + 2) (by omega) (by omega) hL eL_law_224 ?_
  rw [h2]
  refine j_callVi C (As := [.int (zI a1), .int (zI a2)]) (rest := []) (ctX0_part l D cB cI cZ cL ad w h hs aG aS G S CB SB DK DR RE PF PK CO rc (np : Int) (nk : Int) (nc : Int) a1 a2 e1 e2 ⟨by omega, by omega⟩) (cwV 2 C.1.2.2.2.2 gL_law_X0_part rfl rfl rfl (by decide +kernel) ⟨Nat.le_of_ble_eq_true rfl, Nat.le_of_ble_eq_true rfl⟩) [10, 11, 12, 13, 14, 15, 16, 17, 18, 19, 20] [0, 1, 2, 3, 4, 5, 6, 7, 8, 9] (wr := (o, oL cL f) :: wM cB cI bd w h M O CT LB FS TD PR BY th (np : Int) (nk : Int) (nc : Int)) rfl (by decide) rfl (by decide) (by decide) 10 rfl rfl rfl rfl (Nat.le_of_ble_eq_true rfl) eL_law_225 ⟨by show _ ≤ (601024 : Nat); omega, by show _ ≤ (7293000 : Nat); omega⟩ (fun z w1 hp => ?_)
  obtain ⟨rfl, rfl⟩ := hp
  have ep : (if 0 ≤ a1 ∧ a1 < (np : Int) ∧ 0 ≤ a2 ∧ a2 < 7 then PF (a1.toNat * 7 + a2.toNat) else -1) = (if 0 ≤ a1 ∧ a1 < (np : Int) ∧ 0 ≤ a2 ∧ a2 < 7 then TD (a1.toNat * 7 + a2.toNat) else -1) := by
    by_cases q : 0 ≤ a1 ∧ a1 < (np : Int) ∧ 0 ≤ a2 ∧ a2 < 7
    · rw [if_pos q, if_pos q]; exact hPF _ _ (by omega) (by omega)
    · rw [if_neg q, if_neg q]
  rw [ep]
  refine j_aload_n C eL_law_228 2 rfl ?_
  refine j_aload_n C eL_law_229 0 rfl ?_
  refine j_iload C eL_law_230 4 rfl ?_
  refine j_iconst C eL_law_232 ?_
  refine j_iadd C eL_law_233 ?_
  refine j_sld C hX hbl hbA (i + 1) (by omega) (by omega) hL eL_law_234 ?_
  rw [h1]
  refine j_aload_n C eL_law_235 0 rfl ?_
  refine j_iload C eL_law_236 4 rfl ?_
  refine j_iconst C eL_law_238 ?_
  refine j_iadd C eL_law_239 ?_
  refine j_sld C hX hbl hbA (i + 2) (by omega) (by omega) hL eL_law_240 ?_
  rw [h2]
  refine j_callVi C (As := [.int (zI a1), .int (zI a2)]) (rest := [.int (zI (if 0 ≤ a1 ∧ a1 < (np : Int) ∧ 0 ≤ a2 ∧ a2 < 7 then TD (a1.toNat * 7 + a2.toNat) else -1))]) (ctX1_part l D cB cI cZ cL bd w h hs M O CT LB FS TD PR BY th (np : Int) (nk : Int) (nc : Int) a1 a2 e1 e2 ⟨by omega, by omega⟩) (cwV 2 C.1.2.2.2.2 gL_law_X1_part rfl rfl rfl (by decide +kernel) ⟨Nat.le_of_ble_eq_true rfl, Nat.le_of_ble_eq_true rfl⟩) [1, 2, 3, 4, 5, 6, 7, 8, 9] [0, 10, 11, 12, 13, 14, 15, 16, 17, 18, 19, 20] (wr := (o, oL cL f) :: wX cB cI cZ ad w h aG aS G S CB SB DK DR RE PF PK CO rc (np : Int) (nk : Int) (nc : Int)) rfl (by decide) rfl (by decide) (by decide) 1 rfl rfl rfl rfl (Nat.le_of_ble_eq_true rfl) eL_law_241 ⟨by show _ ≤ (601024 : Nat); omega, by show _ ≤ (7293000 : Nat); omega⟩ (fun z w1 hp => ?_)
  obtain ⟨rfl, rfl⟩ := hp
  refine j_perm [0, 12, 13, 14, 15, 16, 17, 18, 19, 20, 1, 2, 3, 4, 5, 6, 7, 8, 9, 10, 11] (by decide) (wd' := ((o, oL cL f) :: wM cB cI bd w h M O CT LB FS TD PR BY 0 (np : Int) (nk : Int) (nc : Int)) ++ wX cB cI cZ ad w h aG aS G S CB SB DK DR RE PF PK CO rc (np : Int) (nk : Int) (nc : Int)) rfl ?_
  refine j_same C 500 eL_law_244 (by decide) ?_
  refine j_widen (cells' := cells + 1) (slots' := slots + 6) (by omega) (by omega) ?_
  exact K _ _ _ _ _ _ _ _ _ _ _ _ _ _ _ _ _ _ _ _ _ _ _ _ _ _ hr
set_option maxHeartbeats 4000000 in
set_option maxRecDepth 100000 in
theorem lc_4 (Cx : LC p l s m c b L xs D cB cI cZ cL) (hs : Sz w h) (hi : i + 3 < L) (h1 : (xs (i + 1)).toInt = a1) (h2 : (xs (i + 2)).toInt = a2) (h3 : (xs (i + 3)).toInt = a3) {f : Nat → Int64} {aG aS : Nat} {G S CB SB DK DR RE PF PK CO : Nat → Int} {rc : Int} {np nk nc : Nat} {M O CT LB FS TD PR BY : Nat → Int} {th : Int} (hr : rel w h G PF PK CO np nk nc M TD PR BY) (hc9 : cells + 1 ≤ 601024) (hs9 : slots + 6 ≤ 7293000) (K : nxt p l e s m b below meth c D cB cI cZ cL w h ad bd o 500 i (cells + 1) (slots + 6)) : JW p l e s m b below meth c D 249 (lvI ad bd b o i) [] (((o, oL cL f) :: wM cB cI bd w h M O CT LB FS TD PR BY th (np : Int) (nk : Int) (nc : Int)) ++ wX cB cI cZ ad w h aG aS G S CB SB DK DR RE PF PK CO rc (np : Int) (nk : Int) (nc : Int)) cells slots := by
  obtain ⟨C, hX, hbl, hL, hXC, hl9⟩ := Cx
  have hbA : ¬ va_A [] s.heap.size b := fun q => Nat.lt_irrefl _ (Nat.lt_of_lt_of_le hbl (va_A0 q))
  have hA0 : ∀ q, q < s.heap.size → ¬ va_A [] s.heap.size q := fun q hq z => Nat.lt_irrefl _ (Nat.lt_of_lt_of_le hq (va_A0 z))
  have hm := hs.mul
  have e1 := sc_in (xs (i + 1))
  have e2 := sc_in (xs (i + 2))
  have e3 := sc_in (xs (i + 3))
  rw [h1] at e1
  rw [h2] at e2
  rw [h3] at e3
  obtain ⟨hG, hM, ⟨hnp, hPF⟩, ⟨hnk, hPK⟩, ⟨hnc, hCO⟩⟩ := id hr
  have hgM := rl_gry hM
  refine j_aload_n C eL_law_249 1 rfl ?_
  refine j_callVi C (As := []) (rest := []) (ctX0_skew l D cB cI cZ cL ad w h hs aG aS G S CB SB DK DR RE PF PK CO rc (np : Int) (nk : Int) (nc : Int) ) (cwV 0 C.1.2.2.2.2 gL_law_X0_skew rfl rfl rfl (by decide +kernel) ⟨Nat.le_of_ble_eq_true rfl, Nat.le_of_ble_eq_true rfl⟩) [10, 11, 12, 13, 14, 15, 16, 17, 18, 19, 20] [0, 1, 2, 3, 4, 5, 6, 7, 8, 9] (wr := (o, oL cL f) :: wM cB cI bd w h M O CT LB FS TD PR BY th (np : Int) (nk : Int) (nc : Int)) rfl (by decide) rfl (by decide) (by decide) 10 rfl rfl rfl rfl (Nat.le_of_ble_eq_true rfl) eL_law_250 ⟨by show _ ≤ (601024 : Nat); omega, by show _ ≤ (7293000 : Nat); omega⟩ (fun z w1 hp => ?_)
  obtain ⟨CB', SB', DK', DR', rfl, rfl⟩ := hp
  rw [rl_skew hM]
  refine j_aload_n C eL_law_253 2 rfl ?_
  refine j_callVi C (As := []) (rest := [.int (zI (skb (ssq w h (dkf M (w * h))) 8))]) (ctX1_skew l D cB cI cZ cL bd w h hs M O CT LB FS TD PR BY th (np : Int) (nk : Int) (nc : Int) hgM) (cwV 0 C.1.2.2.2.2 gL_law_X1_skew rfl rfl rfl (by decide +kernel) ⟨Nat.le_of_ble_eq_true rfl, Nat.le_of_ble_eq_true rfl⟩) [1, 2, 3, 4, 5, 6, 7, 8, 9] [0, 10, 11, 12, 13, 14, 15, 16, 17, 18, 19, 20] (wr := (o, oL cL f) :: wX cB cI cZ ad w h aG aS G S CB' SB' DK' DR' RE PF PK CO rc (np : Int) (nk : Int) (nc : Int)) rfl (by decide) rfl (by decide) (by decide) 1 rfl rfl rfl rfl (Nat.le_of_ble_eq_true rfl) eL_law_254 ⟨by show _ ≤ (601024 : Nat); omega, by show _ ≤ (7293000 : Nat); omega⟩ (fun z w1 hp => ?_)
  obtain ⟨CT', O', rfl, rfl⟩ := hp
  refine j_perm [0, 12, 13, 14, 15, 16, 17, 18, 19, 20, 1, 2, 3, 4, 5, 6, 7, 8, 9, 10, 11] (by decide) (wd' := ((o, oL cL f) :: wM cB cI bd w h M O' CT' LB FS TD PR BY 0 (np : Int) (nk : Int) (nc : Int)) ++ wX cB cI cZ ad w h aG aS G S CB' SB' DK' DR' RE PF PK CO rc (np : Int) (nk : Int) (nc : Int)) rfl ?_
  refine j_same C 500 eL_law_257 (by decide) ?_
  refine j_widen (cells' := cells + 1) (slots' := slots + 6) (by omega) (by omega) ?_
  exact K _ _ _ _ _ _ _ _ _ _ _ _ _ _ _ _ _ _ _ _ _ _ _ _ _ _ hr
set_option maxHeartbeats 4000000 in
set_option maxRecDepth 100000 in
theorem lc_5 (Cx : LC p l s m c b L xs D cB cI cZ cL) (hs : Sz w h) (hi : i + 3 < L) (h1 : (xs (i + 1)).toInt = a1) (h2 : (xs (i + 2)).toInt = a2) (h3 : (xs (i + 3)).toInt = a3) {f : Nat → Int64} {aG aS : Nat} {G S CB SB DK DR RE PF PK CO : Nat → Int} {rc : Int} {np nk nc : Nat} {M O CT LB FS TD PR BY : Nat → Int} {th : Int} (hr : rel w h G PF PK CO np nk nc M TD PR BY) (hc9 : cells + 1 ≤ 601024) (hs9 : slots + 6 ≤ 7293000) (K : nxt p l e s m b below meth c D cB cI cZ cL w h ad bd o 500 i (cells + 1) (slots + 6)) : JW p l e s m b below meth c D 262 (lvI ad bd b o i) [] (((o, oL cL f) :: wM cB cI bd w h M O CT LB FS TD PR BY th (np : Int) (nk : Int) (nc : Int)) ++ wX cB cI cZ ad w h aG aS G S CB SB DK DR RE PF PK CO rc (np : Int) (nk : Int) (nc : Int)) cells slots := by
  obtain ⟨C, hX, hbl, hL, hXC, hl9⟩ := Cx
  have hbA : ¬ va_A [] s.heap.size b := fun q => Nat.lt_irrefl _ (Nat.lt_of_lt_of_le hbl (va_A0 q))
  have hA0 : ∀ q, q < s.heap.size → ¬ va_A [] s.heap.size q := fun q hq z => Nat.lt_irrefl _ (Nat.lt_of_lt_of_le hq (va_A0 z))
  have hm := hs.mul
  have e1 := sc_in (xs (i + 1))
  have e2 := sc_in (xs (i + 2))
  have e3 := sc_in (xs (i + 3))
  rw [h1] at e1
  rw [h2] at e2
  rw [h3] at e3
  obtain ⟨hG, hM, ⟨hnp, hPF⟩, ⟨hnk, hPK⟩, ⟨hnc, hCO⟩⟩ := id hr
  have hgM := rl_gry hM
  refine j_aload_n C eL_law_262 1 rfl ?_
  refine j_aload_n C eL_law_263 0 rfl ?_
  refine j_iload C eL_law_264 4 rfl ?_
  refine j_iconst C eL_law_266 ?_
  refine j_iadd C eL_law_267 ?_
  refine j_sld C hX hbl hbA (i + 1) (by omega) (by omega) hL eL_law_268 ?_
  rw [h1]
  by_cases hq : -100 ≤ a1 ∧ a1 ≤ 100
  ·
    refine j_callVi C (As := [.int (zI a1)]) (rest := []) (ctX0_turn l D cB cI cZ cL ad w h hs aG aS G S CB SB DK DR RE PF PK CO rc (np : Int) (nk : Int) (nc : Int) a1 e1 hG) (cwV 1 C.1.2.2.2.2 gL_law_X0_turn rfl rfl rfl (by decide +kernel) ⟨Nat.le_of_ble_eq_true rfl, Nat.le_of_ble_eq_true rfl⟩) [10, 11, 12, 13, 14, 15, 16, 17, 18, 19, 20] [0, 1, 2, 3, 4, 5, 6, 7, 8, 9] (wr := (o, oL cL f) :: wM cB cI bd w h M O CT LB FS TD PR BY th (np : Int) (nk : Int) (nc : Int)) rfl (by decide) rfl (by decide) (by decide) 10 rfl rfl rfl rfl (Nat.le_of_ble_eq_true rfl) eL_law_269 ⟨by show _ ≤ (601024 : Nat); omega, by show _ ≤ (7293000 : Nat); omega⟩ (fun z w1 hp => ?_)
    rw [if_pos hq] at hp
    obtain ⟨S', ht1, rfl, rfl⟩ := hp
    refine j_aload_n C eL_law_272 2 rfl ?_
    refine j_aload_n C eL_law_273 0 rfl ?_
    refine j_iload C eL_law_274 4 rfl ?_
    refine j_iconst C eL_law_276 ?_
    refine j_iadd C eL_law_277 ?_
    refine j_sld C hX hbl hbA (i + 1) (by omega) (by omega) hL eL_law_278 ?_
    rw [h1]
    refine j_callVi C (As := [.int (zI a1)]) (rest := [.int (zI (dif G S' (w * h)))]) (ctX1_turn l D cB cI cZ cL bd w h hs M O CT LB FS TD PR BY th (np : Int) (nk : Int) (nc : Int) a1 e1 hgM) (cwV 1 C.1.2.2.2.2 gL_law_X1_turn rfl rfl rfl (by decide +kernel) ⟨Nat.le_of_ble_eq_true rfl, Nat.le_of_ble_eq_true rfl⟩) [1, 2, 3, 4, 5, 6, 7, 8, 9] [0, 10, 11, 12, 13, 14, 15, 16, 17, 18, 19, 20] (wr := (o, oL cL f) :: wX cB cI cZ ad w h aS aG S' G CB SB DK DR RE PF PK CO rc (np : Int) (nk : Int) (nc : Int)) rfl (by decide) rfl (by decide) (by decide) 1 rfl rfl rfl rfl (Nat.le_of_ble_eq_true rfl) eL_law_279 ⟨by show _ ≤ (601024 : Nat); omega, by show _ ≤ (7293000 : Nat); omega⟩ (fun z w1 hp => ?_)
    rw [if_pos hq] at hp
    obtain ⟨O', G', ht2, hg2, rfl, rfl⟩ := hp
    refine j_perm [0, 12, 13, 14, 15, 16, 17, 18, 19, 20, 1, 2, 3, 4, 5, 6, 7, 8, 9, 10, 11] (by decide) (wd' := ((o, oL cL f) :: wM cB cI bd w h G' O' CT LB FS TD PR BY 0 (np : Int) (nk : Int) (nc : Int)) ++ wX cB cI cZ ad w h aS aG S' G CB SB DK DR RE PF PK CO rc (np : Int) (nk : Int) (nc : Int)) rfl ?_
    have hSO := rl_tnd hs hM ht1 ht2
    have hSb := tnd_byt hs ht1 hG
    rw [rl_dif hG hSb hM hSO]
    refine j_same C 500 eL_law_282 (by decide) ?_
    refine j_widen (cells' := cells + 1) (slots' := slots + 6) (by omega) (by omega) ?_
    exact K _ _ _ _ _ _ _ _ _ _ _ _ _ _ _ _ _ _ _ _ _ _ _ _ _ _ ⟨hSb, fun k hk => (hg2 k hk).trans (hSO k hk), ⟨hnp, hPF⟩, ⟨hnk, hPK⟩, ⟨hnc, hCO⟩⟩
  ·
    refine j_callVi C (As := [.int (zI a1)]) (rest := []) (ctX0_turn l D cB cI cZ cL ad w h hs aG aS G S CB SB DK DR RE PF PK CO rc (np : Int) (nk : Int) (nc : Int) a1 e1 hG) (cwV 1 C.1.2.2.2.2 gL_law_X0_turn rfl rfl rfl (by decide +kernel) ⟨Nat.le_of_ble_eq_true rfl, Nat.le_of_ble_eq_true rfl⟩) [10, 11, 12, 13, 14, 15, 16, 17, 18, 19, 20] [0, 1, 2, 3, 4, 5, 6, 7, 8, 9] (wr := (o, oL cL f) :: wM cB cI bd w h M O CT LB FS TD PR BY th (np : Int) (nk : Int) (nc : Int)) rfl (by decide) rfl (by decide) (by decide) 10 rfl rfl rfl rfl (Nat.le_of_ble_eq_true rfl) eL_law_269 ⟨by show _ ≤ (601024 : Nat); omega, by show _ ≤ (7293000 : Nat); omega⟩ (fun z w1 hp => ?_)
    rw [if_neg hq] at hp
    obtain ⟨rfl, rfl⟩ := hp
    refine j_aload_n C eL_law_272 2 rfl ?_
    refine j_aload_n C eL_law_273 0 rfl ?_
    refine j_iload C eL_law_274 4 rfl ?_
    refine j_iconst C eL_law_276 ?_
    refine j_iadd C eL_law_277 ?_
    refine j_sld C hX hbl hbA (i + 1) (by omega) (by omega) hL eL_law_278 ?_
    rw [h1]
    refine j_callVi C (As := [.int (zI a1)]) (rest := [.int (zI (-1))]) (ctX1_turn l D cB cI cZ cL bd w h hs M O CT LB FS TD PR BY th (np : Int) (nk : Int) (nc : Int) a1 e1 hgM) (cwV 1 C.1.2.2.2.2 gL_law_X1_turn rfl rfl rfl (by decide +kernel) ⟨Nat.le_of_ble_eq_true rfl, Nat.le_of_ble_eq_true rfl⟩) [1, 2, 3, 4, 5, 6, 7, 8, 9] [0, 10, 11, 12, 13, 14, 15, 16, 17, 18, 19, 20] (wr := (o, oL cL f) :: wX cB cI cZ ad w h aG aS G S CB SB DK DR RE PF PK CO rc (np : Int) (nk : Int) (nc : Int)) rfl (by decide) rfl (by decide) (by decide) 1 rfl rfl rfl rfl (Nat.le_of_ble_eq_true rfl) eL_law_279 ⟨by show _ ≤ (601024 : Nat); omega, by show _ ≤ (7293000 : Nat); omega⟩ (fun z w1 hp => ?_)
    rw [if_neg hq] at hp
    obtain ⟨rfl, rfl⟩ := hp
    refine j_perm [0, 12, 13, 14, 15, 16, 17, 18, 19, 20, 1, 2, 3, 4, 5, 6, 7, 8, 9, 10, 11] (by decide) (wd' := ((o, oL cL f) :: wM cB cI bd w h M O CT LB FS TD PR BY 0 (np : Int) (nk : Int) (nc : Int)) ++ wX cB cI cZ ad w h aG aS G S CB SB DK DR RE PF PK CO rc (np : Int) (nk : Int) (nc : Int)) rfl ?_
    refine j_same C 500 eL_law_282 (by decide) ?_
    refine j_widen (cells' := cells + 1) (slots' := slots + 6) (by omega) (by omega) ?_
    exact K _ _ _ _ _ _ _ _ _ _ _ _ _ _ _ _ _ _ _ _ _ _ _ _ _ _ hr
set_option maxHeartbeats 4000000 in
set_option maxRecDepth 100000 in
theorem lc_6 (Cx : LC p l s m c b L xs D cB cI cZ cL) (hs : Sz w h) (hi : i + 3 < L) (h1 : (xs (i + 1)).toInt = a1) (h2 : (xs (i + 2)).toInt = a2) (h3 : (xs (i + 3)).toInt = a3) {f : Nat → Int64} {aG aS : Nat} {G S CB SB DK DR RE PF PK CO : Nat → Int} {rc : Int} {np nk nc : Nat} {M O CT LB FS TD PR BY : Nat → Int} {th : Int} (hr : rel w h G PF PK CO np nk nc M TD PR BY) (hc9 : cells + 1 ≤ 601024) (hs9 : slots + 6 ≤ 7293000) (K : nxt p l e s m b below meth c D cB cI cZ cL w h ad bd o 500 i (cells + 1) (slots + 6)) : JW p l e s m b below meth c D 287 (lvI ad bd b o i) [] (((o, oL cL f) :: wM cB cI bd w h M O CT LB FS TD PR BY th (np : Int) (nk : Int) (nc : Int)) ++ wX cB cI cZ ad w h aG aS G S CB SB DK DR RE PF PK CO rc (np : Int) (nk : Int) (nc : Int)) cells slots := by
  obtain ⟨C, hX, hbl, hL, hXC, hl9⟩ := Cx
  have hbA : ¬ va_A [] s.heap.size b := fun q => Nat.lt_irrefl _ (Nat.lt_of_lt_of_le hbl (va_A0 q))
  have hA0 : ∀ q, q < s.heap.size → ¬ va_A [] s.heap.size q := fun q hq z => Nat.lt_irrefl _ (Nat.lt_of_lt_of_le hq (va_A0 z))
  have hm := hs.mul
  have e1 := sc_in (xs (i + 1))
  have e2 := sc_in (xs (i + 2))
  have e3 := sc_in (xs (i + 3))
  rw [h1] at e1
  rw [h2] at e2
  rw [h3] at e3
  obtain ⟨hG, hM, ⟨hnp, hPF⟩, ⟨hnk, hPK⟩, ⟨hnc, hCO⟩⟩ := id hr
  have hgM := rl_gry hM
  refine j_aload_n C eL_law_287 1 rfl ?_
  refine j_callVi C (As := []) (rest := []) (ctX0_pack l D cB cI cZ cL ad w h hs aG aS G S CB SB DK DR RE PF PK CO rc (np : Int) (nk : Int) (nc : Int) hG) (cwV 0 C.1.2.2.2.2 gL_law_X0_pack rfl rfl rfl (by decide +kernel) ⟨Nat.le_of_ble_eq_true rfl, Nat.le_of_ble_eq_true rfl⟩) [10, 11, 12, 13, 14, 15, 16, 17, 18, 19, 20] [0, 1, 2, 3, 4, 5, 6, 7, 8, 9] (wr := (o, oL cL f) :: wM cB cI bd w h M O CT LB FS TD PR BY th (np : Int) (nk : Int) (nc : Int)) rfl (by decide) rfl (by decide) (by decide) 10 rfl rfl rfl rfl (Nat.le_of_ble_eq_true rfl) eL_law_288 ⟨by show _ ≤ (601024 : Nat); omega, by show _ ≤ (7293000 : Nat); omega⟩ (fun z w1 hp => ?_)
  obtain ⟨PK', j, hp1, rfl, rfl⟩ := hp
  refine j_aload_n C eL_law_291 2 rfl ?_
  refine j_callVi C (As := []) (rest := [.int (zI ((2 * j : Nat) : Int))]) (ctX1_pack l D cB cI cZ cL bd w h hs M O CT LB FS TD PR BY th (np : Int) (nk : Int) (nc : Int) hgM) (cwV 0 C.1.2.2.2.2 gL_law_X1_pack rfl rfl rfl (by decide +kernel) ⟨Nat.le_of_ble_eq_true rfl, Nat.le_of_ble_eq_true rfl⟩) [1, 2, 3, 4, 5, 6, 7, 8, 9] [0, 10, 11, 12, 13, 14, 15, 16, 17, 18, 19, 20] (wr := (o, oL cL f) :: wX cB cI cZ ad w h aG aS G S CB SB DK DR RE PF PK' CO rc (np : Int) ((2 * j : Nat) : Int) (nc : Int)) rfl (by decide) rfl (by decide) (by decide) 1 rfl rfl rfl rfl (Nat.le_of_ble_eq_true rfl) eL_law_292 ⟨by show _ ≤ (601024 : Nat); omega, by show _ ≤ (7293000 : Nat); omega⟩ (fun z w1 hp => ?_)
  obtain ⟨PR', j', hp2, rfl, rfl⟩ := hp
  obtain ⟨rfl, hjn, hpp⟩ := rl_pack hM hp1 hp2
  refine j_perm [0, 12, 13, 14, 15, 16, 17, 18, 19, 20, 1, 2, 3, 4, 5, 6, 7, 8, 9, 10, 11] (by decide) (wd' := ((o, oL cL f) :: wM cB cI bd w h M O CT LB FS TD PR' BY 0 (np : Int) ((2 * j : Nat) : Int) (nc : Int)) ++ wX cB cI cZ ad w h aG aS G S CB SB DK DR RE PF PK' CO rc (np : Int) ((2 * j : Nat) : Int) (nc : Int)) rfl ?_
  refine j_same C 500 eL_law_295 (by decide) ?_
  refine j_widen (cells' := cells + 1) (slots' := slots + 6) (by omega) (by omega) ?_
  exact K _ _ _ _ _ _ _ _ _ _ _ _ _ _ _ _ _ _ _ _ _ _ _ _ _ _ ⟨hG, hM, ⟨hnp, hPF⟩, ⟨by omega, hpp⟩, ⟨hnc, hCO⟩⟩
set_option maxHeartbeats 4000000 in
set_option maxRecDepth 100000 in
theorem lc_8 (Cx : LC p l s m c b L xs D cB cI cZ cL) (hs : Sz w h) (hi : i + 3 < L) (h1 : (xs (i + 1)).toInt = a1) (h2 : (xs (i + 2)).toInt = a2) (h3 : (xs (i + 3)).toInt = a3) {f : Nat → Int64} {aG aS : Nat} {G S CB SB DK DR RE PF PK CO : Nat → Int} {rc : Int} {np nk nc : Nat} {M O CT LB FS TD PR BY : Nat → Int} {th : Int} (hr : rel w h G PF PK CO np nk nc M TD PR BY) (hc9 : cells + 1 ≤ 601024) (hs9 : slots + 6 ≤ 7293000) (K : nxt p l e s m b below meth c D cB cI cZ cL w h ad bd o 500 i (cells + 1) (slots + 6)) : JW p l e s m b below meth c D 356 (lvI ad bd b o i) [] (((o, oL cL f) :: wM cB cI bd w h M O CT LB FS TD PR BY th (np : Int) (nk : Int) (nc : Int)) ++ wX cB cI cZ ad w h aG aS G S CB SB DK DR RE PF PK CO rc (np : Int) (nk : Int) (nc : Int)) cells slots := by
  obtain ⟨C, hX, hbl, hL, hXC, hl9⟩ := Cx
  have hbA : ¬ va_A [] s.heap.size b := fun q => Nat.lt_irrefl _ (Nat.lt_of_lt_of_le hbl (va_A0 q))
  have hA0 : ∀ q, q < s.heap.size → ¬ va_A [] s.heap.size q := fun q hq z => Nat.lt_irrefl _ (Nat.lt_of_lt_of_le hq (va_A0 z))
  have hm := hs.mul
  have e1 := sc_in (xs (i + 1))
  have e2 := sc_in (xs (i + 2))
  have e3 := sc_in (xs (i + 3))
  rw [h1] at e1
  rw [h2] at e2
  rw [h3] at e3
  obtain ⟨hG, hM, ⟨hnp, hPF⟩, ⟨hnk, hPK⟩, ⟨hnc, hCO⟩⟩ := id hr
  have hgM := rl_gry hM
  refine j_aload_n C eL_law_356 1 rfl ?_
  refine j_aload_n C eL_law_357 0 rfl ?_
  refine j_iload C eL_law_358 4 rfl ?_
  refine j_iconst C eL_law_360 ?_
  refine j_iadd C eL_law_361 ?_
  refine j_sld C hX hbl hbA (i + 1) (by omega) (by omega) hL eL_law_362 ?_
  rw [h1]
  refine j_i2bz C eL_law_363 ?_
  by_cases hq : nc < 5000
  ·
    refine j_callVv C (As := [.int (zI (Int.bmod a1 256))]) (rest := []) (ctX0_add l D cB cI cZ cL ad w h hs aG aS G S CB SB DK DR RE PF PK CO rc (np : Int) (nk : Int) nc hnc (Int.bmod a1 256) (rl_bm a1)) (cwV 1 C.1.2.2.2.2 gL_law_X0_add rfl rfl rfl (by decide +kernel) ⟨Nat.le_of_ble_eq_true rfl, Nat.le_of_ble_eq_true rfl⟩) [10, 11, 12, 13, 14, 15, 16, 17, 18, 19, 20] [0, 1, 2, 3, 4, 5, 6, 7, 8, 9] (wr := (o, oL cL f) :: wM cB cI bd w h M O CT LB FS TD PR BY th (np : Int) (nk : Int) (nc : Int)) rfl (by decide) rfl (by decide) (by decide) 10 rfl rfl rfl rfl (Nat.le_of_ble_eq_true rfl) eL_law_364 ⟨by show _ ≤ (601024 : Nat); omega, by show _ ≤ (7293000 : Nat); omega⟩ (fun w1 hp => ?_)
    rw [if_pos hq] at hp
    subst hp
    refine j_aload_n C eL_law_367 2 rfl ?_
    refine j_aload_n C eL_law_368 0 rfl ?_
    refine j_iload C eL_law_369 4 rfl ?_
    refine j_iconst C eL_law_371 ?_
    refine j_iadd C eL_law_372 ?_
    refine j_sld C hX hbl hbA (i + 1) (by omega) (by omega) hL eL_law_373 ?_
    rw [h1]
    refine j_i2bz C eL_law_374 ?_
    refine j_callVv C (As := [.int (zI (Int.bmod a1 256))]) (rest := []) (ctX1_add l D cB cI cZ cL bd w h hs M O CT LB FS TD PR BY th (np : Int) (nk : Int) nc hnc (Int.bmod a1 256) (rl_bm a1)) (cwV 1 C.1.2.2.2.2 gL_law_X1_add rfl rfl rfl (by decide +kernel) ⟨Nat.le_of_ble_eq_true rfl, Nat.le_of_ble_eq_true rfl⟩) [1, 2, 3, 4, 5, 6, 7, 8, 9] [0, 10, 11, 12, 13, 14, 15, 16, 17, 18, 19, 20] (wr := (o, oL cL f) :: wX cB cI cZ ad w h aG aS G S CB SB DK DR RE PF PK (zup CO nc (Int.bmod a1 256)) rc (np : Int) (nk : Int) ((nc : Int) + 1)) rfl (by decide) rfl (by decide) (by decide) 1 rfl rfl rfl rfl (Nat.le_of_ble_eq_true rfl) eL_law_375 ⟨by show _ ≤ (601024 : Nat); omega, by show _ ≤ (7293000 : Nat); omega⟩ (fun w1 hp => ?_)
    rw [if_pos hq] at hp
    subst hp
    refine j_perm [0, 12, 13, 14, 15, 16, 17, 18, 19, 20, 1, 2, 3, 4, 5, 6, 7, 8, 9, 10, 11] (by decide) (wd' := ((o, oL cL f) :: wM cB cI bd w h M O CT LB FS TD PR (zup BY nc (Int.bmod a1 256)) 0 (np : Int) (nk : Int) ((nc : Int) + 1)) ++ wX cB cI cZ ad w h aG aS G S CB SB DK DR RE PF PK (zup CO nc (Int.bmod a1 256)) rc (np : Int) (nk : Int) ((nc : Int) + 1)) rfl ?_
    refine j_goto C 500 eL_law_378 (by decide) ?_
    rw [show ((nc : Int) + 1) = ((nc + 1 : Nat) : Int) by push_cast; rfl]
    refine j_widen (cells' := cells + 1) (slots' := slots + 6) (by omega) (by omega) ?_
    exact K _ _ _ _ _ _ _ _ _ _ _ _ _ _ _ _ _ _ _ _ _ _ _ _ _ _ ⟨hG, hM, ⟨hnp, hPF⟩, ⟨hnk, hPK⟩, ⟨by omega, rl_add (rl_bm a1) hCO⟩⟩
  ·
    refine j_callVv C (As := [.int (zI (Int.bmod a1 256))]) (rest := []) (ctX0_add l D cB cI cZ cL ad w h hs aG aS G S CB SB DK DR RE PF PK CO rc (np : Int) (nk : Int) nc hnc (Int.bmod a1 256) (rl_bm a1)) (cwV 1 C.1.2.2.2.2 gL_law_X0_add rfl rfl rfl (by decide +kernel) ⟨Nat.le_of_ble_eq_true rfl, Nat.le_of_ble_eq_true rfl⟩) [10, 11, 12, 13, 14, 15, 16, 17, 18, 19, 20] [0, 1, 2, 3, 4, 5, 6, 7, 8, 9] (wr := (o, oL cL f) :: wM cB cI bd w h M O CT LB FS TD PR BY th (np : Int) (nk : Int) (nc : Int)) rfl (by decide) rfl (by decide) (by decide) 10 rfl rfl rfl rfl (Nat.le_of_ble_eq_true rfl) eL_law_364 ⟨by show _ ≤ (601024 : Nat); omega, by show _ ≤ (7293000 : Nat); omega⟩ (fun w1 hp => ?_)
    rw [if_neg hq] at hp
    subst hp
    refine j_aload_n C eL_law_367 2 rfl ?_
    refine j_aload_n C eL_law_368 0 rfl ?_
    refine j_iload C eL_law_369 4 rfl ?_
    refine j_iconst C eL_law_371 ?_
    refine j_iadd C eL_law_372 ?_
    refine j_sld C hX hbl hbA (i + 1) (by omega) (by omega) hL eL_law_373 ?_
    rw [h1]
    refine j_i2bz C eL_law_374 ?_
    refine j_callVv C (As := [.int (zI (Int.bmod a1 256))]) (rest := []) (ctX1_add l D cB cI cZ cL bd w h hs M O CT LB FS TD PR BY th (np : Int) (nk : Int) nc hnc (Int.bmod a1 256) (rl_bm a1)) (cwV 1 C.1.2.2.2.2 gL_law_X1_add rfl rfl rfl (by decide +kernel) ⟨Nat.le_of_ble_eq_true rfl, Nat.le_of_ble_eq_true rfl⟩) [1, 2, 3, 4, 5, 6, 7, 8, 9] [0, 10, 11, 12, 13, 14, 15, 16, 17, 18, 19, 20] (wr := (o, oL cL f) :: wX cB cI cZ ad w h aG aS G S CB SB DK DR RE PF PK CO rc (np : Int) (nk : Int) (nc : Int)) rfl (by decide) rfl (by decide) (by decide) 1 rfl rfl rfl rfl (Nat.le_of_ble_eq_true rfl) eL_law_375 ⟨by show _ ≤ (601024 : Nat); omega, by show _ ≤ (7293000 : Nat); omega⟩ (fun w1 hp => ?_)
    rw [if_neg hq] at hp
    subst hp
    refine j_perm [0, 12, 13, 14, 15, 16, 17, 18, 19, 20, 1, 2, 3, 4, 5, 6, 7, 8, 9, 10, 11] (by decide) (wd' := ((o, oL cL f) :: wM cB cI bd w h M O CT LB FS TD PR BY 0 (np : Int) (nk : Int) (nc : Int)) ++ wX cB cI cZ ad w h aG aS G S CB SB DK DR RE PF PK CO rc (np : Int) (nk : Int) (nc : Int)) rfl ?_
    refine j_goto C 500 eL_law_378 (by decide) ?_
    refine j_widen (cells' := cells + 1) (slots' := slots + 6) (by omega) (by omega) ?_
    exact K _ _ _ _ _ _ _ _ _ _ _ _ _ _ _ _ _ _ _ _ _ _ _ _ _ _ hr
set_option maxHeartbeats 4000000 in
set_option maxRecDepth 100000 in
theorem lc_9 (Cx : LC p l s m c b L xs D cB cI cZ cL) (hs : Sz w h) (hi : i + 3 < L) (h1 : (xs (i + 1)).toInt = a1) (h2 : (xs (i + 2)).toInt = a2) (h3 : (xs (i + 3)).toInt = a3) {f : Nat → Int64} {aG aS : Nat} {G S CB SB DK DR RE PF PK CO : Nat → Int} {rc : Int} {np nk nc : Nat} {M O CT LB FS TD PR BY : Nat → Int} {th : Int} (hr : rel w h G PF PK CO np nk nc M TD PR BY) (hc9 : cells + 1 ≤ 601024) (hs9 : slots + 6 ≤ 7293000) (K : nxt p l e s m b below meth c D cB cI cZ cL w h ad bd o 500 i (cells + 1) (slots + 6)) : JW p l e s m b below meth c D 381 (lvI ad bd b o i) [] (((o, oL cL f) :: wM cB cI bd w h M O CT LB FS TD PR BY th (np : Int) (nk : Int) (nc : Int)) ++ wX cB cI cZ ad w h aG aS G S CB SB DK DR RE PF PK CO rc (np : Int) (nk : Int) (nc : Int)) cells slots := by
  obtain ⟨C, hX, hbl, hL, hXC, hl9⟩ := Cx
  have hbA : ¬ va_A [] s.heap.size b := fun q => Nat.lt_irrefl _ (Nat.lt_of_lt_of_le hbl (va_A0 q))
  have hA0 : ∀ q, q < s.heap.size → ¬ va_A [] s.heap.size q := fun q hq z => Nat.lt_irrefl _ (Nat.lt_of_lt_of_le hq (va_A0 z))
  have hm := hs.mul
  have e1 := sc_in (xs (i + 1))
  have e2 := sc_in (xs (i + 2))
  have e3 := sc_in (xs (i + 3))
  rw [h1] at e1
  rw [h2] at e2
  rw [h3] at e3
  obtain ⟨hG, hM, ⟨hnp, hPF⟩, ⟨hnk, hPK⟩, ⟨hnc, hCO⟩⟩ := id hr
  have hgM := rl_gry hM
  refine j_aload_n C eL_law_381 1 rfl ?_
  rw [show (wX cB cI cZ ad w h aG aS G S CB SB DK DR RE PF PK CO rc (np : Int) (nk : Int) (nc : Int)) = (wX cB cI cZ ad w h aG aS G S CB SB DK DR RE PF PK CO rc (np : Int) (nk : Int) (nc : Int)) from rfl]
  refine j_callVi C (As := []) (rest := []) (ctX0_unpack l D cB cI cZ cL ad w h hs aG aS G S CB SB DK DR RE PF PK CO rc (np : Int) (nk : Int) nc hnc (rl_byt hCO) hG) (cwV 0 C.1.2.2.2.2 gL_law_X0_unpack rfl rfl rfl (by decide +kernel) ⟨Nat.le_of_ble_eq_true rfl, Nat.le_of_ble_eq_true rfl⟩) [10, 11, 12, 13, 14, 15, 16, 17, 18, 19, 20] [0, 1, 2, 3, 4, 5, 6, 7, 8, 9] (wr := (o, oL cL f) :: wM cB cI bd w h M O CT LB FS TD PR BY th (np : Int) (nk : Int) (nc : Int)) rfl (by decide) rfl (by decide) (by decide) 10 rfl rfl rfl rfl (Nat.le_of_ble_eq_true rfl) eL_law_382 ⟨by show _ ≤ (601024 : Nat); omega, by show _ ≤ (7293000 : Nat); omega⟩ (fun z w1 hp => ?_)
  obtain ⟨j, S', o1, s1, f1, hp⟩ := hp
  by_cases hv : vls CO nc (w * h) j = -1
  ·
    rw [if_pos hv] at hp
    obtain ⟨rfl, rfl⟩ := hp
    refine j_aload_n C eL_law_385 2 rfl ?_
    refine j_callVi C (As := []) (rest := [.int (zI 1)]) (ctX1_unpack l D cB cI cZ cL bd w h hs M O CT LB FS TD PR BY th (np : Int) (nk : Int) nc hnc hgM) (cwV 0 C.1.2.2.2.2 gL_law_X1_unpack rfl rfl rfl (by decide +kernel) ⟨Nat.le_of_ble_eq_true rfl, Nat.le_of_ble_eq_true rfl⟩) [1, 2, 3, 4, 5, 6, 7, 8, 9] [0, 10, 11, 12, 13, 14, 15, 16, 17, 18, 19, 20] (wr := (o, oL cL f) :: wX cB cI cZ ad w h aS aG S' G CB SB DK DR RE PF PK CO rc (np : Int) (nk : Int) 0) rfl (by decide) rfl (by decide) (by decide) 1 rfl rfl rfl rfl (Nat.le_of_ble_eq_true rfl) eL_law_386 ⟨by show _ ≤ (601024 : Nat); omega, by show _ ≤ (7293000 : Nat); omega⟩ (fun z w1 hp => ?_)
    obtain ⟨j', O', o2, s2, f2, hp⟩ := hp
    obtain ⟨ev, hSO⟩ := rl_unp hCO o1 s1 f1 o2 s2 f2
    obtain ⟨hSb, hSO⟩ := hSO hv
    rw [if_pos (ev.symm.trans hv)] at hp
    obtain ⟨rfl, G', hg2, rfl⟩ := hp
    refine j_perm [0, 12, 13, 14, 15, 16, 17, 18, 19, 20, 1, 2, 3, 4, 5, 6, 7, 8, 9, 10, 11] (by decide) (wd' := ((o, oL cL f) :: wM cB cI bd w h G' O' CT LB FS TD PR BY 0 (np : Int) (nk : Int) 0) ++ wX cB cI cZ ad w h aS aG S' G CB SB DK DR RE PF PK CO rc (np : Int) (nk : Int) 0) rfl ?_
    refine j_same C 500 eL_law_389 (by decide) ?_
    rw [show (0 : Int) = ((0 : Nat) : Int) from rfl]
    refine j_widen (cells' := cells + 1) (slots' := slots + 6) (by omega) (by omega) ?_
    exact K _ _ _ _ _ _ _ _ _ _ _ _ _ _ _ _ _ _ _ _ _ _ _ _ _ _ ⟨hSb, fun k hk => (hg2 k hk).trans (hSO k hk), ⟨hnp, hPF⟩, ⟨hnk, hPK⟩, ⟨by omega, fun i hi => by omega⟩⟩
  ·
    rw [if_neg hv] at hp
    obtain ⟨rfl, rfl⟩ := hp
    refine j_aload_n C eL_law_385 2 rfl ?_
    refine j_callVi C (As := []) (rest := [.int (zI (-1 - vls CO nc (w * h) j))]) (ctX1_unpack l D cB cI cZ cL bd w h hs M O CT LB FS TD PR BY th (np : Int) (nk : Int) nc hnc hgM) (cwV 0 C.1.2.2.2.2 gL_law_X1_unpack rfl rfl rfl (by decide +kernel) ⟨Nat.le_of_ble_eq_true rfl, Nat.le_of_ble_eq_true rfl⟩) [1, 2, 3, 4, 5, 6, 7, 8, 9] [0, 10, 11, 12, 13, 14, 15, 16, 17, 18, 19, 20] (wr := (o, oL cL f) :: wX cB cI cZ ad w h aG aS G S' CB SB DK DR RE PF PK CO rc (np : Int) (nk : Int) 0) rfl (by decide) rfl (by decide) (by decide) 1 rfl rfl rfl rfl (Nat.le_of_ble_eq_true rfl) eL_law_386 ⟨by show _ ≤ (601024 : Nat); omega, by show _ ≤ (7293000 : Nat); omega⟩ (fun z w1 hp => ?_)
    obtain ⟨j', O', o2, s2, f2, hp⟩ := hp
    obtain ⟨ev, hSO⟩ := rl_unp hCO o1 s1 f1 o2 s2 f2
    rw [if_neg (fun q => hv (ev.trans q))] at hp
    obtain ⟨rfl, rfl⟩ := hp
    rw [← ev]
    refine j_perm [0, 12, 13, 14, 15, 16, 17, 18, 19, 20, 1, 2, 3, 4, 5, 6, 7, 8, 9, 10, 11] (by decide) (wd' := ((o, oL cL f) :: wM cB cI bd w h M O' CT LB FS TD PR BY 0 (np : Int) (nk : Int) 0) ++ wX cB cI cZ ad w h aG aS G S' CB SB DK DR RE PF PK CO rc (np : Int) (nk : Int) 0) rfl ?_
    refine j_same C 500 eL_law_389 (by decide) ?_
    rw [show (0 : Int) = ((0 : Nat) : Int) from rfl]
    refine j_widen (cells' := cells + 1) (slots' := slots + 6) (by omega) (by omega) ?_
    exact K _ _ _ _ _ _ _ _ _ _ _ _ _ _ _ _ _ _ _ _ _ _ _ _ _ _ ⟨hG, hM, ⟨hnp, hPF⟩, ⟨hnk, hPK⟩, ⟨by omega, fun i hi => by omega⟩⟩
set_option maxHeartbeats 4000000 in
set_option maxRecDepth 100000 in
theorem lc_10 (Cx : LC p l s m c b L xs D cB cI cZ cL) (hs : Sz w h) (hi : i + 3 < L) (h1 : (xs (i + 1)).toInt = a1) (h2 : (xs (i + 2)).toInt = a2) (h3 : (xs (i + 3)).toInt = a3) {f : Nat → Int64} {aG aS : Nat} {G S CB SB DK DR RE PF PK CO : Nat → Int} {rc : Int} {np nk nc : Nat} {M O CT LB FS TD PR BY : Nat → Int} {th : Int} (hr : rel w h G PF PK CO np nk nc M TD PR BY) (hc9 : cells + 1 ≤ 601024) (hs9 : slots + 6 ≤ 7293000) (K : nxt p l e s m b below meth c D cB cI cZ cL w h ad bd o 500 i (cells + 1) (slots + 6)) : JW p l e s m b below meth c D 394 (lvI ad bd b o i) [] (((o, oL cL f) :: wM cB cI bd w h M O CT LB FS TD PR BY th (np : Int) (nk : Int) (nc : Int)) ++ wX cB cI cZ ad w h aG aS G S CB SB DK DR RE PF PK CO rc (np : Int) (nk : Int) (nc : Int)) cells slots := by
  obtain ⟨C, hX, hbl, hL, hXC, hl9⟩ := Cx
  have hbA : ¬ va_A [] s.heap.size b := fun q => Nat.lt_irrefl _ (Nat.lt_of_lt_of_le hbl (va_A0 q))
  have hA0 : ∀ q, q < s.heap.size → ¬ va_A [] s.heap.size q := fun q hq z => Nat.lt_irrefl _ (Nat.lt_of_lt_of_le hq (va_A0 z))
  have hm := hs.mul
  have e1 := sc_in (xs (i + 1))
  have e2 := sc_in (xs (i + 2))
  have e3 := sc_in (xs (i + 3))
  rw [h1] at e1
  rw [h2] at e2
  rw [h3] at e3
  obtain ⟨hG, hM, ⟨hnp, hPF⟩, ⟨hnk, hPK⟩, ⟨hnc, hCO⟩⟩ := id hr
  have hgM := rl_gry hM
  refine j_aload_n C eL_law_394 1 rfl ?_
  refine j_aload_n C eL_law_395 0 rfl ?_
  refine j_iload C eL_law_396 4 rfl ?_
  refine j_iconst C eL_law_398 ?_
  refine j_iadd C eL_law_399 ?_
  refine j_sld C hX hbl hbA (i + 1) (by omega) (by omega) hL eL_law_400 ?_
  rw [h1]
  by_cases hq : 0 ≤ a1 ∧ a1 ≤ 3
  ·
    refine j_callVi C (As := [.int (zI a1)]) (rest := []) (ctX0_side l D cB cI cZ cL ad w h hs aG aS G S CB SB DK DR RE PF PK CO rc (np : Int) (nk : Int) (nc : Int) a1 e1 hG) (cwV 1 C.1.2.2.2.2 gL_law_X0_side rfl rfl rfl (by decide +kernel) ⟨Nat.le_of_ble_eq_true rfl, Nat.le_of_ble_eq_true rfl⟩) [10, 11, 12, 13, 14, 15, 16, 17, 18, 19, 20] [0, 1, 2, 3, 4, 5, 6, 7, 8, 9] (wr := (o, oL cL f) :: wM cB cI bd w h M O CT LB FS TD PR BY th (np : Int) (nk : Int) (nc : Int)) rfl (by decide) rfl (by decide) (by decide) 10 rfl rfl rfl rfl (Nat.le_of_ble_eq_true rfl) eL_law_401 ⟨by show _ ≤ (601024 : Nat); omega, by show _ ≤ (7293000 : Nat); omega⟩ (fun z w1 hp => ?_)
    rw [if_pos hq] at hp
    obtain ⟨S', ht1, rfl, rfl⟩ := hp
    refine j_aload_n C eL_law_404 2 rfl ?_
    refine j_aload_n C eL_law_405 0 rfl ?_
    refine j_iload C eL_law_406 4 rfl ?_
    refine j_iconst C eL_law_408 ?_
    refine j_iadd C eL_law_409 ?_
    refine j_sld C hX hbl hbA (i + 1) (by omega) (by omega) hL eL_law_410 ?_
    rw [h1]
    refine j_callVi C (As := [.int (zI a1)]) (rest := [.int (zI (dif G S' (w * h)))]) (ctX1_side l D cB cI cZ cL bd w h hs M O CT LB FS TD PR BY th (np : Int) (nk : Int) (nc : Int) a1 e1 hgM) (cwV 1 C.1.2.2.2.2 gL_law_X1_side rfl rfl rfl (by decide +kernel) ⟨Nat.le_of_ble_eq_true rfl, Nat.le_of_ble_eq_true rfl⟩) [1, 2, 3, 4, 5, 6, 7, 8, 9] [0, 10, 11, 12, 13, 14, 15, 16, 17, 18, 19, 20] (wr := (o, oL cL f) :: wX cB cI cZ ad w h aS aG S' G CB SB DK DR RE PF PK CO rc (np : Int) (nk : Int) (nc : Int)) rfl (by decide) rfl (by decide) (by decide) 1 rfl rfl rfl rfl (Nat.le_of_ble_eq_true rfl) eL_law_411 ⟨by show _ ≤ (601024 : Nat); omega, by show _ ≤ (7293000 : Nat); omega⟩ (fun z w1 hp => ?_)
    rw [if_pos hq] at hp
    obtain ⟨O', G', ht2, hg2, rfl, rfl⟩ := hp
    refine j_perm [0, 12, 13, 14, 15, 16, 17, 18, 19, 20, 1, 2, 3, 4, 5, 6, 7, 8, 9, 10, 11] (by decide) (wd' := ((o, oL cL f) :: wM cB cI bd w h G' O' CT LB FS TD PR BY 0 (np : Int) (nk : Int) (nc : Int)) ++ wX cB cI cZ ad w h aS aG S' G CB SB DK DR RE PF PK CO rc (np : Int) (nk : Int) (nc : Int)) rfl ?_
    obtain ⟨hSb, hSO⟩ := rl_side hs hG hM ht1 ht2
    rw [rl_dif hG hSb hM hSO]
    refine j_same C 500 eL_law_414 (by decide) ?_
    refine j_widen (cells' := cells + 1) (slots' := slots + 6) (by omega) (by omega) ?_
    exact K _ _ _ _ _ _ _ _ _ _ _ _ _ _ _ _ _ _ _ _ _ _ _ _ _ _ ⟨hSb, fun k hk => (hg2 k hk).trans (hSO k hk), ⟨hnp, hPF⟩, ⟨hnk, hPK⟩, ⟨hnc, hCO⟩⟩
  ·
    refine j_callVi C (As := [.int (zI a1)]) (rest := []) (ctX0_side l D cB cI cZ cL ad w h hs aG aS G S CB SB DK DR RE PF PK CO rc (np : Int) (nk : Int) (nc : Int) a1 e1 hG) (cwV 1 C.1.2.2.2.2 gL_law_X0_side rfl rfl rfl (by decide +kernel) ⟨Nat.le_of_ble_eq_true rfl, Nat.le_of_ble_eq_true rfl⟩) [10, 11, 12, 13, 14, 15, 16, 17, 18, 19, 20] [0, 1, 2, 3, 4, 5, 6, 7, 8, 9] (wr := (o, oL cL f) :: wM cB cI bd w h M O CT LB FS TD PR BY th (np : Int) (nk : Int) (nc : Int)) rfl (by decide) rfl (by decide) (by decide) 10 rfl rfl rfl rfl (Nat.le_of_ble_eq_true rfl) eL_law_401 ⟨by show _ ≤ (601024 : Nat); omega, by show _ ≤ (7293000 : Nat); omega⟩ (fun z w1 hp => ?_)
    rw [if_neg hq] at hp
    obtain ⟨rfl, rfl⟩ := hp
    refine j_aload_n C eL_law_404 2 rfl ?_
    refine j_aload_n C eL_law_405 0 rfl ?_
    refine j_iload C eL_law_406 4 rfl ?_
    refine j_iconst C eL_law_408 ?_
    refine j_iadd C eL_law_409 ?_
    refine j_sld C hX hbl hbA (i + 1) (by omega) (by omega) hL eL_law_410 ?_
    rw [h1]
    refine j_callVi C (As := [.int (zI a1)]) (rest := [.int (zI (-1))]) (ctX1_side l D cB cI cZ cL bd w h hs M O CT LB FS TD PR BY th (np : Int) (nk : Int) (nc : Int) a1 e1 hgM) (cwV 1 C.1.2.2.2.2 gL_law_X1_side rfl rfl rfl (by decide +kernel) ⟨Nat.le_of_ble_eq_true rfl, Nat.le_of_ble_eq_true rfl⟩) [1, 2, 3, 4, 5, 6, 7, 8, 9] [0, 10, 11, 12, 13, 14, 15, 16, 17, 18, 19, 20] (wr := (o, oL cL f) :: wX cB cI cZ ad w h aG aS G S CB SB DK DR RE PF PK CO rc (np : Int) (nk : Int) (nc : Int)) rfl (by decide) rfl (by decide) (by decide) 1 rfl rfl rfl rfl (Nat.le_of_ble_eq_true rfl) eL_law_411 ⟨by show _ ≤ (601024 : Nat); omega, by show _ ≤ (7293000 : Nat); omega⟩ (fun z w1 hp => ?_)
    rw [if_neg hq] at hp
    obtain ⟨rfl, rfl⟩ := hp
    refine j_perm [0, 12, 13, 14, 15, 16, 17, 18, 19, 20, 1, 2, 3, 4, 5, 6, 7, 8, 9, 10, 11] (by decide) (wd' := ((o, oL cL f) :: wM cB cI bd w h M O CT LB FS TD PR BY 0 (np : Int) (nk : Int) (nc : Int)) ++ wX cB cI cZ ad w h aG aS G S CB SB DK DR RE PF PK CO rc (np : Int) (nk : Int) (nc : Int)) rfl ?_
    refine j_same C 500 eL_law_414 (by decide) ?_
    refine j_widen (cells' := cells + 1) (slots' := slots + 6) (by omega) (by omega) ?_
    exact K _ _ _ _ _ _ _ _ _ _ _ _ _ _ _ _ _ _ _ _ _ _ _ _ _ _ hr
set_option maxHeartbeats 4000000 in
set_option maxRecDepth 100000 in
theorem lc_11 (Cx : LC p l s m c b L xs D cB cI cZ cL) (hs : Sz w h) (hi : i + 3 < L) (h1 : (xs (i + 1)).toInt = a1) (h2 : (xs (i + 2)).toInt = a2) (h3 : (xs (i + 3)).toInt = a3) {f : Nat → Int64} {aG aS : Nat} {G S CB SB DK DR RE PF PK CO : Nat → Int} {rc : Int} {np nk nc : Nat} {M O CT LB FS TD PR BY : Nat → Int} {th : Int} (hr : rel w h G PF PK CO np nk nc M TD PR BY) (hc9 : cells + 1 ≤ 601024) (hs9 : slots + 6 ≤ 7293000) (K : nxt p l e s m b below meth c D cB cI cZ cL w h ad bd o 500 i (cells + 1) (slots + 6)) : JW p l e s m b below meth c D 419 (lvI ad bd b o i) [] (((o, oL cL f) :: wM cB cI bd w h M O CT LB FS TD PR BY th (np : Int) (nk : Int) (nc : Int)) ++ wX cB cI cZ ad w h aG aS G S CB SB DK DR RE PF PK CO rc (np : Int) (nk : Int) (nc : Int)) cells slots := by
  obtain ⟨C, hX, hbl, hL, hXC, hl9⟩ := Cx
  have hbA : ¬ va_A [] s.heap.size b := fun q => Nat.lt_irrefl _ (Nat.lt_of_lt_of_le hbl (va_A0 q))
  have hA0 : ∀ q, q < s.heap.size → ¬ va_A [] s.heap.size q := fun q hq z => Nat.lt_irrefl _ (Nat.lt_of_lt_of_le hq (va_A0 z))
  have hm := hs.mul
  have e1 := sc_in (xs (i + 1))
  have e2 := sc_in (xs (i + 2))
  have e3 := sc_in (xs (i + 3))
  rw [h1] at e1
  rw [h2] at e2
  rw [h3] at e3
  obtain ⟨hG, hM, ⟨hnp, hPF⟩, ⟨hnk, hPK⟩, ⟨hnc, hCO⟩⟩ := id hr
  have hgM := rl_gry hM
  refine j_aload_n C eL_law_419 1 rfl ?_
  refine j_callVi C (As := []) (rest := []) (ctX0_inverted l D cB cI cZ cL ad w h hs aG aS G S CB SB DK DR RE PF PK CO rc (np : Int) (nk : Int) (nc : Int) ) (cwV 0 C.1.2.2.2.2 gL_law_X0_inverted rfl rfl rfl (by decide +kernel) ⟨Nat.le_of_ble_eq_true rfl, Nat.le_of_ble_eq_true rfl⟩) [10, 11, 12, 13, 14, 15, 16, 17, 18, 19, 20] [0, 1, 2, 3, 4, 5, 6, 7, 8, 9] (wr := (o, oL cL f) :: wM cB cI bd w h M O CT LB FS TD PR BY th (np : Int) (nk : Int) (nc : Int)) rfl (by decide) rfl (by decide) (by decide) 10 rfl rfl rfl rfl (Nat.le_of_ble_eq_true rfl) eL_law_420 ⟨by show _ ≤ (601024 : Nat); omega, by show _ ≤ (7293000 : Nat); omega⟩ (fun z w1 hp => ?_)
  obtain ⟨CB', SB', rfl, rfl⟩ := hp
  rw [show (if ivt (fun k => G k % 256) (w * h) then (1 : Int) else 0) = if ivt M (w * h) then 1 else 0 by
    have ei := ivt_congr (rl_fn hM)
    by_cases q : ivt M (w * h)
    · rw [if_pos q, if_pos (ei.mpr q)]
    · rw [if_neg q, if_neg (fun z => q (ei.mp z))]]
  refine j_aload_n C eL_law_423 2 rfl ?_
  refine j_callVi C (As := []) (rest := [.int (zI (if ivt M (w * h) then 1 else 0))]) (ctX1_inverted l D cB cI cZ cL bd w h hs M O CT LB FS TD PR BY th (np : Int) (nk : Int) (nc : Int) hgM) (cwV 0 C.1.2.2.2.2 gL_law_X1_inverted rfl rfl rfl (by decide +kernel) ⟨Nat.le_of_ble_eq_true rfl, Nat.le_of_ble_eq_true rfl⟩) [1, 2, 3, 4, 5, 6, 7, 8, 9] [0, 10, 11, 12, 13, 14, 15, 16, 17, 18, 19, 20] (wr := (o, oL cL f) :: wX cB cI cZ ad w h aG aS G S CB' SB' DK DR RE PF PK CO rc (np : Int) (nk : Int) (nc : Int)) rfl (by decide) rfl (by decide) (by decide) 1 rfl rfl rfl rfl (Nat.le_of_ble_eq_true rfl) eL_law_424 ⟨by show _ ≤ (601024 : Nat); omega, by show _ ≤ (7293000 : Nat); omega⟩ (fun z w1 hp => ?_)
  obtain ⟨CT', rfl, rfl⟩ := hp
  refine j_perm [0, 12, 13, 14, 15, 16, 17, 18, 19, 20, 1, 2, 3, 4, 5, 6, 7, 8, 9, 10, 11] (by decide) (wd' := ((o, oL cL f) :: wM cB cI bd w h M O CT' LB FS TD PR BY 0 (np : Int) (nk : Int) (nc : Int)) ++ wX cB cI cZ ad w h aG aS G S CB' SB' DK DR RE PF PK CO rc (np : Int) (nk : Int) (nc : Int)) rfl ?_
  refine j_same C 500 eL_law_427 (by decide) ?_
  refine j_widen (cells' := cells + 1) (slots' := slots + 6) (by omega) (by omega) ?_
  exact K _ _ _ _ _ _ _ _ _ _ _ _ _ _ _ _ _ _ _ _ _ _ _ _ _ _ hr
end LCS
