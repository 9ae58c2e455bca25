/-! THE LAW's CASES: those that catch -/
section LCX
variable {p : Program} {l : Launch} {e : Env} {s : State} {m : MethodId} {below : List Frame} {meth : Method} {c : Code} {b L : Nat} {xs : Nat → Int32} {D : va_G} {cB cI cZ cL : ClassId} {w h : Nat} {ad bd : Nat → Nat} {o : Nat} {i cells slots : Nat} {a1 a2 a3 : Int}
set_option maxHeartbeats 4000000 in
set_option maxRecDepth 100000 in
theorem lc_0 (Cx : LC p l s m c b L xs D cB cI cZ cL) (hs : Sz w h) (hi : i + 3 < L) (h1 : (xs (i + 1)).toInt = a1) (h2 : (xs (i + 2)).toInt = a2) (h3 : (xs (i + 3)).toInt = a3) {f : Nat → Int64} {aG aS : Nat} {G S CB SB DK DR RE PF PK CO : Nat → Int} {rc : Int} {np nk nc : Nat} {M O CT LB FS TD PR BY : Nat → Int} {th : Int} (hr : rel w h G PF PK CO np nk nc M TD PR BY) (hc9 : cells + 1 ≤ 601024) (hs9 : slots + 6 ≤ 7293000) (K : nxt p l e s m b below meth c D cB cI cZ cL w h ad bd o 500 i (cells + 1) (slots + 6)) : JW p l e s m b below meth c D 124 (lvI ad bd b o i) [] (((o, oL cL f) :: wM cB cI bd w h M O CT LB FS TD PR BY th (np : Int) (nk : Int) (nc : Int)) ++ wX cB cI cZ ad w h aG aS G S CB SB DK DR RE PF PK CO rc (np : Int) (nk : Int) (nc : Int)) cells slots := by
  obtain ⟨C, hX, hbl, hL, hXC, hl9⟩ := Cx
  have hbA : ¬ va_A [] s.heap.size b := fun q => Nat.lt_irrefl _ (Nat.lt_of_lt_of_le hbl (va_A0 q))
  have hA0 : ∀ q, q < s.heap.size → ¬ va_A [] s.heap.size q := fun q hq z => Nat.lt_irrefl _ (Nat.lt_of_lt_of_le hq (va_A0 z))
  have hm := hs.mul
  have e1 := sc_in (xs (i + 1))
  have e2 := sc_in (xs (i + 2))
  have e3 := sc_in (xs (i + 3))
  rw [h1] at e1
  rw [h2] at e2
  rw [h3] at e3
  obtain ⟨hG, hM, ⟨hnp, hPF⟩, ⟨hnk, hPK⟩, ⟨hnc, hCO⟩⟩ := id hr
  have hgM := rl_gry hM
  refine j_aload_n C eL_law_124 1 rfl ?_
  refine j_aload_n C eL_law_125 0 rfl ?_
  refine j_iload C eL_law_126 4 rfl ?_
  refine j_iconst C eL_law_128 ?_
  refine j_iadd C eL_law_129 ?_
  refine j_sld C hX hbl hbA (i + 1) (by omega) (by omega) hL eL_law_130 ?_
  rw [h1]
  refine j_aload_n C eL_law_131 0 rfl ?_
  refine j_iload C eL_law_132 4 rfl ?_
  refine j_iconst C eL_law_134 ?_
  refine j_iadd C eL_law_135 ?_
  refine j_sld C hX hbl hbA (i + 2) (by omega) (by omega) hL eL_law_136 ?_
  rw [h2]
  refine j_aload_n C eL_law_137 0 rfl ?_
  refine j_iload C eL_law_138 4 rfl ?_
  refine j_iconst C eL_law_140 ?_
  refine j_iadd C eL_law_141 ?_
  refine j_sld C hX hbl hbA (i + 3) (by omega) (by omega) hL eL_law_142 ?_
  rw [h3]
  refine j_i2bz C eL_law_143 ?_
  by_cases hq : 0 ≤ a1 ∧ a1 < (w : Int) ∧ 0 ≤ a2 ∧ a2 < (h : Int)
  ·
    obtain ⟨x, rfl⟩ := Int.eq_ofNat_of_zero_le hq.1
    obtain ⟨y, rfl⟩ := Int.eq_ofNat_of_zero_le hq.2.2.1
    have hx : x < w := by omega
    have hy : y < h := by omega
    refine j_callX C (As := [.ref (ad 0), .int (zI (x : Int)), .int (zI (y : Int)), .int (zI (Int.bmod a3 256))]) (rest := []) (ctL_put_on l D cB cI cZ cL ad w h hs aG aS G S CB SB DK DR RE PF PK CO rc (np : Int) (nk : Int) (nc : Int) x y hx hy (Int.bmod a3 256) (rl_bm a3)) hXC hA0 (cwX 4 C.1.2.2.2.2 gL_law_L_put rfl rfl rfl (by decide +kernel) ⟨Nat.le_of_ble_eq_true rfl, Nat.le_of_ble_eq_true rfl⟩) [10, 11, 12, 13, 14, 15, 16, 17, 18, 19, 20] [0, 1, 2, 3, 4, 5, 6, 7, 8, 9] (wr := (o, oL cL f) :: wM cB cI bd w h M O CT LB FS TD PR BY th (np : Int) (nk : Int) (nc : Int)) rfl (by decide) rfl (by decide) (by decide) rfl rfl (Nat.le_of_ble_eq_true rfl) eL_law_144 ⟨by show _ ≤ (601024 : Nat); omega, by show _ ≤ (7293000 : Nat); omega⟩ (fun z w1 hp => ?_)
    obtain ⟨rfl, rfl⟩ := hp
    refine j_istore C eL_law_147 rfl (by decide) (lv' := [(0, .ref b), (1, .ref (ad 0)), (2, .ref (bd 0)), (3, .ref o), (4, .int (zI (i : Int))), (5, .int (zI 0))]) rfl ?_
    refine j_aload_n C eL_law_149 2 rfl ?_
    refine j_aload_n C eL_law_150 0 rfl ?_
    refine j_iload C eL_law_151 4 rfl ?_
    refine j_iconst C eL_law_153 ?_
    refine j_iadd C eL_law_154 ?_
    refine j_sld C hX hbl hbA (i + 1) (by omega) (by omega) hL eL_law_155 ?_
    rw [h1]
    refine j_aload_n C eL_law_156 0 rfl ?_
    refine j_iload C eL_law_157 4 rfl ?_
    refine j_iconst C eL_law_159 ?_
    refine j_iadd C eL_law_160 ?_
    refine j_sld C hX hbl hbA (i + 2) (by omega) (by omega) hL eL_law_161 ?_
    rw [h2]
    refine j_aload_n C eL_law_162 0 rfl ?_
    refine j_iload C eL_law_163 4 rfl ?_
    refine j_iconst C eL_law_165 ?_
    refine j_iadd C eL_law_166 ?_
    refine j_sld C hX hbl hbA (i + 3) (by omega) (by omega) hL eL_law_167 ?_
    rw [h3]
    refine j_i2bz C eL_law_168 ?_
    refine j_callVv C (As := [.int (zI (x : Int)), .int (zI (y : Int)), .int (zI (Int.bmod a3 256))]) (rest := []) (ctX1_put_on l D cB cI cZ cL bd w h hs M O CT LB FS TD PR BY th (np : Int) (nk : Int) (nc : Int) x y hx hy (Int.bmod a3 256)) (cwV 3 C.1.2.2.2.2 gL_law_X1_put rfl rfl rfl (by decide +kernel) ⟨Nat.le_of_ble_eq_true rfl, Nat.le_of_ble_eq_true rfl⟩) [1, 2, 3, 4, 5, 6, 7, 8, 9] [0, 10, 11, 12, 13, 14, 15, 16, 17, 18, 19, 20] (wr := (o, oL cL f) :: wX cB cI cZ ad w h aG aS (zup G (y * w + x) (Int.bmod a3 256)) S CB SB DK DR RE PF PK CO rc (np : Int) (nk : Int) (nc : Int)) rfl (by decide) rfl (by decide) (by decide) 1 rfl rfl rfl rfl (Nat.le_of_ble_eq_true rfl) eL_law_169 ⟨by show _ ≤ (601024 : Nat); omega, by show _ ≤ (7293000 : Nat); omega⟩ (fun w1 hp => ?_)
    subst hp
    refine j_perm [0, 12, 13, 14, 15, 16, 17, 18, 19, 20, 1, 2, 3, 4, 5, 6, 7, 8, 9, 10, 11] (by decide) (wd' := ((o, oL cL f) :: wM cB cI bd w h (zup M (y * w + x) (Int.bmod a3 256 % 256)) O CT LB FS TD PR BY 0 (np : Int) (nk : Int) (nc : Int)) ++ wX cB cI cZ ad w h aG aS (zup G (y * w + x) (Int.bmod a3 256)) S CB SB DK DR RE PF PK CO rc (np : Int) (nk : Int) (nc : Int)) rfl ?_
    refine j_aload_n C eL_law_172 2 rfl ?_
    refine j_callVi C (As := []) (rest := []) (ctX1_thrown l D cB cI cZ cL bd w h hs (zup M (y * w + x) (Int.bmod a3 256 % 256)) O CT LB FS TD PR BY 0 (np : Int) (nk : Int) (nc : Int) ) (cwV 0 C.1.2.2.2.2 gL_law_X1_thrown rfl rfl rfl (by decide +kernel) ⟨Nat.le_of_ble_eq_true rfl, Nat.le_of_ble_eq_true rfl⟩) [1, 2, 3, 4, 5, 6, 7, 8, 9] [0, 10, 11, 12, 13, 14, 15, 16, 17, 18, 19, 20] (wr := (o, oL cL f) :: wX cB cI cZ ad w h aG aS (zup G (y * w + x) (Int.bmod a3 256)) S CB SB DK DR RE PF PK CO rc (np : Int) (nk : Int) (nc : Int)) rfl (by decide) rfl (by decide) (by decide) 1 rfl rfl rfl rfl (Nat.le_of_ble_eq_true rfl) eL_law_173 ⟨by show _ ≤ (601024 : Nat); omega, by show _ ≤ (7293000 : Nat); omega⟩ (fun z w1 hp => ?_)
    obtain ⟨rfl, rfl⟩ := hp
    refine j_perm [0, 12, 13, 14, 15, 16, 17, 18, 19, 20, 1, 2, 3, 4, 5, 6, 7, 8, 9, 10, 11] (by decide) (wd' := ((o, oL cL f) :: wM cB cI bd w h (zup M (y * w + x) (Int.bmod a3 256 % 256)) O CT LB FS TD PR BY 0 (np : Int) (nk : Int) (nc : Int)) ++ wX cB cI cZ ad w h aG aS (zup G (y * w + x) (Int.bmod a3 256)) S CB SB DK DR RE PF PK CO rc (np : Int) (nk : Int) (nc : Int)) rfl ?_
    refine j_iload C eL_law_176 5 rfl ?_
    refine j_same C 183 eL_law_178 (by decide) ?_
    refine j_goto C 500 eL_law_183 (by decide) ?_
    refine j_loc [0, 1, 2, 3, 4] (lv' := [(0, .ref b), (1, .ref (ad 0)), (2, .ref (bd 0)), (3, .ref o), (4, .int (zI (i : Int)))]) rfl ?_
    obtain ⟨hG2, hM2⟩ := rl_put (k0 := y * w + x) (rl_bm a3) hG hM
    exact K _ _ _ _ _ _ _ _ _ _ _ _ _ _ _ _ _ _ _ _ _ _ _ _ _ _ ⟨hG2, hM2, ⟨hnp, hPF⟩, ⟨hnk, hPK⟩, ⟨hnc, hCO⟩⟩
  ·
    refine j_callX C (As := [.ref (ad 0), .int (zI a1), .int (zI a2), .int (zI (Int.bmod a3 256))]) (rest := []) (ctL_put_off l D cB cI cZ cL ad w h hs aG aS G S CB SB DK DR RE PF PK CO rc (np : Int) (nk : Int) (nc : Int) hl9 a1 a2 (Int.bmod a3 256) e1 e2 hq) hXC hA0 (cwX 4 C.1.2.2.2.2 gL_law_L_put rfl rfl rfl (by decide +kernel) ⟨Nat.le_of_ble_eq_true rfl, Nat.le_of_ble_eq_true rfl⟩) [10, 11, 12, 13, 14, 15, 16, 17, 18, 19, 20] [0, 1, 2, 3, 4, 5, 6, 7, 8, 9] (wr := (o, oL cL f) :: wM cB cI bd w h M O CT LB FS TD PR BY th (np : Int) (nk : Int) (nc : Int)) rfl (by decide) rfl (by decide) (by decide) rfl rfl (Nat.le_of_ble_eq_true rfl) eL_law_144 ⟨by show _ ≤ (601024 : Nat); omega, by show _ ≤ (7293000 : Nat); omega⟩ (fun z w1 hp => ?_)
    obtain ⟨rfl, rfl⟩ := hp
    refine j_istore C eL_law_147 rfl (by decide) (lv' := [(0, .ref b), (1, .ref (ad 0)), (2, .ref (bd 0)), (3, .ref o), (4, .int (zI (i : Int))), (5, .int (zI 1))]) rfl ?_
    refine j_aload_n C eL_law_149 2 rfl ?_
    refine j_aload_n C eL_law_150 0 rfl ?_
    refine j_iload C eL_law_151 4 rfl ?_
    refine j_iconst C eL_law_153 ?_
    refine j_iadd C eL_law_154 ?_
    refine j_sld C hX hbl hbA (i + 1) (by omega) (by omega) hL eL_law_155 ?_
    rw [h1]
    refine j_aload_n C eL_law_156 0 rfl ?_
    refine j_iload C eL_law_157 4 rfl ?_
    refine j_iconst C eL_law_159 ?_
    refine j_iadd C eL_law_160 ?_
    refine j_sld C hX hbl hbA (i + 2) (by omega) (by omega) hL eL_law_161 ?_
    rw [h2]
    refine j_aload_n C eL_law_162 0 rfl ?_
    refine j_iload C eL_law_163 4 rfl ?_
    refine j_iconst C eL_law_165 ?_
    refine j_iadd C eL_law_166 ?_
    refine j_sld C hX hbl hbA (i + 3) (by omega) (by omega) hL eL_law_167 ?_
    rw [h3]
    refine j_i2bz C eL_law_168 ?_
    refine j_callVv C (As := [.int (zI a1), .int (zI a2), .int (zI (Int.bmod a3 256))]) (rest := []) (ctX1_put_off l D cB cI cZ cL bd w h hs M O CT LB FS TD PR BY th (np : Int) (nk : Int) (nc : Int) a1 a2 e1 e2 hq (Int.bmod a3 256)) (cwV 3 C.1.2.2.2.2 gL_law_X1_put rfl rfl rfl (by decide +kernel) ⟨Nat.le_of_ble_eq_true rfl, Nat.le_of_ble_eq_true rfl⟩) [1, 2, 3, 4, 5, 6, 7, 8, 9] [0, 10, 11, 12, 13, 14, 15, 16, 17, 18, 19, 20] (wr := (o, oL cL f) :: wX cB cI cZ ad w h aG aS G S CB SB DK DR RE PF PK CO rc (np : Int) (nk : Int) (nc : Int)) rfl (by decide) rfl (by decide) (by decide) 1 rfl rfl rfl rfl (Nat.le_of_ble_eq_true rfl) eL_law_169 ⟨by show _ ≤ (601024 : Nat); omega, by show _ ≤ (7293000 : Nat); omega⟩ (fun w1 hp => ?_)
    subst hp
    refine j_perm [0, 12, 13, 14, 15, 16, 17, 18, 19, 20, 1, 2, 3, 4, 5, 6, 7, 8, 9, 10, 11] (by decide) (wd' := ((o, oL cL f) :: wM cB cI bd w h M O CT LB FS TD PR BY 1 (np : Int) (nk : Int) (nc : Int)) ++ wX cB cI cZ ad w h aG aS G S CB SB DK DR RE PF PK CO rc (np : Int) (nk : Int) (nc : Int)) rfl ?_
    refine j_aload_n C eL_law_172 2 rfl ?_
    refine j_callVi C (As := []) (rest := []) (ctX1_thrown l D cB cI cZ cL bd w h hs M O CT LB FS TD PR BY 1 (np : Int) (nk : Int) (nc : Int) ) (cwV 0 C.1.2.2.2.2 gL_law_X1_thrown rfl rfl rfl (by decide +kernel) ⟨Nat.le_of_ble_eq_true rfl, Nat.le_of_ble_eq_true rfl⟩) [1, 2, 3, 4, 5, 6, 7, 8, 9] [0, 10, 11, 12, 13, 14, 15, 16, 17, 18, 19, 20] (wr := (o, oL cL f) :: wX cB cI cZ ad w h aG aS G S CB SB DK DR RE PF PK CO rc (np : Int) (nk : Int) (nc : Int)) rfl (by decide) rfl (by decide) (by decide) 1 rfl rfl rfl rfl (Nat.le_of_ble_eq_true rfl) eL_law_173 ⟨by show _ ≤ (601024 : Nat); omega, by show _ ≤ (7293000 : Nat); omega⟩ (fun z w1 hp => ?_)
    obtain ⟨rfl, rfl⟩ := hp
    refine j_perm [0, 12, 13, 14, 15, 16, 17, 18, 19, 20, 1, 2, 3, 4, 5, 6, 7, 8, 9, 10, 11] (by decide) (wd' := ((o, oL cL f) :: wM cB cI bd w h M O CT LB FS TD PR BY 1 (np : Int) (nk : Int) (nc : Int)) ++ wX cB cI cZ ad w h aG aS G S CB SB DK DR RE PF PK CO rc (np : Int) (nk : Int) (nc : Int)) rfl ?_
    refine j_iload C eL_law_176 5 rfl ?_
    refine j_same C 183 eL_law_178 (by decide) ?_
    refine j_goto C 500 eL_law_183 (by decide) ?_
    refine j_loc [0, 1, 2, 3, 4] (lv' := [(0, .ref b), (1, .ref (ad 0)), (2, .ref (bd 0)), (3, .ref o), (4, .int (zI (i : Int)))]) rfl ?_
    exact K _ _ _ _ _ _ _ _ _ _ _ _ _ _ _ _ _ _ _ _ _ _ _ _ _ _ hr
set_option maxHeartbeats 4000000 in
set_option maxRecDepth 100000 in
theorem lc_7 (Cx : LC p l s m c b L xs D cB cI cZ cL) (hs : Sz w h) (hi : i + 3 < L) (h1 : (xs (i + 1)).toInt = a1) (h2 : (xs (i + 2)).toInt = a2) (h3 : (xs (i + 3)).toInt = a3) {f : Nat → Int64} {aG aS : Nat} {G S CB SB DK DR RE PF PK CO : Nat → Int} {rc : Int} {np nk nc : Nat} {M O CT LB FS TD PR BY : Nat → Int} {th : Int} (hr : rel w h G PF PK CO np nk nc M TD PR BY) (hc9 : cells + 1 ≤ 601024) (hs9 : slots + 6 ≤ 7293000) (K : nxt p l e s m b below meth c D cB cI cZ cL w h ad bd o 500 i (cells + 1) (slots + 6)) : JW p l e s m b below meth c D 300 (lvI ad bd b o i) [] (((o, oL cL f) :: wM cB cI bd w h M O CT LB FS TD PR BY th (np : Int) (nk : Int) (nc : Int)) ++ wX cB cI cZ ad w h aG aS G S CB SB DK DR RE PF PK CO rc (np : Int) (nk : Int) (nc : Int)) cells slots := by
  obtain ⟨C, hX, hbl, hL, hXC, hl9⟩ := Cx
  have hbA : ¬ va_A [] s.heap.size b := fun q => Nat.lt_irrefl _ (Nat.lt_of_lt_of_le hbl (va_A0 q))
  have hA0 : ∀ q, q < s.heap.size → ¬ va_A [] s.heap.size q := fun q hq z => Nat.lt_irrefl _ (Nat.lt_of_lt_of_le hq (va_A0 z))
  have hm := hs.mul
  have e1 := sc_in (xs (i + 1))
  have e2 := sc_in (xs (i + 2))
  have e3 := sc_in (xs (i + 3))
  rw [h1] at e1
  rw [h2] at e2
  rw [h3] at e3
  obtain ⟨hG, hM, ⟨hnp, hPF⟩, ⟨hnk, hPK⟩, ⟨hnc, hCO⟩⟩ := id hr
  have hgM := rl_gry hM
  refine j_aload_n C eL_law_300 1 rfl ?_
  refine j_aload_n C eL_law_301 0 rfl ?_
  refine j_iload C eL_law_302 4 rfl ?_
  refine j_iconst C eL_law_304 ?_
  refine j_iadd C eL_law_305 ?_
  refine j_sld C hX hbl hbA (i + 1) (by omega) (by omega) hL eL_law_306 ?_
  rw [h1]
  refine j_aload_n C eL_law_307 3 rfl ?_
  by_cases hq : 0 ≤ a1 ∧ a1 < (nk : Int)
  ·
    obtain ⟨x, rfl⟩ := Int.eq_ofNat_of_zero_le hq.1
    obtain ⟨hx1, hx2⟩ := hPK x (by omega)
    refine j_callX C (As := [.ref (ad 0), .int (zI (x : Int)), .ref o]) (rest := []) (ctL_octet_on l D cB cI cZ cL ad w h hs aG aS G S CB SB DK DR RE PF PK CO rc (np : Int) (nk : Int) (nc : Int) o f x hq.2 (by omega) (by rw [hx1]; exact hx2)) hXC hA0 (cwX 3 C.1.2.2.2.2 gL_law_L_octet rfl rfl rfl (by decide +kernel) ⟨Nat.le_of_ble_eq_true rfl, Nat.le_of_ble_eq_true rfl⟩) [0, 10, 11, 12, 13, 14, 15, 16, 17, 18, 19, 20] [1, 2, 3, 4, 5, 6, 7, 8, 9] (wr := wM cB cI bd w h M O CT LB FS TD PR BY th (np : Int) (nk : Int) (nc : Int)) rfl (by decide) rfl (by decide) (by decide) rfl rfl (Nat.le_of_ble_eq_true rfl) eL_law_308 ⟨by show _ ≤ (601024 : Nat); omega, by show _ ≤ (7293000 : Nat); omega⟩ (fun z w1 hp => ?_)
    obtain ⟨rfl, f', hf', rfl⟩ := hp
    refine j_perm [9, 0, 1, 2, 3, 4, 5, 6, 7, 8, 10, 11, 12, 13, 14, 15, 16, 17, 18, 19, 20] (by decide) (wd' := ((o, oL cL f') :: wM cB cI bd w h M O CT LB FS TD PR BY th (np : Int) (nk : Int) (nc : Int)) ++ wX cB cI cZ ad w h aG aS G S CB SB DK DR RE PF PK CO rc (np : Int) (nk : Int) (nc : Int)) rfl ?_
    refine j_istore C eL_law_311 rfl (by decide) (lv' := [(0, .ref b), (1, .ref (ad 0)), (2, .ref (bd 0)), (3, .ref o), (4, .int (zI (i : Int))), (5, .int (zI 0))]) rfl ?_
    refine j_aload_n C eL_law_313 2 rfl ?_
    refine j_aload_n C eL_law_314 0 rfl ?_
    refine j_iload C eL_law_315 4 rfl ?_
    refine j_iconst C eL_law_317 ?_
    refine j_iadd C eL_law_318 ?_
    refine j_sld C hX hbl hbA (i + 1) (by omega) (by omega) hL eL_law_319 ?_
    rw [h1]
    refine j_callVi C (As := [.int (zI (x : Int))]) (rest := []) (ctX1_octet_on l D cB cI cZ cL bd w h hs M O CT LB FS TD PR BY th (np : Int) (nk : Int) (nc : Int) x hq.2 (by omega) hx2) (cwV 1 C.1.2.2.2.2 gL_law_X1_octet rfl rfl rfl (by decide +kernel) ⟨Nat.le_of_ble_eq_true rfl, Nat.le_of_ble_eq_true rfl⟩) [1, 2, 3, 4, 5, 6, 7, 8, 9] [0, 10, 11, 12, 13, 14, 15, 16, 17, 18, 19, 20] (wr := (o, oL cL f') :: wX cB cI cZ ad w h aG aS G S CB SB DK DR RE PF PK CO rc (np : Int) (nk : Int) (nc : Int)) rfl (by decide) rfl (by decide) (by decide) 1 rfl rfl rfl rfl (Nat.le_of_ble_eq_true rfl) eL_law_320 ⟨by show _ ≤ (601024 : Nat); omega, by show _ ≤ (7293000 : Nat); omega⟩ (fun z w1 hp => ?_)
    obtain ⟨rfl, rfl⟩ := hp
    refine j_perm [0, 12, 13, 14, 15, 16, 17, 18, 19, 20, 1, 2, 3, 4, 5, 6, 7, 8, 9, 10, 11] (by decide) (wd' := ((o, oL cL f') :: wM cB cI bd w h M O CT LB FS TD PR BY 0 (np : Int) (nk : Int) (nc : Int)) ++ wX cB cI cZ ad w h aG aS G S CB SB DK DR RE PF PK CO rc (np : Int) (nk : Int) (nc : Int)) rfl ?_
    refine j_istore C eL_law_323 rfl (by decide) (lv' := [(0, .ref b), (1, .ref (ad 0)), (2, .ref (bd 0)), (3, .ref o), (4, .int (zI (i : Int))), (5, .int (zI 0)), (6, .int (zI (PR x)))]) rfl ?_
    refine j_aload_n C eL_law_325 2 rfl ?_
    refine j_callVi C (As := []) (rest := []) (ctX1_thrown l D cB cI cZ cL bd w h hs M O CT LB FS TD PR BY 0 (np : Int) (nk : Int) (nc : Int) ) (cwV 0 C.1.2.2.2.2 gL_law_X1_thrown rfl rfl rfl (by decide +kernel) ⟨Nat.le_of_ble_eq_true rfl, Nat.le_of_ble_eq_true rfl⟩) [1, 2, 3, 4, 5, 6, 7, 8, 9] [0, 10, 11, 12, 13, 14, 15, 16, 17, 18, 19, 20] (wr := (o, oL cL f') :: wX cB cI cZ ad w h aG aS G S CB SB DK DR RE PF PK CO rc (np : Int) (nk : Int) (nc : Int)) rfl (by decide) rfl (by decide) (by decide) 1 rfl rfl rfl rfl (Nat.le_of_ble_eq_true rfl) eL_law_326 ⟨by show _ ≤ (601024 : Nat); omega, by show _ ≤ (7293000 : Nat); omega⟩ (fun z w1 hp => ?_)
    obtain ⟨rfl, rfl⟩ := hp
    refine j_perm [0, 12, 13, 14, 15, 16, 17, 18, 19, 20, 1, 2, 3, 4, 5, 6, 7, 8, 9, 10, 11] (by decide) (wd' := ((o, oL cL f') :: wM cB cI bd w h M O CT LB FS TD PR BY 0 (np : Int) (nk : Int) (nc : Int)) ++ wX cB cI cZ ad w h aG aS G S CB SB DK DR RE PF PK CO rc (np : Int) (nk : Int) (nc : Int)) rfl ?_
    refine j_iload C eL_law_329 5 rfl ?_
    refine j_same C 336 eL_law_331 (by decide) ?_
    refine j_iload C eL_law_336 5 rfl ?_
    refine j_if_ne C 353 eL_law_338 (by decide) (by omega) (fun c338 => ?_) (fun c338 => ?_)
    ·
      exact absurd rfl c338
    ·
      refine j_aload_n C eL_law_341 3 rfl ?_
      refine j_iconst C eL_law_342 ?_
      refine j_lald C 0 3 rfl rfl eL_law_343 ?_
      refine j_iload C eL_law_344 6 rfl ?_
      refine j_i2l C eL_law_346 ?_
      refine j_lcmpE C (by rw [hf', hx1]) eL_law_347 ?_
      refine j_if_eq C 353 eL_law_348 (by decide) (by omega) (fun c348 => ?_) (fun c348 => ?_)
      ·
        refine j_goto C 500 eL_law_353 (by decide) ?_
        refine j_loc [0, 1, 2, 3, 4] (lv' := [(0, .ref b), (1, .ref (ad 0)), (2, .ref (bd 0)), (3, .ref o), (4, .int (zI (i : Int)))]) rfl ?_
        exact K _ _ _ _ _ _ _ _ _ _ _ _ _ _ _ _ _ _ _ _ _ _ _ _ _ _ hr
      ·
        exact absurd rfl c348
  ·
    refine j_callX C (As := [.ref (ad 0), .int (zI a1), .ref o]) (rest := []) (ctL_octet_off l D cB cI cZ cL ad w h hs aG aS G S CB SB DK DR RE PF PK CO rc (np : Int) (nk : Int) (nc : Int) o f hl9 a1 e1 ⟨by omega, by omega⟩ hq) hXC hA0 (cwX 3 C.1.2.2.2.2 gL_law_L_octet rfl rfl rfl (by decide +kernel) ⟨Nat.le_of_ble_eq_true rfl, Nat.le_of_ble_eq_true rfl⟩) [0, 10, 11, 12, 13, 14, 15, 16, 17, 18, 19, 20] [1, 2, 3, 4, 5, 6, 7, 8, 9] (wr := wM cB cI bd w h M O CT LB FS TD PR BY th (np : Int) (nk : Int) (nc : Int)) rfl (by decide) rfl (by decide) (by decide) rfl rfl (Nat.le_of_ble_eq_true rfl) eL_law_308 ⟨by show _ ≤ (601024 : Nat); omega, by show _ ≤ (7293000 : Nat); omega⟩ (fun z w1 hp => ?_)
    obtain ⟨rfl, rfl⟩ := hp
    refine j_perm [9, 0, 1, 2, 3, 4, 5, 6, 7, 8, 10, 11, 12, 13, 14, 15, 16, 17, 18, 19, 20] (by decide) (wd' := ((o, oL cL f) :: wM cB cI bd w h M O CT LB FS TD PR BY th (np : Int) (nk : Int) (nc : Int)) ++ wX cB cI cZ ad w h aG aS G S CB SB DK DR RE PF PK CO rc (np : Int) (nk : Int) (nc : Int)) rfl ?_
    refine j_istore C eL_law_311 rfl (by decide) (lv' := [(0, .ref b), (1, .ref (ad 0)), (2, .ref (bd 0)), (3, .ref o), (4, .int (zI (i : Int))), (5, .int (zI 1))]) rfl ?_
    refine j_aload_n C eL_law_313 2 rfl ?_
    refine j_aload_n C eL_law_314 0 rfl ?_
    refine j_iload C eL_law_315 4 rfl ?_
    refine j_iconst C eL_law_317 ?_
    refine j_iadd C eL_law_318 ?_
    refine j_sld C hX hbl hbA (i + 1) (by omega) (by omega) hL eL_law_319 ?_
    rw [h1]
    refine j_callVi C (As := [.int (zI a1)]) (rest := []) (ctX1_octet_off l D cB cI cZ cL bd w h hs M O CT LB FS TD PR BY th (np : Int) (nk : Int) (nc : Int) a1 e1 ⟨by omega, by omega⟩ hq) (cwV 1 C.1.2.2.2.2 gL_law_X1_octet rfl rfl rfl (by decide +kernel) ⟨Nat.le_of_ble_eq_true rfl, Nat.le_of_ble_eq_true rfl⟩) [1, 2, 3, 4, 5, 6, 7, 8, 9] [0, 10, 11, 12, 13, 14, 15, 16, 17, 18, 19, 20] (wr := (o, oL cL f) :: wX cB cI cZ ad w h aG aS G S CB SB DK DR RE PF PK CO rc (np : Int) (nk : Int) (nc : Int)) rfl (by decide) rfl (by decide) (by decide) 1 rfl rfl rfl rfl (Nat.le_of_ble_eq_true rfl) eL_law_320 ⟨by show _ ≤ (601024 : Nat); omega, by show _ ≤ (7293000 : Nat); omega⟩ (fun z w1 hp => ?_)
    obtain ⟨rfl, rfl⟩ := hp
    refine j_perm [0, 12, 13, 14, 15, 16, 17, 18, 19, 20, 1, 2, 3, 4, 5, 6, 7, 8, 9, 10, 11] (by decide) (wd' := ((o, oL cL f) :: wM cB cI bd w h M O CT LB FS TD PR BY 1 (np : Int) (nk : Int) (nc : Int)) ++ wX cB cI cZ ad w h aG aS G S CB SB DK DR RE PF PK CO rc (np : Int) (nk : Int) (nc : Int)) rfl ?_
    refine j_istore C eL_law_323 rfl (by decide) (lv' := [(0, .ref b), (1, .ref (ad 0)), (2, .ref (bd 0)), (3, .ref o), (4, .int (zI (i : Int))), (5, .int (zI 1)), (6, .int (zI 0))]) rfl ?_
    refine j_aload_n C eL_law_325 2 rfl ?_
    refine j_callVi C (As := []) (rest := []) (ctX1_thrown l D cB cI cZ cL bd w h hs M O CT LB FS TD PR BY 1 (np : Int) (nk : Int) (nc : Int) ) (cwV 0 C.1.2.2.2.2 gL_law_X1_thrown rfl rfl rfl (by decide +kernel) ⟨Nat.le_of_ble_eq_true rfl, Nat.le_of_ble_eq_true rfl⟩) [1, 2, 3, 4, 5, 6, 7, 8, 9] [0, 10, 11, 12, 13, 14, 15, 16, 17, 18, 19, 20] (wr := (o, oL cL f) :: wX cB cI cZ ad w h aG aS G S CB SB DK DR RE PF PK CO rc (np : Int) (nk : Int) (nc : Int)) rfl (by decide) rfl (by decide) (by decide) 1 rfl rfl rfl rfl (Nat.le_of_ble_eq_true rfl) eL_law_326 ⟨by show _ ≤ (601024 : Nat); omega, by show _ ≤ (7293000 : Nat); omega⟩ (fun z w1 hp => ?_)
    obtain ⟨rfl, rfl⟩ := hp
    refine j_perm [0, 12, 13, 14, 15, 16, 17, 18, 19, 20, 1, 2, 3, 4, 5, 6, 7, 8, 9, 10, 11] (by decide) (wd' := ((o, oL cL f) :: wM cB cI bd w h M O CT LB FS TD PR BY 1 (np : Int) (nk : Int) (nc : Int)) ++ wX cB cI cZ ad w h aG aS G S CB SB DK DR RE PF PK CO rc (np : Int) (nk : Int) (nc : Int)) rfl ?_
    refine j_iload C eL_law_329 5 rfl ?_
    refine j_same C 336 eL_law_331 (by decide) ?_
    refine j_iload C eL_law_336 5 rfl ?_
    refine j_if_ne C 353 eL_law_338 (by decide) (by omega) (fun c338 => ?_) (fun c338 => ?_)
    ·
      refine j_goto C 500 eL_law_353 (by decide) ?_
      refine j_loc [0, 1, 2, 3, 4] (lv' := [(0, .ref b), (1, .ref (ad 0)), (2, .ref (bd 0)), (3, .ref o), (4, .int (zI (i : Int)))]) rfl ?_
      exact K _ _ _ _ _ _ _ _ _ _ _ _ _ _ _ _ _ _ _ _ _ _ _ _ _ _ hr
    ·
      exact absurd c338 (by decide)
set_option maxHeartbeats 4000000 in
set_option maxRecDepth 100000 in
theorem lc_12 (Cx : LC p l s m c b L xs D cB cI cZ cL) (hs : Sz w h) (hi : i + 3 < L) (h1 : (xs (i + 1)).toInt = a1) (h2 : (xs (i + 2)).toInt = a2) (h3 : (xs (i + 3)).toInt = a3) {f : Nat → Int64} {aG aS : Nat} {G S CB SB DK DR RE PF PK CO : Nat → Int} {rc : Int} {np nk nc : Nat} {M O CT LB FS TD PR BY : Nat → Int} {th : Int} (hr : rel w h G PF PK CO np nk nc M TD PR BY) (hc9 : cells + 1 ≤ 601024) (hs9 : slots + 6 ≤ 7293000) (K : nxt p l e s m b below meth c D cB cI cZ cL w h ad bd o 500 i (cells + 1) (slots + 6)) : JW p l e s m b below meth c D 432 (lvI ad bd b o i) [] (((o, oL cL f) :: wM cB cI bd w h M O CT LB FS TD PR BY th (np : Int) (nk : Int) (nc : Int)) ++ wX cB cI cZ ad w h aG aS G S CB SB DK DR RE PF PK CO rc (np : Int) (nk : Int) (nc : Int)) cells slots := by
  obtain ⟨C, hX, hbl, hL, hXC, hl9⟩ := Cx
  have hbA : ¬ va_A [] s.heap.size b := fun q => Nat.lt_irrefl _ (Nat.lt_of_lt_of_le hbl (va_A0 q))
  have hA0 : ∀ q, q < s.heap.size → ¬ va_A [] s.heap.size q := fun q hq z => Nat.lt_irrefl _ (Nat.lt_of_lt_of_le hq (va_A0 z))
  have hm := hs.mul
  have e1 := sc_in (xs (i + 1))
  have e2 := sc_in (xs (i + 2))
  have e3 := sc_in (xs (i + 3))
  rw [h1] at e1
  rw [h2] at e2
  rw [h3] at e3
  obtain ⟨hG, hM, ⟨hnp, hPF⟩, ⟨hnk, hPK⟩, ⟨hnc, hCO⟩⟩ := id hr
  have hgM := rl_gry hM
  refine j_aload_n C eL_law_432 1 rfl ?_
  refine j_aload_n C eL_law_433 0 rfl ?_
  refine j_iload C eL_law_434 4 rfl ?_
  refine j_iconst C eL_law_436 ?_
  refine j_iadd C eL_law_437 ?_
  refine j_sld C hX hbl hbA (i + 1) (by omega) (by omega) hL eL_law_438 ?_
  rw [h1]
  refine j_aload_n C eL_law_439 0 rfl ?_
  refine j_iload C eL_law_440 4 rfl ?_
  refine j_iconst C eL_law_442 ?_
  refine j_iadd C eL_law_443 ?_
  refine j_sld C hX hbl hbA (i + 2) (by omega) (by omega) hL eL_law_444 ?_
  rw [h2]
  refine j_aload_n C eL_law_445 3 rfl ?_
  by_cases hq : 0 ≤ a1 ∧ a1 < (w : Int) ∧ 0 ≤ a2 ∧ a2 < (h : Int)
  ·
    obtain ⟨x, rfl⟩ := Int.eq_ofNat_of_zero_le hq.1
    obtain ⟨y, rfl⟩ := Int.eq_ofNat_of_zero_le hq.2.2.1
    have hx : x < w := by omega
    have hy : y < h := by omega
    refine j_callX C (As := [.ref (ad 0), .int (zI (x : Int)), .int (zI (y : Int)), .ref o]) (rest := []) (ctL_grey_on l D cB cI cZ cL ad w h hs aG aS G S CB SB DK DR RE PF PK CO rc (np : Int) (nk : Int) (nc : Int) o f x y hx hy) hXC hA0 (cwX 4 C.1.2.2.2.2 gL_law_L_grey rfl rfl rfl (by decide +kernel) ⟨Nat.le_of_ble_eq_true rfl, Nat.le_of_ble_eq_true rfl⟩) [0, 10, 11, 12, 13, 14, 15, 16, 17, 18, 19, 20] [1, 2, 3, 4, 5, 6, 7, 8, 9] (wr := wM cB cI bd w h M O CT LB FS TD PR BY th (np : Int) (nk : Int) (nc : Int)) rfl (by decide) rfl (by decide) (by decide) rfl rfl (Nat.le_of_ble_eq_true rfl) eL_law_446 ⟨by show _ ≤ (601024 : Nat); omega, by show _ ≤ (7293000 : Nat); omega⟩ (fun z w1 hp => ?_)
    obtain ⟨rfl, f', hf', rfl⟩ := hp
    refine j_perm [9, 0, 1, 2, 3, 4, 5, 6, 7, 8, 10, 11, 12, 13, 14, 15, 16, 17, 18, 19, 20] (by decide) (wd' := ((o, oL cL f') :: wM cB cI bd w h M O CT LB FS TD PR BY th (np : Int) (nk : Int) (nc : Int)) ++ wX cB cI cZ ad w h aG aS G S CB SB DK DR RE PF PK CO rc (np : Int) (nk : Int) (nc : Int)) rfl ?_
    refine j_istore C eL_law_449 rfl (by decide) (lv' := [(0, .ref b), (1, .ref (ad 0)), (2, .ref (bd 0)), (3, .ref o), (4, .int (zI (i : Int))), (5, .int (zI 0))]) rfl ?_
    refine j_aload_n C eL_law_451 2 rfl ?_
    refine j_aload_n C eL_law_452 0 rfl ?_
    refine j_iload C eL_law_453 4 rfl ?_
    refine j_iconst C eL_law_455 ?_
    refine j_iadd C eL_law_456 ?_
    refine j_sld C hX hbl hbA (i + 1) (by omega) (by omega) hL eL_law_457 ?_
    rw [h1]
    refine j_aload_n C eL_law_458 0 rfl ?_
    refine j_iload C eL_law_459 4 rfl ?_
    refine j_iconst C eL_law_461 ?_
    refine j_iadd C eL_law_462 ?_
    refine j_sld C hX hbl hbA (i + 2) (by omega) (by omega) hL eL_law_463 ?_
    rw [h2]
    refine j_callVi C (As := [.int (zI (x : Int)), .int (zI (y : Int))]) (rest := []) (ctX1_grey_on l D cB cI cZ cL bd w h hs M O CT LB FS TD PR BY th (np : Int) (nk : Int) (nc : Int) x y hx hy) (cwV 2 C.1.2.2.2.2 gL_law_X1_grey rfl rfl rfl (by decide +kernel) ⟨Nat.le_of_ble_eq_true rfl, Nat.le_of_ble_eq_true rfl⟩) [1, 2, 3, 4, 5, 6, 7, 8, 9] [0, 10, 11, 12, 13, 14, 15, 16, 17, 18, 19, 20] (wr := (o, oL cL f') :: wX cB cI cZ ad w h aG aS G S CB SB DK DR RE PF PK CO rc (np : Int) (nk : Int) (nc : Int)) rfl (by decide) rfl (by decide) (by decide) 1 rfl rfl rfl rfl (Nat.le_of_ble_eq_true rfl) eL_law_464 ⟨by show _ ≤ (601024 : Nat); omega, by show _ ≤ (7293000 : Nat); omega⟩ (fun z w1 hp => ?_)
    obtain ⟨rfl, rfl⟩ := hp
    refine j_perm [0, 12, 13, 14, 15, 16, 17, 18, 19, 20, 1, 2, 3, 4, 5, 6, 7, 8, 9, 10, 11] (by decide) (wd' := ((o, oL cL f') :: wM cB cI bd w h M O CT LB FS TD PR BY 0 (np : Int) (nk : Int) (nc : Int)) ++ wX cB cI cZ ad w h aG aS G S CB SB DK DR RE PF PK CO rc (np : Int) (nk : Int) (nc : Int)) rfl ?_
    refine j_istore C eL_law_467 rfl (by decide) (lv' := [(0, .ref b), (1, .ref (ad 0)), (2, .ref (bd 0)), (3, .ref o), (4, .int (zI (i : Int))), (5, .int (zI 0)), (6, .int (zI (M (y * w + x))))]) rfl ?_
    refine j_aload_n C eL_law_469 2 rfl ?_
    refine j_callVi C (As := []) (rest := []) (ctX1_thrown l D cB cI cZ cL bd w h hs M O CT LB FS TD PR BY 0 (np : Int) (nk : Int) (nc : Int) ) (cwV 0 C.1.2.2.2.2 gL_law_X1_thrown rfl rfl rfl (by decide +kernel) ⟨Nat.le_of_ble_eq_true rfl, Nat.le_of_ble_eq_true rfl⟩) [1, 2, 3, 4, 5, 6, 7, 8, 9] [0, 10, 11, 12, 13, 14, 15, 16, 17, 18, 19, 20] (wr := (o, oL cL f') :: wX cB cI cZ ad w h aG aS G S CB SB DK DR RE PF PK CO rc (np : Int) (nk : Int) (nc : Int)) rfl (by decide) rfl (by decide) (by decide) 1 rfl rfl rfl rfl (Nat.le_of_ble_eq_true rfl) eL_law_470 ⟨by show _ ≤ (601024 : Nat); omega, by show _ ≤ (7293000 : Nat); omega⟩ (fun z w1 hp => ?_)
    obtain ⟨rfl, rfl⟩ := hp
    refine j_perm [0, 12, 13, 14, 15, 16, 17, 18, 19, 20, 1, 2, 3, 4, 5, 6, 7, 8, 9, 10, 11] (by decide) (wd' := ((o, oL cL f') :: wM cB cI bd w h M O CT LB FS TD PR BY 0 (np : Int) (nk : Int) (nc : Int)) ++ wX cB cI cZ ad w h aG aS G S CB SB DK DR RE PF PK CO rc (np : Int) (nk : Int) (nc : Int)) rfl ?_
    refine j_iload C eL_law_473 5 rfl ?_
    refine j_same C 480 eL_law_475 (by decide) ?_
    refine j_iload C eL_law_480 5 rfl ?_
    refine j_if_ne C 497 eL_law_482 (by decide) (by omega) (fun c482 => ?_) (fun c482 => ?_)
    ·
      exact absurd rfl c482
    ·
      refine j_aload_n C eL_law_485 3 rfl ?_
      refine j_iconst C eL_law_486 ?_
      refine j_lald C 0 3 rfl rfl eL_law_487 ?_
      refine j_iload C eL_law_488 6 rfl ?_
      refine j_i2l C eL_law_490 ?_
      refine j_lcmpE C (by rw [hf', hM _ (ix_lt hx hy)]) eL_law_491 ?_
      refine j_if_eq C 497 eL_law_492 (by decide) (by omega) (fun c492 => ?_) (fun c492 => ?_)
      ·
        refine j_goto C 500 eL_law_497 (by decide) ?_
        refine j_loc [0, 1, 2, 3, 4] (lv' := [(0, .ref b), (1, .ref (ad 0)), (2, .ref (bd 0)), (3, .ref o), (4, .int (zI (i : Int)))]) rfl ?_
        exact K _ _ _ _ _ _ _ _ _ _ _ _ _ _ _ _ _ _ _ _ _ _ _ _ _ _ hr
      ·
        exact absurd rfl c492
  ·
    refine j_callX C (As := [.ref (ad 0), .int (zI a1), .int (zI a2), .ref o]) (rest := []) (ctL_grey_off l D cB cI cZ cL ad w h hs aG aS G S CB SB DK DR RE PF PK CO rc (np : Int) (nk : Int) (nc : Int) o f hl9 a1 a2 e1 e2 hq) hXC hA0 (cwX 4 C.1.2.2.2.2 gL_law_L_grey rfl rfl rfl (by decide +kernel) ⟨Nat.le_of_ble_eq_true rfl, Nat.le_of_ble_eq_true rfl⟩) [0, 10, 11, 12, 13, 14, 15, 16, 17, 18, 19, 20] [1, 2, 3, 4, 5, 6, 7, 8, 9] (wr := wM cB cI bd w h M O CT LB FS TD PR BY th (np : Int) (nk : Int) (nc : Int)) rfl (by decide) rfl (by decide) (by decide) rfl rfl (Nat.le_of_ble_eq_true rfl) eL_law_446 ⟨by show _ ≤ (601024 : Nat); omega, by show _ ≤ (7293000 : Nat); omega⟩ (fun z w1 hp => ?_)
    obtain ⟨rfl, rfl⟩ := hp
    refine j_perm [9, 0, 1, 2, 3, 4, 5, 6, 7, 8, 10, 11, 12, 13, 14, 15, 16, 17, 18, 19, 20] (by decide) (wd' := ((o, oL cL f) :: wM cB cI bd w h M O CT LB FS TD PR BY th (np : Int) (nk : Int) (nc : Int)) ++ wX cB cI cZ ad w h aG aS G S CB SB DK DR RE PF PK CO rc (np : Int) (nk : Int) (nc : Int)) rfl ?_
    refine j_istore C eL_law_449 rfl (by decide) (lv' := [(0, .ref b), (1, .ref (ad 0)), (2, .ref (bd 0)), (3, .ref o), (4, .int (zI (i : Int))), (5, .int (zI 1))]) rfl ?_
    refine j_aload_n C eL_law_451 2 rfl ?_
    refine j_aload_n C eL_law_452 0 rfl ?_
    refine j_iload C eL_law_453 4 rfl ?_
    refine j_iconst C eL_law_455 ?_
    refine j_iadd C eL_law_456 ?_
    refine j_sld C hX hbl hbA (i + 1) (by omega) (by omega) hL eL_law_457 ?_
    rw [h1]
    refine j_aload_n C eL_law_458 0 rfl ?_
    refine j_iload C eL_law_459 4 rfl ?_
    refine j_iconst C eL_law_461 ?_
    refine j_iadd C eL_law_462 ?_
    refine j_sld C hX hbl hbA (i + 2) (by omega) (by omega) hL eL_law_463 ?_
    rw [h2]
    refine j_callVi C (As := [.int (zI a1), .int (zI a2)]) (rest := []) (ctX1_grey_off l D cB cI cZ cL bd w h hs M O CT LB FS TD PR BY th (np : Int) (nk : Int) (nc : Int) a1 a2 e1 e2 hq) (cwV 2 C.1.2.2.2.2 gL_law_X1_grey rfl rfl rfl (by decide +kernel) ⟨Nat.le_of_ble_eq_true rfl, Nat.le_of_ble_eq_true rfl⟩) [1, 2, 3, 4, 5, 6, 7, 8, 9] [0, 10, 11, 12, 13, 14, 15, 16, 17, 18, 19, 20] (wr := (o, oL cL f) :: wX cB cI cZ ad w h aG aS G S CB SB DK DR RE PF PK CO rc (np : Int) (nk : Int) (nc : Int)) rfl (by decide) rfl (by decide) (by decide) 1 rfl rfl rfl rfl (Nat.le_of_ble_eq_true rfl) eL_law_464 ⟨by show _ ≤ (601024 : Nat); omega, by show _ ≤ (7293000 : Nat); omega⟩ (fun z w1 hp => ?_)
    obtain ⟨rfl, rfl⟩ := hp
    refine j_perm [0, 12, 13, 14, 15, 16, 17, 18, 19, 20, 1, 2, 3, 4, 5, 6, 7, 8, 9, 10, 11] (by decide) (wd' := ((o, oL cL f) :: wM cB cI bd w h M O CT LB FS TD PR BY 1 (np : Int) (nk : Int) (nc : Int)) ++ wX cB cI cZ ad w h aG aS G S CB SB DK DR RE PF PK CO rc (np : Int) (nk : Int) (nc : Int)) rfl ?_
    refine j_istore C eL_law_467 rfl (by decide) (lv' := [(0, .ref b), (1, .ref (ad 0)), (2, .ref (bd 0)), (3, .ref o), (4, .int (zI (i : Int))), (5, .int (zI 1)), (6, .int (zI 0))]) rfl ?_
    refine j_aload_n C eL_law_469 2 rfl ?_
    refine j_callVi C (As := []) (rest := []) (ctX1_thrown l D cB cI cZ cL bd w h hs M O CT LB FS TD PR BY 1 (np : Int) (nk : Int) (nc : Int) ) (cwV 0 C.1.2.2.2.2 gL_law_X1_thrown rfl rfl rfl (by decide +kernel) ⟨Nat.le_of_ble_eq_true rfl, Nat.le_of_ble_eq_true rfl⟩) [1, 2, 3, 4, 5, 6, 7, 8, 9] [0, 10, 11, 12, 13, 14, 15, 16, 17, 18, 19, 20] (wr := (o, oL cL f) :: wX cB cI cZ ad w h aG aS G S CB SB DK DR RE PF PK CO rc (np : Int) (nk : Int) (nc : Int)) rfl (by decide) rfl (by decide) (by decide) 1 rfl rfl rfl rfl (Nat.le_of_ble_eq_true rfl) eL_law_470 ⟨by show _ ≤ (601024 : Nat); omega, by show _ ≤ (7293000 : Nat); omega⟩ (fun z w1 hp => ?_)
    obtain ⟨rfl, rfl⟩ := hp
    refine j_perm [0, 12, 13, 14, 15, 16, 17, 18, 19, 20, 1, 2, 3, 4, 5, 6, 7, 8, 9, 10, 11] (by decide) (wd' := ((o, oL cL f) :: wM cB cI bd w h M O CT LB FS TD PR BY 1 (np : Int) (nk : Int) (nc : Int)) ++ wX cB cI cZ ad w h aG aS G S CB SB DK DR RE PF PK CO rc (np : Int) (nk : Int) (nc : Int)) rfl ?_
    refine j_iload C eL_law_473 5 rfl ?_
    refine j_same C 480 eL_law_475 (by decide) ?_
    refine j_iload C eL_law_480 5 rfl ?_
    refine j_if_ne C 497 eL_law_482 (by decide) (by omega) (fun c482 => ?_) (fun c482 => ?_)
    ·
      refine j_goto C 500 eL_law_497 (by decide) ?_
      refine j_loc [0, 1, 2, 3, 4] (lv' := [(0, .ref b), (1, .ref (ad 0)), (2, .ref (bd 0)), (3, .ref o), (4, .int (zI (i : Int)))]) rfl ?_
      exact K _ _ _ _ _ _ _ _ _ _ _ _ _ _ _ _ _ _ _ _ _ _ _ _ _ _ hr
    ·
      exact absurd c482 (by decide)
end LCX
