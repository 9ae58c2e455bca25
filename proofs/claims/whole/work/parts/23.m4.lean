/-! THE REFERENCE: labels around, sizes, facts -/
theorem hwsX1_leastAround : ∀ w ∈ u_ws RX1 TX1 15, w ∈ wsX1_leastAround := fun _ h => List.mem_cons_of_mem _ (List.mem_append_right _ h)
theorem kX1_leastAround_13 : Cond.fieldLink RX1 13 "SheetRowsModel" (TX1 5).2.1 (TX1 5).2.2.1 ∈ wsX1_leastAround := by decide +kernel
theorem kX1_leastAround_19 : Cond.fieldLink RX1 19 "SheetRowsModel" (TX1 7).2.1 (TX1 7).2.2.1 ∈ wsX1_leastAround := by decide +kernel
theorem kX1_leastAround_35 : Cond.fieldLink RX1 35 "SheetRowsModel" (TX1 1).2.1 (TX1 1).2.2.1 ∈ wsX1_leastAround := by decide +kernel
abbrev rmX1_leastAround : Room := { frames := 1, cells := 0, slots := 0, locals := 22 }
def isL (w n : Nat) (O LB : Nat → Int) (k : Nat) (v : Int) : Prop := v = LB k ∨ ∃ q, q < n ∧ adj w k q ∧ O q = 1 ∧ v = LB q
/-- the places around that were looked at -/
def sn (w h : Nat) (O LB : Nat → Int) (kx ky : Nat) (dy dx v : Int) : Prop := ∀ x y : Nat, x < w → y < h → O (y * w + x) = 1 → kx ≤ x + 1 → x ≤ kx + 1 → ky ≤ y + 1 → y ≤ ky + 1 → ((y : Int) < (ky : Int) + dy ∨ ((y : Int) = (ky : Int) + dy ∧ (x : Int) < (kx : Int) + dx)) → v ≤ LB (y * w + x)
theorem isL_in {w n : Nat} {O LB : Nat → Int} {k : Nat} {v : Int} (h : isL w n O LB k v) (hk : k < n) (hL : ∀ q, q < n → 0 ≤ LB q ∧ LB q ≤ 2304) : 0 ≤ v ∧ v ≤ 2304 := by
  rcases h with z | ⟨q, q1, q2, q3, q4⟩
  · have := hL k hk; omega
  · have := hL q q1; omega
set_option maxHeartbeats 4000000 in
set_option maxRecDepth 100000 in
theorem lqX1_leastAround {p : Program} {l : Launch} {e : Env} {s : State} {m : MethodId} {args : Array Value} {below : List Frame} {meth : Method} {c : Code} {Q : State → Prop} {D : va_G} {A : Nat → Prop} {cB cI cZ cL : ClassId} {w h : Nat} {bd : Nat → Nat} {G O CT LB FS TD PR BY : Nat → Int} {th pn kn cn : Int} (C : JC p m c cX1_leastAround 7 s args wsX1_leastAround RX1 D vwCl (tyl cB cI cZ cL) A) (hs : Sz w h) {k kx ky : Nat} (hk : k < w * h) (hkx : kx < w) (hky : ky < h) (hke : ky * w + kx = k) (hL : ∀ q, q < w * h → 0 ≤ LB q ∧ LB q ≤ 2304) (hO : ∀ q, q < w * h → O q = 0 ∨ O q = 1) {dy : Int} (hdy : -1 ≤ dy ∧ dy ≤ 1) (kx_ : ∀ v : Int, v ≤ LB k → isL w (w * h) O LB k v → sn w h O LB kx ky dy 2 v → J p l e rmX1_leastAround s m args below meth c Q 7 D vwCl A 115 [(0, .ref (bd 0)), (1, .int (zI (k : Int))), (2, .int (zI v)), (3, .int (zI dy)), (4, .int (zI 2))] [] (wM cB cI bd w h G O CT LB FS TD PR BY th pn kn cn) 0 0) : ∀ (n : Nat) (dx v : Int), -1 ≤ dx → dx ≤ 2 → (2 - dx).toNat < n → v ≤ LB k → isL w (w * h) O LB k v → sn w h O LB kx ky dy dx v → J p l e rmX1_leastAround s m args below meth c Q 7 D vwCl A 17 [(0, .ref (bd 0)), (1, .int (zI (k : Int))), (2, .int (zI v)), (3, .int (zI dy)), (4, .int (zI dx))] [] (wM cB cI bd w h G O CT LB FS TD PR BY th pn kn cn) 0 0 := by
  have hm := hs.mul
  obtain ⟨h1, h2, h3, h4⟩ := id hs
  have hmod : k % w = kx := by rw [← hke]; exact ix_mod hkx
  have hdiv : k / w = ky := by rw [← hke]; exact ix_div hkx
  intro n
  induction n with
  | zero => intro dx v _ _ hn; exact absurd hn (Nat.not_lt_zero _)
  | succ n ih =>
    intro dx v h5 h6 hn hv hw hS
    have hvr := isL_in hw hk hL
    refine j_iload C eX1_leastAround_17 4 rfl ?_
    refine j_iconst C eX1_leastAround_19 ?_
    refine j_icmp_ge C 115 eX1_leastAround_20 (by decide) (by omega) (by omega) (fun c20 => ?_) (fun c20 => ?_)
    ·
      have he : dx = 2 := by omega
      subst he
      exact kx_ v hv hw hS
    ·
      refine j_iload_n C eX1_leastAround_23 1 rfl ?_
      refine j_aload_n C eX1_leastAround_24 0 rfl ?_
      refine j_getf C hwsX1_leastAround 0 rfl rfl 1 (by decide) kX1_leastAround_35 rfl rfl eX1_leastAround_25 ?_
      refine j_irem C eX1_leastAround_28 (by omega) (by omega) ?_
      refine j_top (y := zI (kx : Int)) (by rw [tm_nat, hmod]) ?_
      refine j_iload C eX1_leastAround_29 4 rfl ?_
      refine j_iadd C eX1_leastAround_31 ?_
      refine j_istore C eX1_leastAround_32 rfl (by decide) (lv' := [(0, .ref (bd 0)), (1, .int (zI (k : Int))), (2, .int (zI v)), (3, .int (zI dy)), (4, .int (zI dx)), (5, .int (zI ((kx : Int) + dx)))]) rfl ?_
      refine j_iload_n C eX1_leastAround_34 1 rfl ?_
      refine j_aload_n C eX1_leastAround_35 0 rfl ?_
      refine j_getf C hwsX1_leastAround 0 rfl rfl 1 (by decide) kX1_leastAround_35 rfl rfl eX1_leastAround_36 ?_
      refine j_idiv C eX1_leastAround_39 (by omega) (by omega) ?_
      refine j_top (y := zI (ky : Int)) (by rw [td_nat, hdiv]) ?_
      refine j_iload_n C eX1_leastAround_40 3 rfl ?_
      refine j_iadd C eX1_leastAround_41 ?_
      refine j_istore C eX1_leastAround_42 rfl (by decide) (lv' := [(0, .ref (bd 0)), (1, .int (zI (k : Int))), (2, .int (zI v)), (3, .int (zI dy)), (4, .int (zI dx)), (5, .int (zI ((kx : Int) + dx))), (6, .int (zI ((ky : Int) + dy)))]) rfl ?_
      refine j_aload_n C eX1_leastAround_44 0 rfl ?_
      refine j_iload C eX1_leastAround_45 5 rfl ?_
      refine j_iload C eX1_leastAround_47 6 rfl ?_
      refine j_callVi C (As := [.int (zI ((kx : Int) + dx)), .int (zI ((ky : Int) + dy))]) (rest := []) (ctX1_isOn l D cB cI cZ cL bd w h hs G O CT LB FS TD PR BY th pn kn cn ((kx : Int) + dx) ((ky : Int) + dy) (by omega) (by omega)) (cwV 2 C.1.2.2.2.2 gX1_leastAround_X1_isOn rfl rfl rfl (by decide +kernel) ⟨Nat.le_of_ble_eq_true rfl, Nat.le_of_ble_eq_true rfl⟩) [0, 1, 2, 3, 4, 5, 6, 7, 8] [] (wr := []) rfl (by decide) rfl (by decide) (by decide) 0 rfl rfl rfl rfl (Nat.le_of_ble_eq_true rfl) eX1_leastAround_49 ⟨Nat.le_of_ble_eq_true rfl, Nat.le_of_ble_eq_true rfl⟩ (fun z w1 hp => ?_)
      obtain ⟨rfl, rfl⟩ := hp
      rw [List.nil_append]
      obtain ⟨on9, hon9⟩ : ∃ on9 : Int, on9 = (if (0 ≤ (kx : Int) + dx ∧ (kx : Int) + dx < (w : Int) ∧ 0 ≤ (ky : Int) + dy ∧ (ky : Int) + dy < (h : Int)) then 1 else 0) := ⟨_, rfl⟩
      rw [← hon9]
      have hon8 : (on9 = 1 ∧ (0 ≤ (kx : Int) + dx ∧ (kx : Int) + dx < (w : Int) ∧ 0 ≤ (ky : Int) + dy ∧ (ky : Int) + dy < (h : Int))) ∨ (on9 = 0 ∧ ¬ (0 ≤ (kx : Int) + dx ∧ (kx : Int) + dx < (w : Int) ∧ 0 ≤ (ky : Int) + dy ∧ (ky : Int) + dy < (h : Int))) := by
        rw [hon9]
        by_cases c : (0 ≤ (kx : Int) + dx ∧ (kx : Int) + dx < (w : Int) ∧ 0 ≤ (ky : Int) + dy ∧ (ky : Int) + dy < (h : Int))
        · exact Or.inl ⟨if_pos c, c⟩
        · exact Or.inr ⟨if_neg c, c⟩
      clear hon9
      refine j_if_eq C 109 eX1_leastAround_52 (by decide) (by omega) (fun c52 => ?_) (fun c52 => ?_)
      ·
        refine j_iinc C eX1_leastAround_109 4 rfl rfl (by decide) (lv' := [(0, .ref (bd 0)), (1, .int (zI (k : Int))), (2, .int (zI v)), (3, .int (zI dy)), (4, .int (zI (dx + 1))), (5, .int (zI ((kx : Int) + dx))), (6, .int (zI ((ky : Int) + dy)))]) rfl ?_
        refine j_goto C 17 eX1_leastAround_112 (by decide) ?_
        refine j_loc [0, 1, 2, 3, 4] (lv' := [(0, .ref (bd 0)), (1, .int (zI (k : Int))), (2, .int (zI v)), (3, .int (zI dy)), (4, .int (zI (dx + 1)))]) rfl ?_
        have hqe : ∀ x y : Nat, x < w → y < h → O (y * w + x) = 1 → (y : Int) = (ky : Int) + dy → (x : Int) = (kx : Int) + dx → v ≤ LB (y * w + x) := fun x y q1 q2 q3 q4 q5 => by
          exfalso; omega
        refine ih (dx + 1) v (by omega) (by omega) (by omega) hv hw (fun x y q1 q2 q3 q4 q5 q6 q7 q8 => ?_)
        by_cases c : (y : Int) = (ky : Int) + dy ∧ (x : Int) = (kx : Int) + dx
        · exact hqe x y q1 q2 q3 c.1 c.2
        · have := hS x y q1 q2 q3 q4 q5 q6 q7 (by omega)
          omega
      ·
        obtain ⟨x9, hx9⟩ : ∃ x9 : Nat, (kx : Int) + dx = (x9 : Int) := ⟨((kx : Int) + dx).toNat, by omega⟩
        obtain ⟨y9, hy9⟩ : ∃ y9 : Nat, (ky : Int) + dy = (y9 : Int) := ⟨((ky : Int) + dy).toNat, by omega⟩
        have hxw : x9 < w := by omega
        have hyh : y9 < h := by omega
        have h7 := ix_lt (w := w) (h := h) (x := x9) (y := y9) hxw hyh
        have hl7 := hL _ h7
        have ho7 := hO _ h7
        have ha7 : adj w k (y9 * w + x9) := by
          unfold adj
          rw [ix_mod hxw, ix_div hxw, hmod, hdiv]
          omega
        refine j_aload_n C eX1_leastAround_55 0 rfl ?_
        refine j_getf C hwsX1_leastAround 0 rfl rfl 5 (by decide) kX1_leastAround_13 rfl rfl eX1_leastAround_56 ?_
        refine j_aload_n C eX1_leastAround_59 0 rfl ?_
        refine j_getf C hwsX1_leastAround 0 rfl rfl 1 (by decide) kX1_leastAround_35 rfl rfl eX1_leastAround_60 ?_
        refine j_iload C eX1_leastAround_63 6 rfl ?_
        refine j_imul C eX1_leastAround_65 ?_
        refine j_iload C eX1_leastAround_66 5 rfl ?_
        refine j_iadd C eX1_leastAround_68 ?_
        refine j_iald C 2 1 rfl rfl (y9 * w + x9) (by rw [hx9, hy9, Int.mul_comm]; push_cast; rfl) (by omega) (by omega) eX1_leastAround_69 ?_
        refine j_iconst C eX1_leastAround_70 ?_
        refine j_icmp_ne C 109 eX1_leastAround_71 (by decide) (by omega) (by omega) (fun c71 => ?_) (fun c71 => ?_)
        ·
          refine j_iinc C eX1_leastAround_109 4 rfl rfl (by decide) (lv' := [(0, .ref (bd 0)), (1, .int (zI (k : Int))), (2, .int (zI v)), (3, .int (zI dy)), (4, .int (zI (dx + 1))), (5, .int (zI ((kx : Int) + dx))), (6, .int (zI ((ky : Int) + dy)))]) rfl ?_
          refine j_goto C 17 eX1_leastAround_112 (by decide) ?_
          refine j_loc [0, 1, 2, 3, 4] (lv' := [(0, .ref (bd 0)), (1, .int (zI (k : Int))), (2, .int (zI v)), (3, .int (zI dy)), (4, .int (zI (dx + 1)))]) rfl ?_
          have hqe : ∀ x y : Nat, x < w → y < h → O (y * w + x) = 1 → (y : Int) = (ky : Int) + dy → (x : Int) = (kx : Int) + dx → v ≤ LB (y * w + x) := fun x y q1 q2 q3 q4 q5 => by
            have ex : x = x9 := by omega
            have ey : y = y9 := by omega
            subst ex; subst ey
            first | exact c90 | (exfalso; omega)
          refine ih (dx + 1) v (by omega) (by omega) (by omega) hv hw (fun x y q1 q2 q3 q4 q5 q6 q7 q8 => ?_)
          by_cases c : (y : Int) = (ky : Int) + dy ∧ (x : Int) = (kx : Int) + dx
          · exact hqe x y q1 q2 q3 c.1 c.2
          · have := hS x y q1 q2 q3 q4 q5 q6 q7 (by omega)
            omega
        ·
          refine j_aload_n C eX1_leastAround_74 0 rfl ?_
          refine j_getf C hwsX1_leastAround 0 rfl rfl 7 (by decide) kX1_leastAround_19 rfl rfl eX1_leastAround_75 ?_
          refine j_aload_n C eX1_leastAround_78 0 rfl ?_
          refine j_getf C hwsX1_leastAround 0 rfl rfl 1 (by decide) kX1_leastAround_35 rfl rfl eX1_leastAround_79 ?_
          refine j_iload C eX1_leastAround_82 6 rfl ?_
          refine j_imul C eX1_leastAround_84 ?_
          refine j_iload C eX1_leastAround_85 5 rfl ?_
          refine j_iadd C eX1_leastAround_87 ?_
          refine j_iald C 4 1 rfl rfl (y9 * w + x9) (by rw [hx9, hy9, Int.mul_comm]; push_cast; rfl) (by omega) (by omega) eX1_leastAround_88 ?_
          refine j_iload_n C eX1_leastAround_89 2 rfl ?_
          refine j_icmp_ge C 109 eX1_leastAround_90 (by decide) (by omega) (by omega) (fun c90 => ?_) (fun c90 => ?_)
          ·
            refine j_iinc C eX1_leastAround_109 4 rfl rfl (by decide) (lv' := [(0, .ref (bd 0)), (1, .int (zI (k : Int))), (2, .int (zI v)), (3, .int (zI dy)), (4, .int (zI (dx + 1))), (5, .int (zI ((kx : Int) + dx))), (6, .int (zI ((ky : Int) + dy)))]) rfl ?_
            refine j_goto C 17 eX1_leastAround_112 (by decide) ?_
            refine j_loc [0, 1, 2, 3, 4] (lv' := [(0, .ref (bd 0)), (1, .int (zI (k : Int))), (2, .int (zI v)), (3, .int (zI dy)), (4, .int (zI (dx + 1)))]) rfl ?_
            have hqe : ∀ x y : Nat, x < w → y < h → O (y * w + x) = 1 → (y : Int) = (ky : Int) + dy → (x : Int) = (kx : Int) + dx → v ≤ LB (y * w + x) := fun x y q1 q2 q3 q4 q5 => by
              have ex : x = x9 := by omega
              have ey : y = y9 := by omega
              subst ex; subst ey
              first | exact c90 | (exfalso; omega)
            refine ih (dx + 1) v (by omega) (by omega) (by omega) hv hw (fun x y q1 q2 q3 q4 q5 q6 q7 q8 => ?_)
            by_cases c : (y : Int) = (ky : Int) + dy ∧ (x : Int) = (kx : Int) + dx
            · exact hqe x y q1 q2 q3 c.1 c.2
            · have := hS x y q1 q2 q3 q4 q5 q6 q7 (by omega)
              omega
          ·
            refine j_aload_n C eX1_leastAround_93 0 rfl ?_
            refine j_getf C hwsX1_leastAround 0 rfl rfl 7 (by decide) kX1_leastAround_19 rfl rfl eX1_leastAround_94 ?_
            refine j_aload_n C eX1_leastAround_97 0 rfl ?_
            refine j_getf C hwsX1_leastAround 0 rfl rfl 1 (by decide) kX1_leastAround_35 rfl rfl eX1_leastAround_98 ?_
            refine j_iload C eX1_leastAround_101 6 rfl ?_
            refine j_imul C eX1_leastAround_103 ?_
            refine j_iload C eX1_leastAround_104 5 rfl ?_
            refine j_iadd C eX1_leastAround_106 ?_
            refine j_iald C 4 1 rfl rfl (y9 * w + x9) (by rw [hx9, hy9, Int.mul_comm]; push_cast; rfl) (by omega) (by omega) eX1_leastAround_107 ?_
            refine j_istore_n C eX1_leastAround_108 rfl (by decide) (lv' := [(0, .ref (bd 0)), (1, .int (zI (k : Int))), (2, .int (zI (LB (y9 * w + x9)))), (3, .int (zI dy)), (4, .int (zI dx)), (5, .int (zI ((kx : Int) + dx))), (6, .int (zI ((ky : Int) + dy)))]) rfl ?_
            refine j_iinc C eX1_leastAround_109 4 rfl rfl (by decide) (lv' := [(0, .ref (bd 0)), (1, .int (zI (k : Int))), (2, .int (zI (LB (y9 * w + x9)))), (3, .int (zI dy)), (4, .int (zI (dx + 1))), (5, .int (zI ((kx : Int) + dx))), (6, .int (zI ((ky : Int) + dy)))]) rfl ?_
            refine j_goto C 17 eX1_leastAround_112 (by decide) ?_
            refine j_loc [0, 1, 2, 3, 4] (lv' := [(0, .ref (bd 0)), (1, .int (zI (k : Int))), (2, .int (zI (LB (y9 * w + x9)))), (3, .int (zI dy)), (4, .int (zI (dx + 1)))]) rfl ?_
            have hqe : ∀ x y : Nat, x < w → y < h → O (y * w + x) = 1 → (y : Int) = (ky : Int) + dy → (x : Int) = (kx : Int) + dx → LB (y9 * w + x9) ≤ LB (y * w + x) := fun x y q1 q2 q3 q4 q5 => by
              have ex : x = x9 := by omega
              have ey : y = y9 := by omega
              subst ex; subst ey
              exact Int.le_refl _
            refine ih (dx + 1) (LB (y9 * w + x9)) (by omega) (by omega) (by omega) (by omega) (Or.inr ⟨_, h7, ha7, c71, rfl⟩) (fun x y q1 q2 q3 q4 q5 q6 q7 q8 => ?_)
            by_cases c : (y : Int) = (ky : Int) + dy ∧ (x : Int) = (kx : Int) + dx
            · exact hqe x y q1 q2 q3 c.1 c.2
            · have := hS x y q1 q2 q3 q4 q5 q6 q7 (by omega)
              omega
set_option maxHeartbeats 4000000 in
set_option maxRecDepth 100000 in
theorem lpX1_leastAround {p : Program} {l : Launch} {e : Env} {s : State} {m : MethodId} {args : Array Value} {below : List Frame} {meth : Method} {c : Code} {Q : State → Prop} {D : va_G} {A : Nat → Prop} {cB cI cZ cL : ClassId} {w h : Nat} {bd : Nat → Nat} {G O CT LB FS TD PR BY : Nat → Int} {th pn kn cn : Int} (C : JC p m c cX1_leastAround 7 s args wsX1_leastAround RX1 D vwCl (tyl cB cI cZ cL) A) (hs : Sz w h) {k kx ky : Nat} (hk : k < w * h) (hkx : kx < w) (hky : ky < h) (hke : ky * w + kx = k) (hL : ∀ q, q < w * h → 0 ≤ LB q ∧ LB q ≤ 2304) (hO : ∀ q, q < w * h → O q = 0 ∨ O q = 1) (kx_ : ∀ v : Int, v ≤ LB k → isL w (w * h) O LB k v → (∀ q, q < w * h → O q = 1 → adj w k q → v ≤ LB q) → J p l e rmX1_leastAround s m args below meth c Q 7 D vwCl A 121 [(0, .ref (bd 0)), (1, .int (zI (k : Int))), (2, .int (zI v)), (3, .int (zI 2))] [] (wM cB cI bd w h G O CT LB FS TD PR BY th pn kn cn) 0 0) : ∀ (n : Nat) (dy v : Int), -1 ≤ dy → dy ≤ 2 → (2 - dy).toNat < n → v ≤ LB k → isL w (w * h) O LB k v → sn w h O LB kx ky dy (-1) v → J p l e rmX1_leastAround s m args below meth c Q 7 D vwCl A 9 [(0, .ref (bd 0)), (1, .int (zI (k : Int))), (2, .int (zI v)), (3, .int (zI dy))] [] (wM cB cI bd w h G O CT LB FS TD PR BY th pn kn cn) 0 0 := by
  have hm := hs.mul
  obtain ⟨h1, h2, h3, h4⟩ := id hs
  have hmod : k % w = kx := by rw [← hke]; exact ix_mod hkx
  have hdiv : k / w = ky := by rw [← hke]; exact ix_div hkx
  intro n
  induction n with
  | zero => intro dx v _ _ hn; exact absurd hn (Nat.not_lt_zero _)
  | succ n ih =>
    intro dy v h5 h6 hn hv hw hS
    refine j_iload_n C eX1_leastAround_9 3 rfl ?_
    refine j_iconst C eX1_leastAround_10 ?_
    refine j_icmp_ge C 121 eX1_leastAround_11 (by decide) (by omega) (by omega) (fun c11 => ?_) (fun c11 => ?_)
    ·
      have he : dy = 2 := by omega
      subst he
      refine kx_ v hv hw (fun q q1 q2 q3 => ?_)
      obtain ⟨f1, f2, f3⟩ := ix_of h1 q1
      unfold adj at q3
      rw [hmod, hdiv] at q3
      obtain ⟨qx, hqx⟩ : ∃ qx, q % w = qx := ⟨_, rfl⟩
      obtain ⟨qy, hqy⟩ : ∃ qy, q / w = qy := ⟨_, rfl⟩
      rw [hqx, hqy] at q3 f3
      rw [hqx] at f2
      rw [hqy] at f1
      have := hS qx qy f2 f1 (by rw [f3]; exact q2) (by omega) (by omega) (by omega) (by omega) (by omega)
      rw [f3] at this
      exact this
    ·
      refine j_iconst C eX1_leastAround_14 ?_
      refine j_istore C eX1_leastAround_15 rfl (by decide) (lv' := [(0, .ref (bd 0)), (1, .int (zI (k : Int))), (2, .int (zI v)), (3, .int (zI dy)), (4, .int (zI (-1)))]) rfl ?_
      refine lqX1_leastAround C hs hk hkx hky hke hL hO (dy := dy) (by omega) (fun v hv hw hS => ?_) 4 (-1) v (by omega) (by omega) (by omega) hv hw hS
      refine j_iinc C eX1_leastAround_115 3 rfl rfl (by decide) (lv' := [(0, .ref (bd 0)), (1, .int (zI (k : Int))), (2, .int (zI v)), (3, .int (zI (dy + 1))), (4, .int (zI 2))]) rfl ?_
      refine j_goto C 9 eX1_leastAround_118 (by decide) ?_
      refine j_loc [0, 1, 2, 3] (lv' := [(0, .ref (bd 0)), (1, .int (zI (k : Int))), (2, .int (zI v)), (3, .int (zI (dy + 1)))]) rfl ?_
      exact ih (dy + 1) v (by omega) (by omega) (by omega) hv hw (fun x y q1 q2 q3 q4 q5 q6 q7 q8 => hS x y q1 q2 q3 q4 q5 q6 q7 (by omega))
set_option maxHeartbeats 4000000 in
set_option maxRecDepth 100000 in
theorem ctX1_leastAround (l : Launch) (D : va_G) (cB cI cZ cL : ClassId) (bd : Nat → Nat) (w h : Nat) (hs : Sz w h) (G O CT LB FS TD PR BY : Nat → Int) (th pn kn cn : Int) (k : Nat) (hk : k < w * h) (hL : ∀ q, q < w * h → 0 ≤ LB q ∧ LB q ≤ 2304) (hO : ∀ q, q < w * h → O q = 0 ∨ O q = 1) : mI l yX1_leastAround wsX1_leastAround rmX1_leastAround D vwCl (tyl cB cI cZ cL) [.ref (bd 0), .int (zI (k : Int))] (wM cB cI bd w h G O CT LB FS TD PR BY th pn kn cn) 0 0 (fun z w1 => w1 = wM cB cI bd w h G O CT LB FS TD PR BY th pn kn cn ∧ z ≤ LB k ∧ isL w (w * h) O LB k z ∧ ∀ q, q < w * h → O q = 1 → adj w k q → z ≤ LB q) := by
  refine mI_of (own := RX1) rfl (by decide) rfl (Nat.le_of_ble_eq_true rfl) ?_
  intro p e s m args below meth c C hr hlocks hname
  show J p l e rmX1_leastAround s m args below meth c _ 7 D vwCl _ 0 [(0, .ref (bd 0)), (1, .int (zI (k : Int)))] [] (wM cB cI bd w h G O CT LB FS TD PR BY th pn kn cn) 0 0
  have hm := hs.mul
  obtain ⟨e1, e2, e3⟩ := ix_of hs.1 hk
  refine j_aload_n C eX1_leastAround_0 0 rfl ?_
  refine j_getf C hwsX1_leastAround 0 rfl rfl 7 (by decide) kX1_leastAround_19 rfl rfl eX1_leastAround_1 ?_
  refine j_iload_n C eX1_leastAround_4 1 rfl ?_
  refine j_iald C 4 1 rfl rfl k rfl (by omega) (by omega) eX1_leastAround_5 ?_
  refine j_istore_n C eX1_leastAround_6 rfl (by decide) (lv' := [(0, .ref (bd 0)), (1, .int (zI (k : Int))), (2, .int (zI (LB k)))]) rfl ?_
  refine j_iconst C eX1_leastAround_7 ?_
  refine j_istore_n C eX1_leastAround_8 rfl (by decide) (lv' := [(0, .ref (bd 0)), (1, .int (zI (k : Int))), (2, .int (zI (LB k))), (3, .int (zI (-1)))]) rfl ?_
  refine lpX1_leastAround C hs hk e2 e1 e3 hL hO (fun v hv hw hS => ?_) 4 (-1) (LB k) (by omega) (by omega) (by omega) (Int.le_refl _) (Or.inl rfl) (fun x y q1 q2 q3 q4 q5 q6 q7 q8 => by omega)
  refine j_iload_n C eX1_leastAround_121 2 rfl ?_
  exact j_iret C hr hlocks rfl eX1_leastAround_122 ⟨rfl, hv, hw, hS⟩
theorem hwsX1_sizeOf : ∀ w ∈ u_ws RX1 TX1 15, w ∈ wsX1_sizeOf := fun _ h => List.mem_cons_of_mem _ (List.mem_append_right _ h)
theorem kX1_sizeOf_13 : Cond.fieldLink RX1 13 "SheetRowsModel" (TX1 5).2.1 (TX1 5).2.2.1 ∈ wsX1_sizeOf := by decide +kernel
theorem kX1_sizeOf_19 : Cond.fieldLink RX1 19 "SheetRowsModel" (TX1 7).2.1 (TX1 7).2.2.1 ∈ wsX1_sizeOf := by decide +kernel
theorem kX1_sizeOf_42 : Cond.fieldLink RX1 42 "SheetRowsModel" (TX1 3).2.1 (TX1 3).2.2.1 ∈ wsX1_sizeOf := by decide +kernel
abbrev rmX1_sizeOf : Room := { frames := 0, cells := 0, slots := 0, locals := 0 }
set_option maxHeartbeats 4000000 in
set_option maxRecDepth 100000 in
theorem lpX1_sizeOf {p : Program} {l : Launch} {e : Env} {s : State} {m : MethodId} {args : Array Value} {below : List Frame} {meth : Method} {c : Code} {Q : State → Prop} {D : va_G} {A : Nat → Prop} {cB cI cZ cL : ClassId} {w h : Nat} {bd : Nat → Nat} {G O CT LB FS TD PR BY : Nat → Int} {th pn kn cn : Int} (C : JC p m c cX1_sizeOf 4 s args wsX1_sizeOf RX1 D vwCl (tyl cB cI cZ cL) A) (hs : Sz w h) {lb : Nat} (hlb : lb ≤ 2304) (hL : ∀ q, q < w * h → 0 ≤ LB q ∧ LB q ≤ 2304) (hO : ∀ q, q < w * h → O q = 0 ∨ O q = 1) (kx : J p l e rmX1_sizeOf s m args below meth c Q 4 D vwCl A 46 [(0, .ref (bd 0)), (1, .int (zI (lb : Int))), (2, .int (zI (sumN (fun q => if O q = 1 ∧ LB q = (lb : Int) then (1 : Int) else 0) (w * h)))), (3, .int (zI ((w * h) : Int)))] [] (wM cB cI bd w h G O CT LB FS TD PR BY th pn kn cn) 0 0) : ∀ (n i : Nat), i ≤ w * h → w * h - i < n → J p l e rmX1_sizeOf s m args below meth c Q 4 D vwCl A 4 [(0, .ref (bd 0)), (1, .int (zI (lb : Int))), (2, .int (zI (sumN (fun q => if O q = 1 ∧ LB q = (lb : Int) then (1 : Int) else 0) i))), (3, .int (zI (i : Int)))] [] (wM cB cI bd w h G O CT LB FS TD PR BY th pn kn cn) 0 0 := by
  have hm := hs.mul
  intro n
  induction n with
  | zero => intro i _ hn; exact absurd hn (Nat.not_lt_zero _)
  | succ n ih =>
    intro i hi hn
    refine j_iload_n C eX1_sizeOf_4 3 rfl ?_
    refine j_aload_n C eX1_sizeOf_5 0 rfl ?_
    refine j_getf C hwsX1_sizeOf 0 rfl rfl 3 (by decide) kX1_sizeOf_42 rfl rfl eX1_sizeOf_6 ?_
    refine j_icmp_ge C 46 eX1_sizeOf_9 (by decide) (by omega) (by omega) (fun c9 => ?_) (fun c9 => ?_)
    ·
      have he : i = w * h := by omega
      subst he
      exact kx
    ·
      have h5 := hL i (by omega)
      have h6 := hO i (by omega)
      refine j_aload_n C eX1_sizeOf_12 0 rfl ?_
      refine j_getf C hwsX1_sizeOf 0 rfl rfl 5 (by decide) kX1_sizeOf_13 rfl rfl eX1_sizeOf_13 ?_
      refine j_iload_n C eX1_sizeOf_16 3 rfl ?_
      refine j_iald C 2 1 rfl rfl i rfl (by omega) (by omega) eX1_sizeOf_17 ?_
      refine j_iconst C eX1_sizeOf_18 ?_
      refine j_icmp_ne C 38 eX1_sizeOf_19 (by decide) (by omega) (by omega) (fun c19 => ?_) (fun c19 => ?_)
      ·
        refine j_iload_n C eX1_sizeOf_38 2 rfl ?_
        refine j_istore_n C eX1_sizeOf_39 rfl (by decide) (lv' := [(0, .ref (bd 0)), (1, .int (zI (lb : Int))), (2, .int (zI (sumN (fun q => if O q = 1 ∧ LB q = (lb : Int) then (1 : Int) else 0) i))), (3, .int (zI (i : Int)))]) rfl ?_
        refine j_iinc C eX1_sizeOf_40 3 rfl rfl (by decide) (lv' := [(0, .ref (bd 0)), (1, .int (zI (lb : Int))), (2, .int (zI (sumN (fun q => if O q = 1 ∧ LB q = (lb : Int) then (1 : Int) else 0) i))), (3, .int (zI ((i : Int) + 1)))]) rfl ?_
        refine j_goto C 4 eX1_sizeOf_43 (by decide) ?_
        have e1 : sumN (fun q => if O q = 1 ∧ LB q = (lb : Int) then (1 : Int) else 0) (i + 1) = sumN (fun q => if O q = 1 ∧ LB q = (lb : Int) then (1 : Int) else 0) i + (if O i = 1 ∧ LB i = (lb : Int) then (1 : Int) else 0) := rfl
        rw [if_neg (by omega), Int.add_zero] at e1
        have hb := ih (i + 1) (by omega) (by omega)
        rw [e1] at hb
        exact hb
      ·
        refine j_aload_n C eX1_sizeOf_22 0 rfl ?_
        refine j_getf C hwsX1_sizeOf 0 rfl rfl 7 (by decide) kX1_sizeOf_19 rfl rfl eX1_sizeOf_23 ?_
        refine j_iload_n C eX1_sizeOf_26 3 rfl ?_
        refine j_iald C 4 1 rfl rfl i rfl (by omega) (by omega) eX1_sizeOf_27 ?_
        refine j_iload_n C eX1_sizeOf_28 1 rfl ?_
        refine j_icmp_ne C 38 eX1_sizeOf_29 (by decide) (by omega) (by omega) (fun c29 => ?_) (fun c29 => ?_)
        ·
          refine j_iload_n C eX1_sizeOf_38 2 rfl ?_
          refine j_istore_n C eX1_sizeOf_39 rfl (by decide) (lv' := [(0, .ref (bd 0)), (1, .int (zI (lb : Int))), (2, .int (zI (sumN (fun q => if O q = 1 ∧ LB q = (lb : Int) then (1 : Int) else 0) i))), (3, .int (zI (i : Int)))]) rfl ?_
          refine j_iinc C eX1_sizeOf_40 3 rfl rfl (by decide) (lv' := [(0, .ref (bd 0)), (1, .int (zI (lb : Int))), (2, .int (zI (sumN (fun q => if O q = 1 ∧ LB q = (lb : Int) then (1 : Int) else 0) i))), (3, .int (zI ((i : Int) + 1)))]) rfl ?_
          refine j_goto C 4 eX1_sizeOf_43 (by decide) ?_
          have e1 : sumN (fun q => if O q = 1 ∧ LB q = (lb : Int) then (1 : Int) else 0) (i + 1) = sumN (fun q => if O q = 1 ∧ LB q = (lb : Int) then (1 : Int) else 0) i + (if O i = 1 ∧ LB i = (lb : Int) then (1 : Int) else 0) := rfl
          rw [if_neg (by omega), Int.add_zero] at e1
          have hb := ih (i + 1) (by omega) (by omega)
          rw [e1] at hb
          exact hb
        ·
          refine j_iload_n C eX1_sizeOf_32 2 rfl ?_
          refine j_iconst C eX1_sizeOf_33 ?_
          refine j_iadd C eX1_sizeOf_34 ?_
          refine j_goto C 39 eX1_sizeOf_35 (by decide) ?_
          refine j_istore_n C eX1_sizeOf_39 rfl (by decide) (lv' := [(0, .ref (bd 0)), (1, .int (zI (lb : Int))), (2, .int (zI ((sumN (fun q => if O q = 1 ∧ LB q = (lb : Int) then (1 : Int) else 0) i) + 1))), (3, .int (zI (i : Int)))]) rfl ?_
          refine j_iinc C eX1_sizeOf_40 3 rfl rfl (by decide) (lv' := [(0, .ref (bd 0)), (1, .int (zI (lb : Int))), (2, .int (zI ((sumN (fun q => if O q = 1 ∧ LB q = (lb : Int) then (1 : Int) else 0) i) + 1))), (3, .int (zI ((i : Int) + 1)))]) rfl ?_
          refine j_goto C 4 eX1_sizeOf_43 (by decide) ?_
          have e1 : sumN (fun q => if O q = 1 ∧ LB q = (lb : Int) then (1 : Int) else 0) (i + 1) = sumN (fun q => if O q = 1 ∧ LB q = (lb : Int) then (1 : Int) else 0) i + (if O i = 1 ∧ LB i = (lb : Int) then (1 : Int) else 0) := rfl
          rw [if_pos (by omega)] at e1
          have hb := ih (i + 1) (by omega) (by omega)
          rw [e1] at hb
          exact hb
set_option maxHeartbeats 4000000 in
set_option maxRecDepth 100000 in
theorem ctX1_sizeOf (l : Launch) (D : va_G) (cB cI cZ cL : ClassId) (bd : Nat → Nat) (w h : Nat) (hs : Sz w h) (G O CT LB FS TD PR BY : Nat → Int) (th pn kn cn : Int) (lb : Nat) (hlb : lb ≤ 2304) (hL : ∀ q, q < w * h → 0 ≤ LB q ∧ LB q ≤ 2304) (hO : ∀ q, q < w * h → O q = 0 ∨ O q = 1) : mI l yX1_sizeOf wsX1_sizeOf rmX1_sizeOf D vwCl (tyl cB cI cZ cL) [.ref (bd 0), .int (zI (lb : Int))] (wM cB cI bd w h G O CT LB FS TD PR BY th pn kn cn) 0 0 (fun z w1 => w1 = wM cB cI bd w h G O CT LB FS TD PR BY th pn kn cn ∧ z = sumN (fun q => if O q = 1 ∧ LB q = (lb : Int) then (1 : Int) else 0) (w * h)) := by
  refine mI_of (own := RX1) rfl (by decide) rfl (Nat.le_of_ble_eq_true rfl) ?_
  intro p e s m args below meth c C hr hlocks hname
  show J p l e rmX1_sizeOf s m args below meth c _ 4 D vwCl _ 0 [(0, .ref (bd 0)), (1, .int (zI (lb : Int)))] [] (wM cB cI bd w h G O CT LB FS TD PR BY th pn kn cn) 0 0
  refine j_iconst C eX1_sizeOf_0 ?_
  refine j_istore_n C eX1_sizeOf_1 rfl (by decide) (lv' := [(0, .ref (bd 0)), (1, .int (zI (lb : Int))), (2, .int (zI 0))]) rfl ?_
  refine j_iconst C eX1_sizeOf_2 ?_
  refine j_istore_n C eX1_sizeOf_3 rfl (by decide) (lv' := [(0, .ref (bd 0)), (1, .int (zI (lb : Int))), (2, .int (zI 0)), (3, .int (zI 0))]) rfl ?_
  refine lpX1_sizeOf C hs hlb hL hO ?_ (w * h + 1) 0 (by omega) (by omega)
  refine j_iload_n C eX1_sizeOf_46 2 rfl ?_
  exact j_iret C hr hlocks rfl eX1_sizeOf_47 ⟨rfl, rfl⟩
theorem hwsX1_tell : ∀ w ∈ u_ws RX1 TX1 15, w ∈ wsX1_tell := fun _ h => List.mem_cons_of_mem _ (List.mem_append_right _ h)
theorem kX1_tell_13 : Cond.fieldLink RX1 13 "SheetRowsModel" (TX1 5).2.1 (TX1 5).2.2.1 ∈ wsX1_tell := by decide +kernel
theorem kX1_tell_19 : Cond.fieldLink RX1 19 "SheetRowsModel" (TX1 7).2.1 (TX1 7).2.2.1 ∈ wsX1_tell := by decide +kernel
theorem kX1_tell_25 : Cond.fieldLink RX1 25 "SheetRowsModel" (TX1 10).2.1 (TX1 10).2.2.1 ∈ wsX1_tell := by decide +kernel
theorem kX1_tell_35 : Cond.fieldLink RX1 35 "SheetRowsModel" (TX1 1).2.1 (TX1 1).2.2.1 ∈ wsX1_tell := by decide +kernel
theorem kX1_tell_39 : Cond.fieldLink RX1 39 "SheetRowsModel" (TX1 2).2.1 (TX1 2).2.2.1 ∈ wsX1_tell := by decide +kernel
theorem kX1_tell_42 : Cond.fieldLink RX1 42 "SheetRowsModel" (TX1 3).2.1 (TX1 3).2.2.1 ∈ wsX1_tell := by decide +kernel
theorem kX1_tell_75 : Cond.fieldLink RX1 75 "SheetRowsModel" (TX1 8).2.1 (TX1 8).2.2.1 ∈ wsX1_tell := by decide +kernel
abbrev rmX1_tell : Room := { frames := 0, cells := 0, slots := 0, locals := 0 }
theorem mnS_in {s f : Nat → Int} {z : Int} {n : Nat} (hz : 0 ≤ z ∧ z ≤ 48) (hf : ∀ k, k < n → 0 ≤ f k ∧ f k ≤ 48) : 0 ≤ mnS s f z n ∧ mnS s f z n ≤ 48 := by
  obtain ⟨a, b, c⟩ := mnS_ok s f z n
  rcases c with c | ⟨k, k1, k2, k3⟩
  · omega
  · have := hf k k1; omega
theorem mxS_in {s f : Nat → Int} {n : Nat} (hf : ∀ k, k < n → 0 ≤ f k ∧ f k ≤ 48) : -1 ≤ mxS s f (-1) n ∧ mxS s f (-1) n ≤ 48 := by
  obtain ⟨a, b, c⟩ := mxS_ok s f (-1) n
  rcases c with c | ⟨k, k1, k2, k3⟩
  · omega
  · have := hf k k1; omega
set_option maxHeartbeats 4000000 in
set_option maxRecDepth 100000 in
theorem lpX1_tell {p : Program} {l : Launch} {e : Env} {s : State} {m : MethodId} {args : Array Value} {below : List Frame} {meth : Method} {c : Code} {Q : State → Prop} {D : va_G} {A : Nat → Prop} {cB cI cZ cL : ClassId} {w h : Nat} {bd : Nat → Nat} {G O CT LB FS PR BY : Nat → Int} {th kn cn : Int} (C : JC p m c cX1_tell 6 s args wsX1_tell RX1 D vwCl (tyl cB cI cZ cL) A) (hs : Sz w h) {lb p9 : Nat} {T0 : Nat → Int} (hlb : lb ≤ 2304) (hp9 : p9 < 2304) (hL : ∀ q, q < w * h → 0 ≤ LB q ∧ LB q ≤ 2304) (hO : ∀ q, q < w * h → O q = 0 ∨ O q = 1) (kx : ∀ TD : Nat → Int, (∀ j, j < 7 → TD (p9 * 7 + j) = fac w h (w * h) (fun q => if O q = 1 ∧ LB q = (lb : Int) then (1 : Int) else 0) j) → (∀ i, i < p9 * 7 → TD i = T0 i) → J p l e rmX1_tell s m args below meth c Q 6 D vwCl A 310 [(0, .ref (bd 0)), (1, .int (zI (lb : Int))), (2, .int (zI (7 * (p9 : Int)))), (3, .int (zI ((w * h) : Int)))] [] (wM cB cI bd w h G O CT LB FS TD PR BY th (p9 : Int) kn cn) 0 0) : ∀ (n i : Nat) (TD : Nat → Int), i ≤ w * h → w * h - i < n → (∀ j, j < 7 → TD (p9 * 7 + j) = fac w h i (fun q => if O q = 1 ∧ LB q = (lb : Int) then (1 : Int) else 0) j) → (∀ i, i < p9 * 7 → TD i = T0 i) → J p l e rmX1_tell s m args below meth c Q 6 D vwCl A 78 [(0, .ref (bd 0)), (1, .int (zI (lb : Int))), (2, .int (zI (7 * (p9 : Int)))), (3, .int (zI (i : Int)))] [] (wM cB cI bd w h G O CT LB FS TD PR BY th (p9 : Int) kn cn) 0 0 := by
  have hm := hs.mul
  obtain ⟨h1, h2, h3, h4⟩ := id hs
  intro n
  induction n with
  | zero => intro i TD _ hn; exact absurd hn (Nat.not_lt_zero _)
  | succ n ih =>
    intro i TD hi hn hT hB
    have bx : ∀ k, k < i + 1 → 0 ≤ fx w k ∧ fx w k ≤ 48 := fun k _ => fx_in h1 h2 k
    have t0 : TD (p9 * 7) = mnS (fun q => if O q = 1 ∧ LB q = (lb : Int) then (1 : Int) else 0) (fx w) (w : Int) i := hT 0 (by omega)
    have t1 : TD (p9 * 7 + 1) = mnS (fun q => if O q = 1 ∧ LB q = (lb : Int) then (1 : Int) else 0) (fy w) (h : Int) i := hT 1 (by omega)
    have t2 : TD (p9 * 7 + 2) = mxS (fun q => if O q = 1 ∧ LB q = (lb : Int) then (1 : Int) else 0) (fx w) (-1) i := hT 2 (by omega)
    have t3 : TD (p9 * 7 + 3) = mxS (fun q => if O q = 1 ∧ LB q = (lb : Int) then (1 : Int) else 0) (fy w) (-1) i := hT 3 (by omega)
    have t4 : TD (p9 * 7 + 4) = sumN (fun q => if O q = 1 ∧ LB q = (lb : Int) then (1 : Int) else 0) i := hT 4 (by omega)
    have t5 : TD (p9 * 7 + 5) = sumN (fun q => (fun q => if O q = 1 ∧ LB q = (lb : Int) then (1 : Int) else 0) q * fx w q) i := hT 5 (by omega)
    have t6 : TD (p9 * 7 + 6) = sumN (fun q => (fun q => if O q = 1 ∧ LB q = (lb : Int) then (1 : Int) else 0) q * fy w q) i := hT 6 (by omega)
    refine j_iload_n C eX1_tell_78 3 rfl ?_
    refine j_aload_n C eX1_tell_79 0 rfl ?_
    refine j_getf C hwsX1_tell 0 rfl rfl 3 (by decide) kX1_tell_42 rfl rfl eX1_tell_80 ?_
    refine j_icmp_ge C 310 eX1_tell_83 (by decide) (by omega) (by omega) (fun c83 => ?_) (fun c83 => ?_)
    ·
      have he : i = w * h := by omega
      subst he
      exact kx TD hT hB
    ·
      have h5 := hL i (by omega)
      have h6 := hO i (by omega)
      refine j_aload_n C eX1_tell_86 0 rfl ?_
      refine j_getf C hwsX1_tell 0 rfl rfl 5 (by decide) kX1_tell_13 rfl rfl eX1_tell_87 ?_
      refine j_iload_n C eX1_tell_90 3 rfl ?_
      refine j_iald C 2 1 rfl rfl i rfl (by omega) (by omega) eX1_tell_91 ?_
      refine j_iconst C eX1_tell_92 ?_
      refine j_icmp_ne C 304 eX1_tell_93 (by decide) (by omega) (by omega) (fun c93 => ?_) (fun c93 => ?_)
      ·
        refine j_iinc C eX1_tell_304 3 rfl rfl (by decide) (lv' := [(0, .ref (bd 0)), (1, .int (zI (lb : Int))), (2, .int (zI (7 * (p9 : Int)))), (3, .int (zI ((i : Int) + 1)))]) rfl ?_
        refine j_goto C 78 eX1_tell_307 (by decide) ?_
        have hsi : (fun q => if O q = 1 ∧ LB q = (lb : Int) then (1 : Int) else 0) i = 0 := if_neg (by omega)
        refine ih (i + 1) TD (by omega) (by omega) (fun j hj => ?_) hB
        rw [hT j hj]
        have hj2 : j = 0 ∨ j = 1 ∨ j = 2 ∨ j = 3 ∨ j = 4 ∨ j = 5 ∨ j = 6 := by omega
        rcases hj2 with rfl | rfl | rfl | rfl | rfl | rfl | rfl
        · show _ = (if _ then _ else _); rw [if_neg (fun z => by rw [hsi] at z; omega)]; rfl
        · show _ = (if _ then _ else _); rw [if_neg (fun z => by rw [hsi] at z; omega)]; rfl
        · show _ = (if _ then _ else _); rw [if_neg (fun z => by rw [hsi] at z; omega)]; rfl
        · show _ = (if _ then _ else _); rw [if_neg (fun z => by rw [hsi] at z; omega)]; rfl
        · show sumN (fun q => if O q = 1 ∧ LB q = (lb : Int) then (1 : Int) else 0) i = sumN (fun q => if O q = 1 ∧ LB q = (lb : Int) then (1 : Int) else 0) i + (fun q => if O q = 1 ∧ LB q = (lb : Int) then (1 : Int) else 0) i; rw [hsi, Int.add_zero]
        · show sumN (fun q => (fun q => if O q = 1 ∧ LB q = (lb : Int) then (1 : Int) else 0) q * fx w q) i = sumN (fun q => (fun q => if O q = 1 ∧ LB q = (lb : Int) then (1 : Int) else 0) q * fx w q) i + (fun q => if O q = 1 ∧ LB q = (lb : Int) then (1 : Int) else 0) i * fx w i; rw [hsi, Int.zero_mul, Int.add_zero]
        · show sumN (fun q => (fun q => if O q = 1 ∧ LB q = (lb : Int) then (1 : Int) else 0) q * fy w q) i = sumN (fun q => (fun q => if O q = 1 ∧ LB q = (lb : Int) then (1 : Int) else 0) q * fy w q) i + (fun q => if O q = 1 ∧ LB q = (lb : Int) then (1 : Int) else 0) i * fy w i; rw [hsi, Int.zero_mul, Int.add_zero]
      ·
        refine j_aload_n C eX1_tell_96 0 rfl ?_
        refine j_getf C hwsX1_tell 0 rfl rfl 7 (by decide) kX1_tell_19 rfl rfl eX1_tell_97 ?_
        refine j_iload_n C eX1_tell_100 3 rfl ?_
        refine j_iald C 4 1 rfl rfl i rfl (by omega) (by omega) eX1_tell_101 ?_
        refine j_iload_n C eX1_tell_102 1 rfl ?_
        refine j_icmp_ne C 304 eX1_tell_103 (by decide) (by omega) (by omega) (fun c103 => ?_) (fun c103 => ?_)
        ·
          refine j_iinc C eX1_tell_304 3 rfl rfl (by decide) (lv' := [(0, .ref (bd 0)), (1, .int (zI (lb : Int))), (2, .int (zI (7 * (p9 : Int)))), (3, .int (zI ((i : Int) + 1)))]) rfl ?_
          refine j_goto C 78 eX1_tell_307 (by decide) ?_
          have hsi : (fun q => if O q = 1 ∧ LB q = (lb : Int) then (1 : Int) else 0) i = 0 := if_neg (by omega)
          refine ih (i + 1) TD (by omega) (by omega) (fun j hj => ?_) hB
          rw [hT j hj]
          have hj2 : j = 0 ∨ j = 1 ∨ j = 2 ∨ j = 3 ∨ j = 4 ∨ j = 5 ∨ j = 6 := by omega
          rcases hj2 with rfl | rfl | rfl | rfl | rfl | rfl | rfl
          · show _ = (if _ then _ else _); rw [if_neg (fun z => by rw [hsi] at z; omega)]; rfl
          · show _ = (if _ then _ else _); rw [if_neg (fun z => by rw [hsi] at z; omega)]; rfl
          · show _ = (if _ then _ else _); rw [if_neg (fun z => by rw [hsi] at z; omega)]; rfl
          · show _ = (if _ then _ else _); rw [if_neg (fun z => by rw [hsi] at z; omega)]; rfl
          · show sumN (fun q => if O q = 1 ∧ LB q = (lb : Int) then (1 : Int) else 0) i = sumN (fun q => if O q = 1 ∧ LB q = (lb : Int) then (1 : Int) else 0) i + (fun q => if O q = 1 ∧ LB q = (lb : Int) then (1 : Int) else 0) i; rw [hsi, Int.add_zero]
          · show sumN (fun q => (fun q => if O q = 1 ∧ LB q = (lb : Int) then (1 : Int) else 0) q * fx w q) i = sumN (fun q => (fun q => if O q = 1 ∧ LB q = (lb : Int) then (1 : Int) else 0) q * fx w q) i + (fun q => if O q = 1 ∧ LB q = (lb : Int) then (1 : Int) else 0) i * fx w i; rw [hsi, Int.zero_mul, Int.add_zero]
          · show sumN (fun q => (fun q => if O q = 1 ∧ LB q = (lb : Int) then (1 : Int) else 0) q * fy w q) i = sumN (fun q => (fun q => if O q = 1 ∧ LB q = (lb : Int) then (1 : Int) else 0) q * fy w q) i + (fun q => if O q = 1 ∧ LB q = (lb : Int) then (1 : Int) else 0) i * fy w i; rw [hsi, Int.zero_mul, Int.add_zero]
        ·
          have hsi : (fun q => if O q = 1 ∧ LB q = (lb : Int) then (1 : Int) else 0) i = 1 := if_pos ⟨c93, c103⟩
          have bx0 := bx i (by omega)
          have by0 := fy_in (w := w) (h := h) (q := i) h1 h4 (by omega)
          have r0 := mnS_in (s := (fun q => if O q = 1 ∧ LB q = (lb : Int) then (1 : Int) else 0)) (f := fx w) (z := (w : Int)) (n := i) (by omega) (fun k hk => bx k (by omega))
          have r1 := mnS_in (s := (fun q => if O q = 1 ∧ LB q = (lb : Int) then (1 : Int) else 0)) (f := fy w) (z := (h : Int)) (n := i) (by omega) (fun k hk => fy_in h1 h4 (by omega))
          have r2 := mxS_in (s := (fun q => if O q = 1 ∧ LB q = (lb : Int) then (1 : Int) else 0)) (f := fx w) (n := i) (fun k hk => bx k (by omega))
          have r3 := mxS_in (s := (fun q => if O q = 1 ∧ LB q = (lb : Int) then (1 : Int) else 0)) (f := fy w) (n := i) (fun k hk => fy_in h1 h4 (by omega))
          refine j_iload_n C eX1_tell_106 3 rfl ?_
          refine j_aload_n C eX1_tell_107 0 rfl ?_
          refine j_getf C hwsX1_tell 0 rfl rfl 1 (by decide) kX1_tell_35 rfl rfl eX1_tell_108 ?_
          refine j_irem C eX1_tell_111 (by omega) (by omega) ?_
          refine j_top (y := zI (fx w i)) (by rw [tm_nat]) ?_
          refine j_istore C eX1_tell_112 rfl (by decide) (lv' := [(0, .ref (bd 0)), (1, .int (zI (lb : Int))), (2, .int (zI (7 * (p9 : Int)))), (3, .int (zI (i : Int))), (4, .int (zI (fx w i)))]) rfl ?_
          refine j_iload_n C eX1_tell_114 3 rfl ?_
          refine j_aload_n C eX1_tell_115 0 rfl ?_
          refine j_getf C hwsX1_tell 0 rfl rfl 1 (by decide) kX1_tell_35 rfl rfl eX1_tell_116 ?_
          refine j_idiv C eX1_tell_119 (by omega) (by omega) ?_
          refine j_top (y := zI (fy w i)) (by rw [td_nat]) ?_
          refine j_istore C eX1_tell_120 rfl (by decide) (lv' := [(0, .ref (bd 0)), (1, .int (zI (lb : Int))), (2, .int (zI (7 * (p9 : Int)))), (3, .int (zI (i : Int))), (4, .int (zI (fx w i))), (5, .int (zI (fy w i)))]) rfl ?_
          refine j_aload_n C eX1_tell_122 0 rfl ?_
          refine j_getf C hwsX1_tell 0 rfl rfl 10 (by decide) kX1_tell_25 rfl rfl eX1_tell_123 ?_
          refine j_iload_n C eX1_tell_126 2 rfl ?_
          refine j_iload C eX1_tell_127 4 rfl ?_
          refine j_aload_n C eX1_tell_129 0 rfl ?_
          refine j_getf C hwsX1_tell 0 rfl rfl 10 (by decide) kX1_tell_25 rfl rfl eX1_tell_130 ?_
          refine j_iload_n C eX1_tell_133 2 rfl ?_
          refine j_iald C 6 1 rfl rfl (p9 * 7) (by omega) (by omega) (by omega) eX1_tell_134 ?_
          refine j_top (y := zI (mnS (fun q => if O q = 1 ∧ LB q = (lb : Int) then (1 : Int) else 0) (fx w) (w : Int) i)) (by rw [t0]) ?_
          have K149 : J p l e rmX1_tell s m args below meth c Q 6 D vwCl A 149 [(0, .ref (bd 0)), (1, .int (zI (lb : Int))), (2, .int (zI (7 * (p9 : Int)))), (3, .int (zI (i : Int))), (4, .int (zI (fx w i))), (5, .int (zI (fy w i)))] [.int (zI (mnS (fun q => if O q = 1 ∧ LB q = (lb : Int) then (1 : Int) else 0) (fx w) (w : Int) (i + 1))), .int (zI (7 * (p9 : Int))), .ref (bd 10)] (wM cB cI bd w h G O CT LB FS TD PR BY th (p9 : Int) kn cn) 0 0 := by
            refine j_iast C 6 1 rfl rfl (p9 * 7) (by omega) (by omega) (by omega) eX1_tell_149 (wd' := wM cB cI bd w h G O CT LB FS (zup TD (p9 * 7) (mnS (fun q => if O q = 1 ∧ LB q = (lb : Int) then (1 : Int) else 0) (fx w) (w : Int) (i + 1))) PR BY th (p9 : Int) kn cn) rfl ?_
            refine j_aload_n C eX1_tell_150 0 rfl ?_
            refine j_getf C hwsX1_tell 0 rfl rfl 10 (by decide) kX1_tell_25 rfl rfl eX1_tell_151 ?_
            refine j_iload_n C eX1_tell_154 2 rfl ?_
            refine j_iconst C eX1_tell_155 ?_
            refine j_iadd C eX1_tell_156 ?_
            refine j_iload C eX1_tell_157 5 rfl ?_
            refine j_aload_n C eX1_tell_159 0 rfl ?_
            refine j_getf C hwsX1_tell 0 rfl rfl 10 (by decide) kX1_tell_25 rfl rfl eX1_tell_160 ?_
            refine j_iload_n C eX1_tell_163 2 rfl ?_
            refine j_iconst C eX1_tell_164 ?_
            refine j_iadd C eX1_tell_165 ?_
            refine j_iald C 6 1 rfl rfl (p9 * 7 + 1) (by omega) (by omega) (by omega) eX1_tell_166 ?_
            refine j_top (y := zI (mnS (fun q => if O q = 1 ∧ LB q = (lb : Int) then (1 : Int) else 0) (fy w) (h : Int) i)) (by rw [zup_n (by omega), t1]) ?_
            have K183 : J p l e rmX1_tell s m args below meth c Q 6 D vwCl A 183 [(0, .ref (bd 0)), (1, .int (zI (lb : Int))), (2, .int (zI (7 * (p9 : Int)))), (3, .int (zI (i : Int))), (4, .int (zI (fx w i))), (5, .int (zI (fy w i)))] [.int (zI (mnS (fun q => if O q = 1 ∧ LB q = (lb : Int) then (1 : Int) else 0) (fy w) (h : Int) (i + 1))), .int (zI ((7 * (p9 : Int)) + 1)), .ref (bd 10)] (wM cB cI bd w h G O CT LB FS (zup TD (p9 * 7) (mnS (fun q => if O q = 1 ∧ LB q = (lb : Int) then (1 : Int) else 0) (fx w) (w : Int) (i + 1))) PR BY th (p9 : Int) kn cn) 0 0 := by
              refine j_iast C 6 1 rfl rfl (p9 * 7 + 1) (by omega) (by omega) (by omega) eX1_tell_183 (wd' := wM cB cI bd w h G O CT LB FS (zup (zup TD (p9 * 7) (mnS (fun q => if O q = 1 ∧ LB q = (lb : Int) then (1 : Int) else 0) (fx w) (w : Int) (i + 1))) (p9 * 7 + 1) (mnS (fun q => if O q = 1 ∧ LB q = (lb : Int) then (1 : Int) else 0) (fy w) (h : Int) (i + 1))) PR BY th (p9 : Int) kn cn) rfl ?_
              refine j_aload_n C eX1_tell_184 0 rfl ?_
              refine j_getf C hwsX1_tell 0 rfl rfl 10 (by decide) kX1_tell_25 rfl rfl eX1_tell_185 ?_
              refine j_iload_n C eX1_tell_188 2 rfl ?_
              refine j_iconst C eX1_tell_189 ?_
              refine j_iadd C eX1_tell_190 ?_
              refine j_iload C eX1_tell_191 4 rfl ?_
              refine j_aload_n C eX1_tell_193 0 rfl ?_
              refine j_getf C hwsX1_tell 0 rfl rfl 10 (by decide) kX1_tell_25 rfl rfl eX1_tell_194 ?_
              refine j_iload_n C eX1_tell_197 2 rfl ?_
              refine j_iconst C eX1_tell_198 ?_
              refine j_iadd C eX1_tell_199 ?_
              refine j_iald C 6 1 rfl rfl (p9 * 7 + 2) (by omega) (by omega) (by omega) eX1_tell_200 ?_
              refine j_top (y := zI (mxS (fun q => if O q = 1 ∧ LB q = (lb : Int) then (1 : Int) else 0) (fx w) (-1) i)) (by rw [zup_n (by omega), zup_n (by omega), t2]) ?_
              have K217 : J p l e rmX1_tell s m args below meth c Q 6 D vwCl A 217 [(0, .ref (bd 0)), (1, .int (zI (lb : Int))), (2, .int (zI (7 * (p9 : Int)))), (3, .int (zI (i : Int))), (4, .int (zI (fx w i))), (5, .int (zI (fy w i)))] [.int (zI (mxS (fun q => if O q = 1 ∧ LB q = (lb : Int) then (1 : Int) else 0) (fx w) (-1) (i + 1))), .int (zI ((7 * (p9 : Int)) + 2)), .ref (bd 10)] (wM cB cI bd w h G O CT LB FS (zup (zup TD (p9 * 7) (mnS (fun q => if O q = 1 ∧ LB q = (lb : Int) then (1 : Int) else 0) (fx w) (w : Int) (i + 1))) (p9 * 7 + 1) (mnS (fun q => if O q = 1 ∧ LB q = (lb : Int) then (1 : Int) else 0) (fy w) (h : Int) (i + 1))) PR BY th (p9 : Int) kn cn) 0 0 := by
                refine j_iast C 6 1 rfl rfl (p9 * 7 + 2) (by omega) (by omega) (by omega) eX1_tell_217 (wd' := wM cB cI bd w h G O CT LB FS (zup (zup (zup TD (p9 * 7) (mnS (fun q => if O q = 1 ∧ LB q = (lb : Int) then (1 : Int) else 0) (fx w) (w : Int) (i + 1))) (p9 * 7 + 1) (mnS (fun q => if O q = 1 ∧ LB q = (lb : Int) then (1 : Int) else 0) (fy w) (h : Int) (i + 1))) (p9 * 7 + 2) (mxS (fun q => if O q = 1 ∧ LB q = (lb : Int) then (1 : Int) else 0) (fx w) (-1) (i + 1))) PR BY th (p9 : Int) kn cn) rfl ?_
                refine j_aload_n C eX1_tell_218 0 rfl ?_
                refine j_getf C hwsX1_tell 0 rfl rfl 10 (by decide) kX1_tell_25 rfl rfl eX1_tell_219 ?_
                refine j_iload_n C eX1_tell_222 2 rfl ?_
                refine j_iconst C eX1_tell_223 ?_
                refine j_iadd C eX1_tell_224 ?_
                refine j_iload C eX1_tell_225 5 rfl ?_
                refine j_aload_n C eX1_tell_227 0 rfl ?_
                refine j_getf C hwsX1_tell 0 rfl rfl 10 (by decide) kX1_tell_25 rfl rfl eX1_tell_228 ?_
                refine j_iload_n C eX1_tell_231 2 rfl ?_
                refine j_iconst C eX1_tell_232 ?_
                refine j_iadd C eX1_tell_233 ?_
                refine j_iald C 6 1 rfl rfl (p9 * 7 + 3) (by omega) (by omega) (by omega) eX1_tell_234 ?_
                refine j_top (y := zI (mxS (fun q => if O q = 1 ∧ LB q = (lb : Int) then (1 : Int) else 0) (fy w) (-1) i)) (by rw [zup_n (by omega), zup_n (by omega), zup_n (by omega), t3]) ?_
                have K251 : J p l e rmX1_tell s m args below meth c Q 6 D vwCl A 251 [(0, .ref (bd 0)), (1, .int (zI (lb : Int))), (2, .int (zI (7 * (p9 : Int)))), (3, .int (zI (i : Int))), (4, .int (zI (fx w i))), (5, .int (zI (fy w i)))] [.int (zI (mxS (fun q => if O q = 1 ∧ LB q = (lb : Int) then (1 : Int) else 0) (fy w) (-1) (i + 1))), .int (zI ((7 * (p9 : Int)) + 3)), .ref (bd 10)] (wM cB cI bd w h G O CT LB FS (zup (zup (zup TD (p9 * 7) (mnS (fun q => if O q = 1 ∧ LB q = (lb : Int) then (1 : Int) else 0) (fx w) (w : Int) (i + 1))) (p9 * 7 + 1) (mnS (fun q => if O q = 1 ∧ LB q = (lb : Int) then (1 : Int) else 0) (fy w) (h : Int) (i + 1))) (p9 * 7 + 2) (mxS (fun q => if O q = 1 ∧ LB q = (lb : Int) then (1 : Int) else 0) (fx w) (-1) (i + 1))) PR BY th (p9 : Int) kn cn) 0 0 := by
                  refine j_iast C 6 1 rfl rfl (p9 * 7 + 3) (by omega) (by omega) (by omega) eX1_tell_251 (wd' := wM cB cI bd w h G O CT LB FS (zup (zup (zup (zup TD (p9 * 7) (mnS (fun q => if O q = 1 ∧ LB q = (lb : Int) then (1 : Int) else 0) (fx w) (w : Int) (i + 1))) (p9 * 7 + 1) (mnS (fun q => if O q = 1 ∧ LB q = (lb : Int) then (1 : Int) else 0) (fy w) (h : Int) (i + 1))) (p9 * 7 + 2) (mxS (fun q => if O q = 1 ∧ LB q = (lb : Int) then (1 : Int) else 0) (fx w) (-1) (i + 1))) (p9 * 7 + 3) (mxS (fun q => if O q = 1 ∧ LB q = (lb : Int) then (1 : Int) else 0) (fy w) (-1) (i + 1))) PR BY th (p9 : Int) kn cn) rfl ?_
                  refine j_aload_n C eX1_tell_252 0 rfl ?_
                  refine j_getf C hwsX1_tell 0 rfl rfl 10 (by decide) kX1_tell_25 rfl rfl eX1_tell_253 ?_
                  refine j_iload_n C eX1_tell_256 2 rfl ?_
                  refine j_iconst C eX1_tell_257 ?_
                  refine j_iadd C eX1_tell_258 ?_
                  refine j_dup2 C eX1_tell_259 rfl rfl ?_
                  refine j_iald C 6 1 rfl rfl (p9 * 7 + 4) (by omega) (by omega) (by omega) eX1_tell_260 ?_
                  refine j_top (y := zI (sumN (fun q => if O q = 1 ∧ LB q = (lb : Int) then (1 : Int) else 0) i)) (by rw [zup_n (by omega), zup_n (by omega), zup_n (by omega), zup_n (by omega), t4]) ?_
                  refine j_iconst C eX1_tell_261 ?_
                  refine j_iadd C eX1_tell_262 ?_
                  refine j_iast C 6 1 rfl rfl (p9 * 7 + 4) (by omega) (by omega) (by omega) eX1_tell_263 (wd' := wM cB cI bd w h G O CT LB FS (zup (zup (zup (zup (zup TD (p9 * 7) (mnS (fun q => if O q = 1 ∧ LB q = (lb : Int) then (1 : Int) else 0) (fx w) (w : Int) (i + 1))) (p9 * 7 + 1) (mnS (fun q => if O q = 1 ∧ LB q = (lb : Int) then (1 : Int) else 0) (fy w) (h : Int) (i + 1))) (p9 * 7 + 2) (mxS (fun q => if O q = 1 ∧ LB q = (lb : Int) then (1 : Int) else 0) (fx w) (-1) (i + 1))) (p9 * 7 + 3) (mxS (fun q => if O q = 1 ∧ LB q = (lb : Int) then (1 : Int) else 0) (fy w) (-1) (i + 1))) (p9 * 7 + 4) ((sumN (fun q => if O q = 1 ∧ LB q = (lb : Int) then (1 : Int) else 0) i) + 1)) PR BY th (p9 : Int) kn cn) rfl ?_
                  refine j_aload_n C eX1_tell_264 0 rfl ?_
                  refine j_getf C hwsX1_tell 0 rfl rfl 10 (by decide) kX1_tell_25 rfl rfl eX1_tell_265 ?_
                  refine j_iload_n C eX1_tell_268 2 rfl ?_
                  refine j_iconst C eX1_tell_269 ?_
                  refine j_iadd C eX1_tell_270 ?_
                  refine j_aload_n C eX1_tell_271 0 rfl ?_
                  refine j_getf C hwsX1_tell 0 rfl rfl 10 (by decide) kX1_tell_25 rfl rfl eX1_tell_272 ?_
                  refine j_iload_n C eX1_tell_275 2 rfl ?_
                  refine j_iconst C eX1_tell_276 ?_
                  refine j_iadd C eX1_tell_277 ?_
                  refine j_iald C 6 1 rfl rfl (p9 * 7 + 5) (by omega) (by omega) (by omega) eX1_tell_278 ?_
                  refine j_top (y := zI (sumN (fun q => (fun q => if O q = 1 ∧ LB q = (lb : Int) then (1 : Int) else 0) q * fx w q) i)) (by rw [zup_n (by omega), zup_n (by omega), zup_n (by omega), zup_n (by omega), zup_n (by omega), t5]) ?_
                  refine j_iload C eX1_tell_279 4 rfl ?_
                  refine j_iadd C eX1_tell_281 ?_
                  refine j_iast C 6 1 rfl rfl (p9 * 7 + 5) (by omega) (by omega) (by omega) eX1_tell_282 (wd' := wM cB cI bd w h G O CT LB FS (zup (zup (zup (zup (zup (zup TD (p9 * 7) (mnS (fun q => if O q = 1 ∧ LB q = (lb : Int) then (1 : Int) else 0) (fx w) (w : Int) (i + 1))) (p9 * 7 + 1) (mnS (fun q => if O q = 1 ∧ LB q = (lb : Int) then (1 : Int) else 0) (fy w) (h : Int) (i + 1))) (p9 * 7 + 2) (mxS (fun q => if O q = 1 ∧ LB q = (lb : Int) then (1 : Int) else 0) (fx w) (-1) (i + 1))) (p9 * 7 + 3) (mxS (fun q => if O q = 1 ∧ LB q = (lb : Int) then (1 : Int) else 0) (fy w) (-1) (i + 1))) (p9 * 7 + 4) ((sumN (fun q => if O q = 1 ∧ LB q = (lb : Int) then (1 : Int) else 0) i) + 1)) (p9 * 7 + 5) ((sumN (fun q => (fun q => if O q = 1 ∧ LB q = (lb : Int) then (1 : Int) else 0) q * fx w q) i) + (fx w i))) PR BY th (p9 : Int) kn cn) rfl ?_
                  refine j_aload_n C eX1_tell_283 0 rfl ?_
                  refine j_getf C hwsX1_tell 0 rfl rfl 10 (by decide) kX1_tell_25 rfl rfl eX1_tell_284 ?_
                  refine j_iload_n C eX1_tell_287 2 rfl ?_
                  refine j_bipush C eX1_tell_288 (by decide +kernel) ?_
                  refine j_iadd C eX1_tell_290 ?_
                  refine j_aload_n C eX1_tell_291 0 rfl ?_
                  refine j_getf C hwsX1_tell 0 rfl rfl 10 (by decide) kX1_tell_25 rfl rfl eX1_tell_292 ?_
                  refine j_iload_n C eX1_tell_295 2 rfl ?_
                  refine j_bipush C eX1_tell_296 (by decide +kernel) ?_
                  refine j_iadd C eX1_tell_298 ?_
                  refine j_iald C 6 1 rfl rfl (p9 * 7 + 6) (by omega) (by omega) (by omega) eX1_tell_299 ?_
                  refine j_top (y := zI (sumN (fun q => (fun q => if O q = 1 ∧ LB q = (lb : Int) then (1 : Int) else 0) q * fy w q) i)) (by rw [zup_n (by omega), zup_n (by omega), zup_n (by omega), zup_n (by omega), zup_n (by omega), zup_n (by omega), t6]) ?_
                  refine j_iload C eX1_tell_300 5 rfl ?_
                  refine j_iadd C eX1_tell_302 ?_
                  refine j_iast C 6 1 rfl rfl (p9 * 7 + 6) (by omega) (by omega) (by omega) eX1_tell_303 (wd' := wM cB cI bd w h G O CT LB FS (zup (zup (zup (zup (zup (zup (zup TD (p9 * 7) (mnS (fun q => if O q = 1 ∧ LB q = (lb : Int) then (1 : Int) else 0) (fx w) (w : Int) (i + 1))) (p9 * 7 + 1) (mnS (fun q => if O q = 1 ∧ LB q = (lb : Int) then (1 : Int) else 0) (fy w) (h : Int) (i + 1))) (p9 * 7 + 2) (mxS (fun q => if O q = 1 ∧ LB q = (lb : Int) then (1 : Int) else 0) (fx w) (-1) (i + 1))) (p9 * 7 + 3) (mxS (fun q => if O q = 1 ∧ LB q = (lb : Int) then (1 : Int) else 0) (fy w) (-1) (i + 1))) (p9 * 7 + 4) ((sumN (fun q => if O q = 1 ∧ LB q = (lb : Int) then (1 : Int) else 0) i) + 1)) (p9 * 7 + 5) ((sumN (fun q => (fun q => if O q = 1 ∧ LB q = (lb : Int) then (1 : Int) else 0) q * fx w q) i) + (fx w i))) (p9 * 7 + 6) ((sumN (fun q => (fun q => if O q = 1 ∧ LB q = (lb : Int) then (1 : Int) else 0) q * fy w q) i) + (fy w i))) PR BY th (p9 : Int) kn cn) rfl ?_
                  refine j_iinc C eX1_tell_304 3 rfl rfl (by decide) (lv' := [(0, .ref (bd 0)), (1, .int (zI (lb : Int))), (2, .int (zI (7 * (p9 : Int)))), (3, .int (zI ((i : Int) + 1))), (4, .int (zI (fx w i))), (5, .int (zI (fy w i)))]) rfl ?_
                  refine j_goto C 78 eX1_tell_307 (by decide) ?_
                  refine j_loc [0, 1, 2, 3] (lv' := [(0, .ref (bd 0)), (1, .int (zI (lb : Int))), (2, .int (zI (7 * (p9 : Int)))), (3, .int (zI ((i : Int) + 1)))]) rfl ?_
                  refine ih (i + 1) _ (by omega) (by omega) (fun j hj => ?_) (fun i hi => by rw [zup_n (by omega), zup_n (by omega), zup_n (by omega), zup_n (by omega), zup_n (by omega), zup_n (by omega), zup_n (by omega)]; exact hB i hi)
                  have hj2 : j = 0 ∨ j = 1 ∨ j = 2 ∨ j = 3 ∨ j = 4 ∨ j = 5 ∨ j = 6 := by omega
                  rcases hj2 with rfl | rfl | rfl | rfl | rfl | rfl | rfl
                  · rw [zup_n (by omega), zup_n (by omega), zup_n (by omega), zup_n (by omega), zup_n (by omega), zup_n (by omega)]; exact zup_s
                  · rw [zup_n (by omega), zup_n (by omega), zup_n (by omega), zup_n (by omega), zup_n (by omega)]; exact zup_s
                  · rw [zup_n (by omega), zup_n (by omega), zup_n (by omega), zup_n (by omega)]; exact zup_s
                  · rw [zup_n (by omega), zup_n (by omega), zup_n (by omega)]; exact zup_s
                  · rw [zup_n (by omega), zup_n (by omega), zup_s]; show _ = sumN (fun q => if O q = 1 ∧ LB q = (lb : Int) then (1 : Int) else 0) i + (fun q => if O q = 1 ∧ LB q = (lb : Int) then (1 : Int) else 0) i; rw [hsi]
                  · rw [zup_n (by omega), zup_s]; show _ = sumN (fun q => (fun q => if O q = 1 ∧ LB q = (lb : Int) then (1 : Int) else 0) q * fx w q) i + (fun q => if O q = 1 ∧ LB q = (lb : Int) then (1 : Int) else 0) i * fx w i; rw [hsi, Int.one_mul]
                  · rw [zup_s]; show _ = sumN (fun q => (fun q => if O q = 1 ∧ LB q = (lb : Int) then (1 : Int) else 0) q * fy w q) i + (fun q => if O q = 1 ∧ LB q = (lb : Int) then (1 : Int) else 0) i * fy w i; rw [hsi, Int.one_mul]
                refine j_icmp_le C 243 eX1_tell_235 (by decide) (by omega) (by omega) (fun c235 => ?_) (fun c235 => ?_)
                ·
                  refine j_aload_n C eX1_tell_243 0 rfl ?_
                  refine j_getf C hwsX1_tell 0 rfl rfl 10 (by decide) kX1_tell_25 rfl rfl eX1_tell_244 ?_
                  refine j_iload_n C eX1_tell_247 2 rfl ?_
                  refine j_iconst C eX1_tell_248 ?_
                  refine j_iadd C eX1_tell_249 ?_
                  refine j_iald C 6 1 rfl rfl (p9 * 7 + 3) (by omega) (by omega) (by omega) eX1_tell_250 ?_
                  refine j_top (y := zI (mxS (fun q => if O q = 1 ∧ LB q = (lb : Int) then (1 : Int) else 0) (fy w) (-1) (i + 1))) (by rw [zup_n (by omega), zup_n (by omega), zup_n (by omega), t3]; rw [show mxS (fun q => if O q = 1 ∧ LB q = (lb : Int) then (1 : Int) else 0) (fy w) (-1) (i + 1) = mxS (fun q => if O q = 1 ∧ LB q = (lb : Int) then (1 : Int) else 0) (fy w) (-1) i from if_neg (fun z => absurd z.2 (by omega))]) ?_
                  exact K251
                ·
                  refine j_iload C eX1_tell_238 5 rfl ?_
                  refine j_goto C 251 eX1_tell_240 (by decide) ?_
                  refine j_top (y := zI (mxS (fun q => if O q = 1 ∧ LB q = (lb : Int) then (1 : Int) else 0) (fy w) (-1) (i + 1))) (by rw [show mxS (fun q => if O q = 1 ∧ LB q = (lb : Int) then (1 : Int) else 0) (fy w) (-1) (i + 1) = fy w i from if_pos ⟨hsi, by omega⟩]) ?_
                  exact K251
              refine j_icmp_le C 209 eX1_tell_201 (by decide) (by omega) (by omega) (fun c201 => ?_) (fun c201 => ?_)
              ·
                refine j_aload_n C eX1_tell_209 0 rfl ?_
                refine j_getf C hwsX1_tell 0 rfl rfl 10 (by decide) kX1_tell_25 rfl rfl eX1_tell_210 ?_
                refine j_iload_n C eX1_tell_213 2 rfl ?_
                refine j_iconst C eX1_tell_214 ?_
                refine j_iadd C eX1_tell_215 ?_
                refine j_iald C 6 1 rfl rfl (p9 * 7 + 2) (by omega) (by omega) (by omega) eX1_tell_216 ?_
                refine j_top (y := zI (mxS (fun q => if O q = 1 ∧ LB q = (lb : Int) then (1 : Int) else 0) (fx w) (-1) (i + 1))) (by rw [zup_n (by omega), zup_n (by omega), t2]; rw [show mxS (fun q => if O q = 1 ∧ LB q = (lb : Int) then (1 : Int) else 0) (fx w) (-1) (i + 1) = mxS (fun q => if O q = 1 ∧ LB q = (lb : Int) then (1 : Int) else 0) (fx w) (-1) i from if_neg (fun z => absurd z.2 (by omega))]) ?_
                exact K217
              ·
                refine j_iload C eX1_tell_204 4 rfl ?_
                refine j_goto C 217 eX1_tell_206 (by decide) ?_
                refine j_top (y := zI (mxS (fun q => if O q = 1 ∧ LB q = (lb : Int) then (1 : Int) else 0) (fx w) (-1) (i + 1))) (by rw [show mxS (fun q => if O q = 1 ∧ LB q = (lb : Int) then (1 : Int) else 0) (fx w) (-1) (i + 1) = fx w i from if_pos ⟨hsi, by omega⟩]) ?_
                exact K217
            refine j_icmp_ge C 175 eX1_tell_167 (by decide) (by omega) (by omega) (fun c167 => ?_) (fun c167 => ?_)
            ·
              refine j_aload_n C eX1_tell_175 0 rfl ?_
              refine j_getf C hwsX1_tell 0 rfl rfl 10 (by decide) kX1_tell_25 rfl rfl eX1_tell_176 ?_
              refine j_iload_n C eX1_tell_179 2 rfl ?_
              refine j_iconst C eX1_tell_180 ?_
              refine j_iadd C eX1_tell_181 ?_
              refine j_iald C 6 1 rfl rfl (p9 * 7 + 1) (by omega) (by omega) (by omega) eX1_tell_182 ?_
              refine j_top (y := zI (mnS (fun q => if O q = 1 ∧ LB q = (lb : Int) then (1 : Int) else 0) (fy w) (h : Int) (i + 1))) (by rw [zup_n (by omega), t1]; rw [show mnS (fun q => if O q = 1 ∧ LB q = (lb : Int) then (1 : Int) else 0) (fy w) (h : Int) (i + 1) = mnS (fun q => if O q = 1 ∧ LB q = (lb : Int) then (1 : Int) else 0) (fy w) (h : Int) i from if_neg (fun z => absurd z.2 (by omega))]) ?_
              exact K183
            ·
              refine j_iload C eX1_tell_170 5 rfl ?_
              refine j_goto C 183 eX1_tell_172 (by decide) ?_
              refine j_top (y := zI (mnS (fun q => if O q = 1 ∧ LB q = (lb : Int) then (1 : Int) else 0) (fy w) (h : Int) (i + 1))) (by rw [show mnS (fun q => if O q = 1 ∧ LB q = (lb : Int) then (1 : Int) else 0) (fy w) (h : Int) (i + 1) = fy w i from if_pos ⟨hsi, by omega⟩]) ?_
              exact K183
          refine j_icmp_ge C 143 eX1_tell_135 (by decide) (by omega) (by omega) (fun c135 => ?_) (fun c135 => ?_)
          ·
            refine j_aload_n C eX1_tell_143 0 rfl ?_
            refine j_getf C hwsX1_tell 0 rfl rfl 10 (by decide) kX1_tell_25 rfl rfl eX1_tell_144 ?_
            refine j_iload_n C eX1_tell_147 2 rfl ?_
            refine j_iald C 6 1 rfl rfl (p9 * 7) (by omega) (by omega) (by omega) eX1_tell_148 ?_
            refine j_top (y := zI (mnS (fun q => if O q = 1 ∧ LB q = (lb : Int) then (1 : Int) else 0) (fx w) (w : Int) (i + 1))) (by rw [t0]; rw [show mnS (fun q => if O q = 1 ∧ LB q = (lb : Int) then (1 : Int) else 0) (fx w) (w : Int) (i + 1) = mnS (fun q => if O q = 1 ∧ LB q = (lb : Int) then (1 : Int) else 0) (fx w) (w : Int) i from if_neg (fun z => absurd z.2 (by omega))]) ?_
            exact K149
          ·
            refine j_iload C eX1_tell_138 4 rfl ?_
            refine j_goto C 149 eX1_tell_140 (by decide) ?_
            refine j_top (y := zI (mnS (fun q => if O q = 1 ∧ LB q = (lb : Int) then (1 : Int) else 0) (fx w) (w : Int) (i + 1))) (by rw [show mnS (fun q => if O q = 1 ∧ LB q = (lb : Int) then (1 : Int) else 0) (fx w) (w : Int) (i + 1) = fx w i from if_pos ⟨hsi, by omega⟩]) ?_
            exact K149
set_option maxHeartbeats 4000000 in
set_option maxRecDepth 100000 in
theorem ctX1_tell (l : Launch) (D : va_G) (cB cI cZ cL : ClassId) (bd : Nat → Nat) (w h : Nat) (hs : Sz w h) (G O CT LB FS TD PR BY : Nat → Int) (th kn cn : Int) (lb p9 : Nat) (hlb : lb ≤ 2304) (hp9 : p9 < 2304) (hL : ∀ q, q < w * h → 0 ≤ LB q ∧ LB q ≤ 2304) (hO : ∀ q, q < w * h → O q = 0 ∨ O q = 1) : mV l yX1_tell wsX1_tell rmX1_tell D vwCl (tyl cB cI cZ cL) [.ref (bd 0), .int (zI (lb : Int))] (wM cB cI bd w h G O CT LB FS TD PR BY th (p9 : Int) kn cn) 0 0 (fun w1 => ∃ TD' : Nat → Int, (∀ j, j < 7 → TD' (p9 * 7 + j) = fac w h (w * h) (fun q => if O q = 1 ∧ LB q = (lb : Int) then (1 : Int) else 0) j) ∧ (∀ i, i < p9 * 7 → TD' i = TD i) ∧ w1 = wM cB cI bd w h G O CT LB FS TD' PR BY th (p9 : Int) kn cn) := by
  refine mV_of (own := RX1) rfl (by decide) rfl (Nat.le_of_ble_eq_true rfl) ?_
  intro p e s m args below meth c C hr hlocks hname
  show J p l e rmX1_tell s m args below meth c _ 6 D vwCl _ 0 [(0, .ref (bd 0)), (1, .int (zI (lb : Int)))] [] (wM cB cI bd w h G O CT LB FS TD PR BY th (p9 : Int) kn cn) 0 0
  refine j_bipush C eX1_tell_0 (by decide +kernel) ?_
  refine j_aload_n C eX1_tell_2 0 rfl ?_
  refine j_getf C hwsX1_tell 0 rfl rfl 8 (by decide) kX1_tell_75 rfl rfl eX1_tell_3 ?_
  refine j_imul C eX1_tell_6 ?_
  refine j_istore_n C eX1_tell_7 rfl (by decide) (lv' := [(0, .ref (bd 0)), (1, .int (zI (lb : Int))), (2, .int (zI (7 * (p9 : Int))))]) rfl ?_
  refine j_aload_n C eX1_tell_8 0 rfl ?_
  refine j_getf C hwsX1_tell 0 rfl rfl 10 (by decide) kX1_tell_25 rfl rfl eX1_tell_9 ?_
  refine j_iload_n C eX1_tell_12 2 rfl ?_
  refine j_aload_n C eX1_tell_13 0 rfl ?_
  refine j_getf C hwsX1_tell 0 rfl rfl 1 (by decide) kX1_tell_35 rfl rfl eX1_tell_14 ?_
  refine j_iast C 6 1 rfl rfl (p9 * 7) (by omega) (by omega) (by omega) eX1_tell_17 (wd' := wM cB cI bd w h G O CT LB FS (zup TD (p9 * 7) (w : Int)) PR BY th (p9 : Int) kn cn) rfl ?_
  refine j_aload_n C eX1_tell_18 0 rfl ?_
  refine j_getf C hwsX1_tell 0 rfl rfl 10 (by decide) kX1_tell_25 rfl rfl eX1_tell_19 ?_
  refine j_iload_n C eX1_tell_22 2 rfl ?_
  refine j_iconst C eX1_tell_23 ?_
  refine j_iadd C eX1_tell_24 ?_
  refine j_aload_n C eX1_tell_25 0 rfl ?_
  refine j_getf C hwsX1_tell 0 rfl rfl 2 (by decide) kX1_tell_39 rfl rfl eX1_tell_26 ?_
  refine j_iast C 6 1 rfl rfl (p9 * 7 + 1) (by omega) (by omega) (by omega) eX1_tell_29 (wd' := wM cB cI bd w h G O CT LB FS (zup (zup TD (p9 * 7) (w : Int)) (p9 * 7 + 1) (h : Int)) PR BY th (p9 : Int) kn cn) rfl ?_
  refine j_aload_n C eX1_tell_30 0 rfl ?_
  refine j_getf C hwsX1_tell 0 rfl rfl 10 (by decide) kX1_tell_25 rfl rfl eX1_tell_31 ?_
  refine j_iload_n C eX1_tell_34 2 rfl ?_
  refine j_iconst C eX1_tell_35 ?_
  refine j_iadd C eX1_tell_36 ?_
  refine j_iconst C eX1_tell_37 ?_
  refine j_iast C 6 1 rfl rfl (p9 * 7 + 2) (by omega) (by omega) (by omega) eX1_tell_38 (wd' := wM cB cI bd w h G O CT LB FS (zup (zup (zup TD (p9 * 7) (w : Int)) (p9 * 7 + 1) (h : Int)) (p9 * 7 + 2) (-1)) PR BY th (p9 : Int) kn cn) rfl ?_
  refine j_aload_n C eX1_tell_39 0 rfl ?_
  refine j_getf C hwsX1_tell 0 rfl rfl 10 (by decide) kX1_tell_25 rfl rfl eX1_tell_40 ?_
  refine j_iload_n C eX1_tell_43 2 rfl ?_
  refine j_iconst C eX1_tell_44 ?_
  refine j_iadd C eX1_tell_45 ?_
  refine j_iconst C eX1_tell_46 ?_
  refine j_iast C 6 1 rfl rfl (p9 * 7 + 3) (by omega) (by omega) (by omega) eX1_tell_47 (wd' := wM cB cI bd w h G O CT LB FS (zup (zup (zup (zup TD (p9 * 7) (w : Int)) (p9 * 7 + 1) (h : Int)) (p9 * 7 + 2) (-1)) (p9 * 7 + 3) (-1)) PR BY th (p9 : Int) kn cn) rfl ?_
  refine j_aload_n C eX1_tell_48 0 rfl ?_
  refine j_getf C hwsX1_tell 0 rfl rfl 10 (by decide) kX1_tell_25 rfl rfl eX1_tell_49 ?_
  refine j_iload_n C eX1_tell_52 2 rfl ?_
  refine j_iconst C eX1_tell_53 ?_
  refine j_iadd C eX1_tell_54 ?_
  refine j_iconst C eX1_tell_55 ?_
  refine j_iast C 6 1 rfl rfl (p9 * 7 + 4) (by omega) (by omega) (by omega) eX1_tell_56 (wd' := wM cB cI bd w h G O CT LB FS (zup (zup (zup (zup (zup TD (p9 * 7) (w : Int)) (p9 * 7 + 1) (h : Int)) (p9 * 7 + 2) (-1)) (p9 * 7 + 3) (-1)) (p9 * 7 + 4) 0) PR BY th (p9 : Int) kn cn) rfl ?_
  refine j_aload_n C eX1_tell_57 0 rfl ?_
  refine j_getf C hwsX1_tell 0 rfl rfl 10 (by decide) kX1_tell_25 rfl rfl eX1_tell_58 ?_
  refine j_iload_n C eX1_tell_61 2 rfl ?_
  refine j_iconst C eX1_tell_62 ?_
  refine j_iadd C eX1_tell_63 ?_
  refine j_iconst C eX1_tell_64 ?_
  refine j_iast C 6 1 rfl rfl (p9 * 7 + 5) (by omega) (by omega) (by omega) eX1_tell_65 (wd' := wM cB cI bd w h G O CT LB FS (zup (zup (zup (zup (zup (zup TD (p9 * 7) (w : Int)) (p9 * 7 + 1) (h : Int)) (p9 * 7 + 2) (-1)) (p9 * 7 + 3) (-1)) (p9 * 7 + 4) 0) (p9 * 7 + 5) 0) PR BY th (p9 : Int) kn cn) rfl ?_
  refine j_aload_n C eX1_tell_66 0 rfl ?_
  refine j_getf C hwsX1_tell 0 rfl rfl 10 (by decide) kX1_tell_25 rfl rfl eX1_tell_67 ?_
  refine j_iload_n C eX1_tell_70 2 rfl ?_
  refine j_bipush C eX1_tell_71 (by decide +kernel) ?_
  refine j_iadd C eX1_tell_73 ?_
  refine j_iconst C eX1_tell_74 ?_
  refine j_iast C 6 1 rfl rfl (p9 * 7 + 6) (by omega) (by omega) (by omega) eX1_tell_75 (wd' := wM cB cI bd w h G O CT LB FS (zup (zup (zup (zup (zup (zup (zup TD (p9 * 7) (w : Int)) (p9 * 7 + 1) (h : Int)) (p9 * 7 + 2) (-1)) (p9 * 7 + 3) (-1)) (p9 * 7 + 4) 0) (p9 * 7 + 5) 0) (p9 * 7 + 6) 0) PR BY th (p9 : Int) kn cn) rfl ?_
  refine j_iconst C eX1_tell_76 ?_
  refine j_istore_n C eX1_tell_77 rfl (by decide) (lv' := [(0, .ref (bd 0)), (1, .int (zI (lb : Int))), (2, .int (zI (7 * (p9 : Int)))), (3, .int (zI 0))]) rfl ?_
  refine lpX1_tell C hs (T0 := TD) hlb hp9 hL hO (fun TD' hT' hB' => ?_) (w * h + 1) 0 _ (by omega) (by omega) (fun j hj => ?_) (fun i hi => by rw [zup_n (by omega), zup_n (by omega), zup_n (by omega), zup_n (by omega), zup_n (by omega), zup_n (by omega), zup_n (by omega)])
  · exact j_vret C hr hlocks eX1_tell_310 ⟨TD', hT', hB', rfl⟩
  · have hj2 : j = 0 ∨ j = 1 ∨ j = 2 ∨ j = 3 ∨ j = 4 ∨ j = 5 ∨ j = 6 := by omega
    rcases hj2 with rfl | rfl | rfl | rfl | rfl | rfl | rfl
    · rw [zup_n (by omega), zup_n (by omega), zup_n (by omega), zup_n (by omega), zup_n (by omega), zup_n (by omega)]; exact zup_s
    · rw [zup_n (by omega), zup_n (by omega), zup_n (by omega), zup_n (by omega), zup_n (by omega)]; exact zup_s
    · rw [zup_n (by omega), zup_n (by omega), zup_n (by omega), zup_n (by omega)]; exact zup_s
    · rw [zup_n (by omega), zup_n (by omega), zup_n (by omega)]; exact zup_s
    · rw [zup_n (by omega), zup_n (by omega)]; exact zup_s
    · rw [zup_n (by omega)]; exact zup_s
    · exact zup_s
