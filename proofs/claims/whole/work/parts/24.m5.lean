/-! THE REFERENCE: parts by labels -/
/-- each label is a place of the same part, not behind -/
def lbl (w n : Nat) (D LB : Nat → Int) : Prop := ∀ k, k < n → ∃ q : Nat, LB k = (q : Int) ∧ q ≤ k ∧ (D k = 1 → D q = 1 ∧ con w n D k q)
theorem lbl_0 {w n : Nat} {D LB : Nat → Int} (h : ∀ k, k < n → LB k = (k : Int)) : lbl w n D LB := fun k hk => ⟨k, h k hk, Nat.le_refl _, fun hd => ⟨hd, con_refl k⟩⟩
theorem lbl_in {w n : Nat} {D LB : Nat → Int} (h : lbl w n D LB) (hn : n ≤ 2304) : ∀ q, q < n → 0 ≤ LB q ∧ LB q ≤ 2304 := fun q hq => by
  obtain ⟨a, a1, a2, a3⟩ := h q hq
  omega
theorem lbl_put {w n : Nat} {D LB : Nat → Int} {k : Nat} {v : Int} (h : lbl w n D LB) (hk : k < n) (hd : D k = 1) (hv : v ≤ LB k) (hL : isL w n D LB k v) : lbl w n D (zup LB k v) := by
  intro j hj
  by_cases e : j = k
  · subst e
    rw [zup_s]
    rcases hL with z | ⟨q, q1, q2, q3, q4⟩
    · rw [z]; exact h j hj
    · obtain ⟨a, a1, a2, a3⟩ := h q q1
      obtain ⟨b, b1, b2, b3⟩ := h j hj
      refine ⟨a, by omega, by omega, fun _ => ⟨(a3 q3).1, con_trans (con_step (con_refl j) hj q1 hd q3 q2) (a3 q3).2⟩⟩
  · rw [zup_n e]; exact h j hj
def stb (w n : Nat) (D LB : Nat → Int) (m : Nat) : Prop := ∀ k, k < m → k < n → D k = 1 → ∀ q, q < n → D q = 1 → adj w k q → LB k ≤ LB q
theorem lbl_con {w n : Nat} {D LB : Nat → Int} (hs : stb w n D LB n) {k q : Nat} (hc : con w n D k q) : LB q = LB k := by
  refine hc (fun a => LB a = LB k) rfl (fun a b ha l1 l2 d1 d2 hab => ?_)
  have h1 := hs a l1 l1 d1 b l2 d2 hab
  have h2 := hs b l2 l2 d2 a l1 d1 (adj_symm hab)
  have ha : LB a = LB k := ha
  show LB b = LB k
  omega
theorem lbl_eq {w n : Nat} {D LB : Nat → Int} (h : lbl w n D LB) (hs : stb w n D LB n) {k q : Nat} (hk : k < n) (hq : q < n) (dk : D k = 1) (dq : D q = 1) (e : LB q = LB k) : con w n D k q := by
  obtain ⟨a, a1, a2, a3⟩ := h k hk
  obtain ⟨b, b1, b2, b3⟩ := h q hq
  have : a = b := by omega
  subst this
  exact con_trans (a3 dk).2 (con_symm (b3 dq).2)
theorem lbl_fst {w n : Nat} {D LB : Nat → Int} (h : lbl w n D LB) (hs : stb w n D LB n) {k : Nat} (hk : k < n) : fstp w n D k ↔ D k = 1 ∧ LB k = (k : Int) := by
  obtain ⟨a, a1, a2, a3⟩ := h k hk
  constructor
  · rintro ⟨z1, z2⟩
    refine ⟨z1, ?_⟩
    rcases Nat.lt_or_ge a k with c | c
    · have h1 := z2 a c
      have h2 : cmp w n D k a = 1 := ind_1 (a3 z1)
      omega
    · omega
  · rintro ⟨z1, z2⟩
    refine ⟨z1, fun j hj => ind_0 (fun z => ?_)⟩
    have h1 := lbl_con hs z.2
    obtain ⟨b, b1, b2, b3⟩ := h j (by omega)
    omega
theorem lbl_cmp {w n : Nat} {D LB : Nat → Int} (h : lbl w n D LB) (hs : stb w n D LB n) {k q : Nat} (hk : k < n) (hq : q < n) (dk : D k = 1) (e : LB k = (k : Int)) : (if D q = 1 ∧ LB q = (k : Int) then (1 : Int) else 0) = cmp w n D k q := by
  by_cases c : D q = 1 ∧ LB q = (k : Int)
  · rw [if_pos c]
    exact (ind_1 ⟨c.1, lbl_eq h hs hk hq dk c.1 (by omega)⟩).symm
  · rw [if_neg c]
    refine (ind_0 (fun z => c ⟨z.1, ?_⟩)).symm
    have := lbl_con hs z.2
    omega
theorem cnb_le (w n : Nat) (D : Nat → Int) : ∀ q, cnb w n D q ≤ q
  | 0 => Nat.le_refl _
  | q + 1 => by
    have := cnb_le w n D q
    by_cases b : big w n D q
    · rw [cnb_y b]; omega
    · rw [cnb_n b]; omega
theorem zup_id (g : Nat → Int) (k : Nat) : zup g k (g k) = g := by
  funext j
  by_cases e : j = k
  · subst e; exact zup_s
  · exact zup_n e
theorem isL_D {w n : Nat} {O D LB : Nat → Int} {k : Nat} {v : Int} (hO : ∀ q, q < n → O q = D q) (h : isL w n O LB k v) : isL w n D LB k v := by
  rcases h with z | ⟨q, q1, q2, q3, q4⟩
  · exact Or.inl z
  · exact Or.inr ⟨q, q1, q2, by rw [← hO q q1]; exact q3, q4⟩
theorem hwsX1_parts : ∀ w ∈ u_ws RX1 TX1 15, w ∈ wsX1_parts := fun _ h => List.mem_cons_of_mem _ (List.mem_append_right _ h)
theorem kX1_parts_13 : Cond.fieldLink RX1 13 "SheetRowsModel" (TX1 5).2.1 (TX1 5).2.2.1 ∈ wsX1_parts := by decide +kernel
theorem kX1_parts_19 : Cond.fieldLink RX1 19 "SheetRowsModel" (TX1 7).2.1 (TX1 7).2.2.1 ∈ wsX1_parts := by decide +kernel
theorem kX1_parts_42 : Cond.fieldLink RX1 42 "SheetRowsModel" (TX1 3).2.1 (TX1 3).2.2.1 ∈ wsX1_parts := by decide +kernel
theorem kX1_parts_45 : Cond.fieldLink RX1 45 "SheetRowsModel" (TX1 0).2.1 (TX1 0).2.2.1 ∈ wsX1_parts := by decide +kernel
theorem kX1_parts_75 : Cond.fieldLink RX1 75 "SheetRowsModel" (TX1 8).2.1 (TX1 8).2.2.1 ∈ wsX1_parts := by decide +kernel
abbrev rmX1_parts : Room := { frames := 3, cells := 0, slots := 0, locals := 75 }
set_option maxHeartbeats 4000000 in
set_option maxRecDepth 100000 in
theorem lqX1_parts {p : Program} {l : Launch} {e : Env} {s : State} {m : MethodId} {args : Array Value} {below : List Frame} {meth : Method} {c : Code} {Q : State → Prop} {D : va_G} {A : Nat → Prop} {cB cI cZ cL : ClassId} {w h : Nat} {bd : Nat → Nat} {G O CT FS TD PR BY : Nat → Int} {th pn kn cn : Int} (C : JC p m c cX1_parts 5 s args wsX1_parts RX1 D vwCl (tyl cB cI cZ cL) A) (hs : Sz w h) (kx : ∀ LB : Nat → Int, (∀ k, k < w * h → LB k = (k : Int)) → J p l e rmX1_parts s m args below meth c Q 5 D vwCl A 32 [(0, .ref (bd 0)), (1, .int (zI ((w * h) : Int)))] [] (wM cB cI bd w h G O CT LB FS TD PR BY th pn kn cn) 0 0) : ∀ (n i : Nat) (LB : Nat → Int), i ≤ w * h → w * h - i < n → (∀ k, k < i → LB k = (k : Int)) → J p l e rmX1_parts s m args below meth c Q 5 D vwCl A 11 [(0, .ref (bd 0)), (1, .int (zI (i : Int)))] [] (wM cB cI bd w h G O CT LB FS TD PR BY th pn kn cn) 0 0 := by
  have hm := hs.mul
  intro n
  induction n with
  | zero => intro i LB _ hn; exact absurd hn (Nat.not_lt_zero _)
  | succ n ih =>
    intro i LB hi hn hL
    refine j_iload_n C eX1_parts_11 1 rfl ?_
    refine j_aload_n C eX1_parts_12 0 rfl ?_
    refine j_getf C hwsX1_parts 0 rfl rfl 3 (by decide) kX1_parts_42 rfl rfl eX1_parts_13 ?_
    refine j_icmp_ge C 32 eX1_parts_16 (by decide) (by omega) (by omega) (fun c16 => ?_) (fun c16 => ?_)
    ·
      have he : i = w * h := by omega
      subst he
      exact kx LB hL
    ·
      refine j_aload_n C eX1_parts_19 0 rfl ?_
      refine j_getf C hwsX1_parts 0 rfl rfl 7 (by decide) kX1_parts_19 rfl rfl eX1_parts_20 ?_
      refine j_iload_n C eX1_parts_23 1 rfl ?_
      refine j_iload_n C eX1_parts_24 1 rfl ?_
      refine j_iast C 4 1 rfl rfl i rfl (by omega) (by omega) eX1_parts_25 (wd' := wM cB cI bd w h G O CT (zup LB i (i : Int)) FS TD PR BY th pn kn cn) rfl ?_
      refine j_iinc C eX1_parts_26 1 rfl rfl (by decide) (lv' := [(0, .ref (bd 0)), (1, .int (zI ((i : Int) + 1)))]) rfl ?_
      refine j_goto C 11 eX1_parts_29 (by decide) ?_
      exact ih (i + 1) _ (by omega) (by omega) (fun v hv => by
        by_cases e : v = i
        · subst e; exact zup_s
        · rw [zup_n e]; exact hL v (by omega))
def swp (w n : Nat) (Dd L0 LB : Nat → Int) (mo : Int) (i : Nat) : Prop := (mo = 0 ∧ LB = L0 ∧ stb w n Dd LB i) ∨ (mo = 1 ∧ sumN LB n < sumN L0 n)
set_option maxHeartbeats 4000000 in
set_option maxRecDepth 100000 in
theorem lrX1_parts {p : Program} {l : Launch} {e : Env} {s : State} {m : MethodId} {args : Array Value} {below : List Frame} {meth : Method} {c : Code} {Q : State → Prop} {D : va_G} {A : Nat → Prop} {cB cI cZ cL : ClassId} {w h : Nat} {bd : Nat → Nat} {G O CT FS TD PR BY : Nat → Int} {th pn kn cn : Int} (C : JC p m c cX1_parts 5 s args wsX1_parts RX1 D vwCl (tyl cB cI cZ cL) A) (hs : Sz w h) {Dd : Nat → Int} (hD : ∀ q, q < w * h → O q = Dd q) (h01 : ∀ q, q < w * h → O q = 0 ∨ O q = 1) {L0 : Nat → Int} (kx : ∀ (LB : Nat → Int) (mo : Int), lbl w (w * h) Dd LB → swp w (w * h) Dd L0 LB mo (2 * (w * h)) → J p l e rmX1_parts s m args below meth c Q 5 D vwCl A 136 [(0, .ref (bd 0)), (1, .int (zI mo)), (2, .int (zI ((2 * (w * h)) : Int)))] [] (wM cB cI bd w h G O CT LB FS TD PR BY th pn kn cn) 0 0) : ∀ (n i : Nat) (LB : Nat → Int) (mo : Int), i ≤ 2 * (w * h) → 2 * (w * h) - i < n → lbl w (w * h) Dd LB → swp w (w * h) Dd L0 LB mo i → J p l e rmX1_parts s m args below meth c Q 5 D vwCl A 42 [(0, .ref (bd 0)), (1, .int (zI mo)), (2, .int (zI (i : Int)))] [] (wM cB cI bd w h G O CT LB FS TD PR BY th pn kn cn) 0 0 := by
  have hm := hs.mul
  intro n
  induction n with
  | zero => intro i LB mo _ hn; exact absurd hn (Nat.not_lt_zero _)
  | succ n ih =>
    intro i LB mo hi hn hL hS
    have hmo : mo = 0 ∨ mo = 1 := by
      rcases hS with z | z
      · exact Or.inl z.1
      · exact Or.inr z.1
    have hLi := lbl_in hL (by omega)
    refine j_iload_n C eX1_parts_42 2 rfl ?_
    refine j_iconst C eX1_parts_43 ?_
    refine j_aload_n C eX1_parts_44 0 rfl ?_
    refine j_getf C hwsX1_parts 0 rfl rfl 3 (by decide) kX1_parts_42 rfl rfl eX1_parts_45 ?_
    refine j_imul C eX1_parts_48 ?_
    refine j_icmp_ge C 136 eX1_parts_49 (by decide) (by omega) (by omega) (fun c49 => ?_) (fun c49 => ?_)
    ·
      have he : i = 2 * (w * h) := by omega
      subst he
      exact kx LB mo hL hS
    ·
      refine j_iload_n C eX1_parts_52 2 rfl ?_
      refine j_aload_n C eX1_parts_53 0 rfl ?_
      refine j_getf C hwsX1_parts 0 rfl rfl 3 (by decide) kX1_parts_42 rfl rfl eX1_parts_54 ?_
      refine j_icmp_ge C 64 eX1_parts_57 (by decide) (by omega) (by omega) (fun c57 => ?_) (fun c57 => ?_)
      ·
        refine j_iconst C eX1_parts_64 ?_
        refine j_aload_n C eX1_parts_65 0 rfl ?_
        refine j_getf C hwsX1_parts 0 rfl rfl 3 (by decide) kX1_parts_42 rfl rfl eX1_parts_66 ?_
        refine j_imul C eX1_parts_69 ?_
        refine j_iconst C eX1_parts_70 ?_
        refine j_isub C eX1_parts_71 ?_
        refine j_iload_n C eX1_parts_72 2 rfl ?_
        refine j_isub C eX1_parts_73 ?_
        obtain ⟨a, ha⟩ : ∃ a : Nat, ((2 * ((w * h : Nat) : Int)) - 1) - (i : Int) = (a : Int) := ⟨(((2 * ((w * h : Nat) : Int)) - 1) - (i : Int)).toNat, by omega⟩
        have hal : a < w * h := by omega
        have hoa := h01 a hal
        have hla := hLi a hal
        have hai : i < w * h → a = i := fun z => by omega
        refine j_top (y := zI (a : Int)) (by rw [ha]) ?_
        refine j_istore_n C eX1_parts_74 rfl (by decide) (lv' := [(0, .ref (bd 0)), (1, .int (zI mo)), (2, .int (zI (i : Int))), (3, .int (zI (a : Int)))]) rfl ?_
        refine j_aload_n C eX1_parts_75 0 rfl ?_
        refine j_getf C hwsX1_parts 0 rfl rfl 5 (by decide) kX1_parts_13 rfl rfl eX1_parts_76 ?_
        refine j_iload_n C eX1_parts_79 3 rfl ?_
        refine j_iald C 2 1 rfl rfl a rfl (by omega) (by omega) eX1_parts_80 ?_
        refine j_iconst C eX1_parts_81 ?_
        refine j_icmp_ne C 93 eX1_parts_82 (by decide) (by omega) (by omega) (fun c82 => ?_) (fun c82 => ?_)
        ·
          refine j_aload_n C eX1_parts_93 0 rfl ?_
          refine j_getf C hwsX1_parts 0 rfl rfl 7 (by decide) kX1_parts_19 rfl rfl eX1_parts_94 ?_
          refine j_iload_n C eX1_parts_97 3 rfl ?_
          refine j_iald C 4 1 rfl rfl a rfl (by omega) (by omega) eX1_parts_98 ?_
          refine j_istore C eX1_parts_99 rfl (by decide) (lv' := [(0, .ref (bd 0)), (1, .int (zI mo)), (2, .int (zI (i : Int))), (3, .int (zI (a : Int))), (4, .int (zI (LB a)))]) rfl ?_
          refine j_iload_n C eX1_parts_101 1 rfl ?_
          refine j_if_ne C 116 eX1_parts_102 (by decide) (by omega) (fun c102 => ?_) (fun c102 => ?_)
          ·
            refine j_iconst C eX1_parts_116 ?_
            refine j_goto C 121 eX1_parts_117 (by decide) ?_
            refine j_istore_n C eX1_parts_121 rfl (by decide) (lv' := [(0, .ref (bd 0)), (1, .int (zI 1)), (2, .int (zI (i : Int))), (3, .int (zI (a : Int))), (4, .int (zI (LB a)))]) rfl ?_
            refine j_aload_n C eX1_parts_122 0 rfl ?_
            refine j_getf C hwsX1_parts 0 rfl rfl 7 (by decide) kX1_parts_19 rfl rfl eX1_parts_123 ?_
            refine j_iload_n C eX1_parts_126 3 rfl ?_
            refine j_iload C eX1_parts_127 4 rfl ?_
            refine j_iast C 4 1 rfl rfl a rfl (by omega) (by omega) eX1_parts_129 (wd' := wM cB cI bd w h G O CT (zup LB a (LB a)) FS TD PR BY th pn kn cn) rfl ?_
            refine j_iinc C eX1_parts_130 2 rfl rfl (by decide) (lv' := [(0, .ref (bd 0)), (1, .int (zI 1)), (2, .int (zI ((i : Int) + 1))), (3, .int (zI (a : Int))), (4, .int (zI (LB a)))]) rfl ?_
            refine j_goto C 42 eX1_parts_133 (by decide) ?_
            refine j_loc [0, 1, 2] (lv' := [(0, .ref (bd 0)), (1, .int (zI 1)), (2, .int (zI ((i : Int) + 1)))]) rfl ?_
            refine j_wd (wd' := wM cB cI bd w h G O CT LB FS TD PR BY th pn kn cn) (by rw [zup_id]) ?_
            refine ih (i + 1) LB 1 (by omega) (by omega) hL ?_
            rcases hS with y | y
            · omega
            · exact Or.inr ⟨rfl, y.2⟩
          ·
            refine j_iload C eX1_parts_105 4 rfl ?_
            refine j_aload_n C eX1_parts_107 0 rfl ?_
            refine j_getf C hwsX1_parts 0 rfl rfl 7 (by decide) kX1_parts_19 rfl rfl eX1_parts_108 ?_
            refine j_iload_n C eX1_parts_111 3 rfl ?_
            refine j_iald C 4 1 rfl rfl a rfl (by omega) (by omega) eX1_parts_112 ?_
            refine j_icmp_ge C 120 eX1_parts_113 (by decide) (by omega) (by omega) (fun c113 => ?_) (fun c113 => ?_)
            ·
              refine j_iconst C eX1_parts_120 ?_
              refine j_istore_n C eX1_parts_121 rfl (by decide) (lv' := [(0, .ref (bd 0)), (1, .int (zI 0)), (2, .int (zI (i : Int))), (3, .int (zI (a : Int))), (4, .int (zI (LB a)))]) rfl ?_
              refine j_aload_n C eX1_parts_122 0 rfl ?_
              refine j_getf C hwsX1_parts 0 rfl rfl 7 (by decide) kX1_parts_19 rfl rfl eX1_parts_123 ?_
              refine j_iload_n C eX1_parts_126 3 rfl ?_
              refine j_iload C eX1_parts_127 4 rfl ?_
              refine j_iast C 4 1 rfl rfl a rfl (by omega) (by omega) eX1_parts_129 (wd' := wM cB cI bd w h G O CT (zup LB a (LB a)) FS TD PR BY th pn kn cn) rfl ?_
              refine j_iinc C eX1_parts_130 2 rfl rfl (by decide) (lv' := [(0, .ref (bd 0)), (1, .int (zI 0)), (2, .int (zI ((i : Int) + 1))), (3, .int (zI (a : Int))), (4, .int (zI (LB a)))]) rfl ?_
              refine j_goto C 42 eX1_parts_133 (by decide) ?_
              refine j_loc [0, 1, 2] (lv' := [(0, .ref (bd 0)), (1, .int (zI 0)), (2, .int (zI ((i : Int) + 1)))]) rfl ?_
              refine j_wd (wd' := wM cB cI bd w h G O CT LB FS TD PR BY th pn kn cn) (by rw [zup_id]) ?_
              refine ih (i + 1) LB 0 (by omega) (by omega) hL ?_
              rcases hS with y | y
              · refine Or.inl ⟨rfl, y.2.1, fun k hk hkn dk q hq dq hab => ?_⟩
                by_cases c : k = i
                · have hka : k = a := by rw [c]; exact (hai (by omega)).symm
                  subst hka
                  have := hD k hal
                  omega
                · exact y.2.2 k (by omega) hkn dk q hq dq hab
              · omega
            ·
              refine j_iconst C eX1_parts_116 ?_
              refine j_goto C 121 eX1_parts_117 (by decide) ?_
              refine j_istore_n C eX1_parts_121 rfl (by decide) (lv' := [(0, .ref (bd 0)), (1, .int (zI 1)), (2, .int (zI (i : Int))), (3, .int (zI (a : Int))), (4, .int (zI (LB a)))]) rfl ?_
              refine j_aload_n C eX1_parts_122 0 rfl ?_
              refine j_getf C hwsX1_parts 0 rfl rfl 7 (by decide) kX1_parts_19 rfl rfl eX1_parts_123 ?_
              refine j_iload_n C eX1_parts_126 3 rfl ?_
              refine j_iload C eX1_parts_127 4 rfl ?_
              refine j_iast C 4 1 rfl rfl a rfl (by omega) (by omega) eX1_parts_129 (wd' := wM cB cI bd w h G O CT (zup LB a (LB a)) FS TD PR BY th pn kn cn) rfl ?_
              refine j_iinc C eX1_parts_130 2 rfl rfl (by decide) (lv' := [(0, .ref (bd 0)), (1, .int (zI 1)), (2, .int (zI ((i : Int) + 1))), (3, .int (zI (a : Int))), (4, .int (zI (LB a)))]) rfl ?_
              refine j_goto C 42 eX1_parts_133 (by decide) ?_
              refine j_loc [0, 1, 2] (lv' := [(0, .ref (bd 0)), (1, .int (zI 1)), (2, .int (zI ((i : Int) + 1)))]) rfl ?_
              refine j_wd (wd' := wM cB cI bd w h G O CT LB FS TD PR BY th pn kn cn) (by rw [zup_id]) ?_
              refine ih (i + 1) LB 1 (by omega) (by omega) hL ?_
              rcases hS with y | y
              · omega
              · exact Or.inr ⟨rfl, y.2⟩
        ·
          refine j_aload_n C eX1_parts_85 0 rfl ?_
          refine j_iload_n C eX1_parts_86 3 rfl ?_
          refine j_callVi C (As := [.int (zI (a : Int))]) (rest := []) (ctX1_leastAround l D cB cI cZ cL bd w h hs G O CT LB FS TD PR BY th pn kn cn a hal hLi h01) (cwV 1 C.1.2.2.2.2 gX1_parts_X1_leastAround rfl rfl rfl (by decide +kernel) ⟨Nat.le_of_ble_eq_true rfl, Nat.le_of_ble_eq_true rfl⟩) [0, 1, 2, 3, 4, 5, 6, 7, 8] [] (wr := []) rfl (by decide) rfl (by decide) (by decide) 0 rfl rfl rfl rfl (Nat.le_of_ble_eq_true rfl) eX1_parts_87 ⟨Nat.le_of_ble_eq_true rfl, Nat.le_of_ble_eq_true rfl⟩ (fun z w1 hp => ?_)
          obtain ⟨rfl, z1, z2, z3⟩ := hp
          rw [List.nil_append]
          have z2' := isL_D hD z2
          have zin := isL_in z2 hal hLi
          clear z2
          refine j_goto C 99 eX1_parts_90 (by decide) ?_
          refine j_istore C eX1_parts_99 rfl (by decide) (lv' := [(0, .ref (bd 0)), (1, .int (zI mo)), (2, .int (zI (i : Int))), (3, .int (zI (a : Int))), (4, .int (zI z))]) rfl ?_
          refine j_iload_n C eX1_parts_101 1 rfl ?_
          refine j_if_ne C 116 eX1_parts_102 (by decide) (by omega) (fun c102 => ?_) (fun c102 => ?_)
          ·
            refine j_iconst C eX1_parts_116 ?_
            refine j_goto C 121 eX1_parts_117 (by decide) ?_
            refine j_istore_n C eX1_parts_121 rfl (by decide) (lv' := [(0, .ref (bd 0)), (1, .int (zI 1)), (2, .int (zI (i : Int))), (3, .int (zI (a : Int))), (4, .int (zI z))]) rfl ?_
            refine j_aload_n C eX1_parts_122 0 rfl ?_
            refine j_getf C hwsX1_parts 0 rfl rfl 7 (by decide) kX1_parts_19 rfl rfl eX1_parts_123 ?_
            refine j_iload_n C eX1_parts_126 3 rfl ?_
            refine j_iload C eX1_parts_127 4 rfl ?_
            refine j_iast C 4 1 rfl rfl a rfl (by omega) (by omega) eX1_parts_129 (wd' := wM cB cI bd w h G O CT (zup LB a z) FS TD PR BY th pn kn cn) rfl ?_
            refine j_iinc C eX1_parts_130 2 rfl rfl (by decide) (lv' := [(0, .ref (bd 0)), (1, .int (zI 1)), (2, .int (zI ((i : Int) + 1))), (3, .int (zI (a : Int))), (4, .int (zI z))]) rfl ?_
            refine j_goto C 42 eX1_parts_133 (by decide) ?_
            refine j_loc [0, 1, 2] (lv' := [(0, .ref (bd 0)), (1, .int (zI 1)), (2, .int (zI ((i : Int) + 1)))]) rfl ?_
            have hda : Dd a = 1 := by rw [← hD a hal]; exact c82
            refine ih (i + 1) (zup LB a z) 1 (by omega) (by omega) (lbl_put hL hal hda z1 z2') (Or.inr ⟨rfl, ?_⟩)
            have e5 := sumN_one (f := zup LB a z) (g := LB) hal (fun k _ hne => zup_n hne)
            rw [zup_s] at e5
            rcases hS with y | y
            · rw [← y.2.1]; omega
            · omega
          ·
            refine j_iload C eX1_parts_105 4 rfl ?_
            refine j_aload_n C eX1_parts_107 0 rfl ?_
            refine j_getf C hwsX1_parts 0 rfl rfl 7 (by decide) kX1_parts_19 rfl rfl eX1_parts_108 ?_
            refine j_iload_n C eX1_parts_111 3 rfl ?_
            refine j_iald C 4 1 rfl rfl a rfl (by omega) (by omega) eX1_parts_112 ?_
            refine j_icmp_ge C 120 eX1_parts_113 (by decide) (by omega) (by omega) (fun c113 => ?_) (fun c113 => ?_)
            ·
              refine j_iconst C eX1_parts_120 ?_
              refine j_istore_n C eX1_parts_121 rfl (by decide) (lv' := [(0, .ref (bd 0)), (1, .int (zI 0)), (2, .int (zI (i : Int))), (3, .int (zI (a : Int))), (4, .int (zI z))]) rfl ?_
              refine j_aload_n C eX1_parts_122 0 rfl ?_
              refine j_getf C hwsX1_parts 0 rfl rfl 7 (by decide) kX1_parts_19 rfl rfl eX1_parts_123 ?_
              refine j_iload_n C eX1_parts_126 3 rfl ?_
              refine j_iload C eX1_parts_127 4 rfl ?_
              refine j_iast C 4 1 rfl rfl a rfl (by omega) (by omega) eX1_parts_129 (wd' := wM cB cI bd w h G O CT (zup LB a z) FS TD PR BY th pn kn cn) rfl ?_
              refine j_iinc C eX1_parts_130 2 rfl rfl (by decide) (lv' := [(0, .ref (bd 0)), (1, .int (zI 0)), (2, .int (zI ((i : Int) + 1))), (3, .int (zI (a : Int))), (4, .int (zI z))]) rfl ?_
              refine j_goto C 42 eX1_parts_133 (by decide) ?_
              refine j_loc [0, 1, 2] (lv' := [(0, .ref (bd 0)), (1, .int (zI 0)), (2, .int (zI ((i : Int) + 1)))]) rfl ?_
              have hda : Dd a = 1 := by rw [← hD a hal]; exact c82
              have e6 : z = LB a := by omega
              rw [e6, zup_id]
              refine ih (i + 1) LB 0 (by omega) (by omega) hL ?_
              rcases hS with y | y
              · refine Or.inl ⟨rfl, y.2.1, fun k hk hkn dk q hq dq hab => ?_⟩
                by_cases c : k = i
                · have hka : k = a := by rw [c]; exact (hai (by omega)).symm
                  subst hka
                  have := z3 q hq (by rw [hD q hq]; exact dq) hab
                  omega
                · exact y.2.2 k (by omega) hkn dk q hq dq hab
              · omega
            ·
              refine j_iconst C eX1_parts_116 ?_
              refine j_goto C 121 eX1_parts_117 (by decide) ?_
              refine j_istore_n C eX1_parts_121 rfl (by decide) (lv' := [(0, .ref (bd 0)), (1, .int (zI 1)), (2, .int (zI (i : Int))), (3, .int (zI (a : Int))), (4, .int (zI z))]) rfl ?_
              refine j_aload_n C eX1_parts_122 0 rfl ?_
              refine j_getf C hwsX1_parts 0 rfl rfl 7 (by decide) kX1_parts_19 rfl rfl eX1_parts_123 ?_
              refine j_iload_n C eX1_parts_126 3 rfl ?_
              refine j_iload C eX1_parts_127 4 rfl ?_
              refine j_iast C 4 1 rfl rfl a rfl (by omega) (by omega) eX1_parts_129 (wd' := wM cB cI bd w h G O CT (zup LB a z) FS TD PR BY th pn kn cn) rfl ?_
              refine j_iinc C eX1_parts_130 2 rfl rfl (by decide) (lv' := [(0, .ref (bd 0)), (1, .int (zI 1)), (2, .int (zI ((i : Int) + 1))), (3, .int (zI (a : Int))), (4, .int (zI z))]) rfl ?_
              refine j_goto C 42 eX1_parts_133 (by decide) ?_
              refine j_loc [0, 1, 2] (lv' := [(0, .ref (bd 0)), (1, .int (zI 1)), (2, .int (zI ((i : Int) + 1)))]) rfl ?_
              have hda : Dd a = 1 := by rw [← hD a hal]; exact c82
              refine ih (i + 1) (zup LB a z) 1 (by omega) (by omega) (lbl_put hL hal hda z1 z2') (Or.inr ⟨rfl, ?_⟩)
              have e5 := sumN_one (f := zup LB a z) (g := LB) hal (fun k _ hne => zup_n hne)
              rw [zup_s] at e5
              rcases hS with y | y
              · rw [← y.2.1]; omega
              · omega
      ·
        refine j_iload_n C eX1_parts_60 2 rfl ?_
        refine j_goto C 74 eX1_parts_61 (by decide) ?_
        obtain ⟨a, ha⟩ : ∃ a : Nat, (i : Int) = (a : Int) := ⟨((i : Int)).toNat, by omega⟩
        have hal : a < w * h := by omega
        have hoa := h01 a hal
        have hla := hLi a hal
        have hai : i < w * h → a = i := fun z => by omega
        refine j_top (y := zI (a : Int)) (by rw [ha]) ?_
        refine j_istore_n C eX1_parts_74 rfl (by decide) (lv' := [(0, .ref (bd 0)), (1, .int (zI mo)), (2, .int (zI (i : Int))), (3, .int (zI (a : Int)))]) rfl ?_
        refine j_aload_n C eX1_parts_75 0 rfl ?_
        refine j_getf C hwsX1_parts 0 rfl rfl 5 (by decide) kX1_parts_13 rfl rfl eX1_parts_76 ?_
        refine j_iload_n C eX1_parts_79 3 rfl ?_
        refine j_iald C 2 1 rfl rfl a rfl (by omega) (by omega) eX1_parts_80 ?_
        refine j_iconst C eX1_parts_81 ?_
        refine j_icmp_ne C 93 eX1_parts_82 (by decide) (by omega) (by omega) (fun c82 => ?_) (fun c82 => ?_)
        ·
          refine j_aload_n C eX1_parts_93 0 rfl ?_
          refine j_getf C hwsX1_parts 0 rfl rfl 7 (by decide) kX1_parts_19 rfl rfl eX1_parts_94 ?_
          refine j_iload_n C eX1_parts_97 3 rfl ?_
          refine j_iald C 4 1 rfl rfl a rfl (by omega) (by omega) eX1_parts_98 ?_
          refine j_istore C eX1_parts_99 rfl (by decide) (lv' := [(0, .ref (bd 0)), (1, .int (zI mo)), (2, .int (zI (i : Int))), (3, .int (zI (a : Int))), (4, .int (zI (LB a)))]) rfl ?_
          refine j_iload_n C eX1_parts_101 1 rfl ?_
          refine j_if_ne C 116 eX1_parts_102 (by decide) (by omega) (fun c102 => ?_) (fun c102 => ?_)
          ·
            refine j_iconst C eX1_parts_116 ?_
            refine j_goto C 121 eX1_parts_117 (by decide) ?_
            refine j_istore_n C eX1_parts_121 rfl (by decide) (lv' := [(0, .ref (bd 0)), (1, .int (zI 1)), (2, .int (zI (i : Int))), (3, .int (zI (a : Int))), (4, .int (zI (LB a)))]) rfl ?_
            refine j_aload_n C eX1_parts_122 0 rfl ?_
            refine j_getf C hwsX1_parts 0 rfl rfl 7 (by decide) kX1_parts_19 rfl rfl eX1_parts_123 ?_
            refine j_iload_n C eX1_parts_126 3 rfl ?_
            refine j_iload C eX1_parts_127 4 rfl ?_
            refine j_iast C 4 1 rfl rfl a rfl (by omega) (by omega) eX1_parts_129 (wd' := wM cB cI bd w h G O CT (zup LB a (LB a)) FS TD PR BY th pn kn cn) rfl ?_
            refine j_iinc C eX1_parts_130 2 rfl rfl (by decide) (lv' := [(0, .ref (bd 0)), (1, .int (zI 1)), (2, .int (zI ((i : Int) + 1))), (3, .int (zI (a : Int))), (4, .int (zI (LB a)))]) rfl ?_
            refine j_goto C 42 eX1_parts_133 (by decide) ?_
            refine j_loc [0, 1, 2] (lv' := [(0, .ref (bd 0)), (1, .int (zI 1)), (2, .int (zI ((i : Int) + 1)))]) rfl ?_
            refine j_wd (wd' := wM cB cI bd w h G O CT LB FS TD PR BY th pn kn cn) (by rw [zup_id]) ?_
            refine ih (i + 1) LB 1 (by omega) (by omega) hL ?_
            rcases hS with y | y
            · omega
            · exact Or.inr ⟨rfl, y.2⟩
          ·
            refine j_iload C eX1_parts_105 4 rfl ?_
            refine j_aload_n C eX1_parts_107 0 rfl ?_
            refine j_getf C hwsX1_parts 0 rfl rfl 7 (by decide) kX1_parts_19 rfl rfl eX1_parts_108 ?_
            refine j_iload_n C eX1_parts_111 3 rfl ?_
            refine j_iald C 4 1 rfl rfl a rfl (by omega) (by omega) eX1_parts_112 ?_
            refine j_icmp_ge C 120 eX1_parts_113 (by decide) (by omega) (by omega) (fun c113 => ?_) (fun c113 => ?_)
            ·
              refine j_iconst C eX1_parts_120 ?_
              refine j_istore_n C eX1_parts_121 rfl (by decide) (lv' := [(0, .ref (bd 0)), (1, .int (zI 0)), (2, .int (zI (i : Int))), (3, .int (zI (a : Int))), (4, .int (zI (LB a)))]) rfl ?_
              refine j_aload_n C eX1_parts_122 0 rfl ?_
              refine j_getf C hwsX1_parts 0 rfl rfl 7 (by decide) kX1_parts_19 rfl rfl eX1_parts_123 ?_
              refine j_iload_n C eX1_parts_126 3 rfl ?_
              refine j_iload C eX1_parts_127 4 rfl ?_
              refine j_iast C 4 1 rfl rfl a rfl (by omega) (by omega) eX1_parts_129 (wd' := wM cB cI bd w h G O CT (zup LB a (LB a)) FS TD PR BY th pn kn cn) rfl ?_
              refine j_iinc C eX1_parts_130 2 rfl rfl (by decide) (lv' := [(0, .ref (bd 0)), (1, .int (zI 0)), (2, .int (zI ((i : Int) + 1))), (3, .int (zI (a : Int))), (4, .int (zI (LB a)))]) rfl ?_
              refine j_goto C 42 eX1_parts_133 (by decide) ?_
              refine j_loc [0, 1, 2] (lv' := [(0, .ref (bd 0)), (1, .int (zI 0)), (2, .int (zI ((i : Int) + 1)))]) rfl ?_
              refine j_wd (wd' := wM cB cI bd w h G O CT LB FS TD PR BY th pn kn cn) (by rw [zup_id]) ?_
              refine ih (i + 1) LB 0 (by omega) (by omega) hL ?_
              rcases hS with y | y
              · refine Or.inl ⟨rfl, y.2.1, fun k hk hkn dk q hq dq hab => ?_⟩
                by_cases c : k = i
                · have hka : k = a := by rw [c]; exact (hai (by omega)).symm
                  subst hka
                  have := hD k hal
                  omega
                · exact y.2.2 k (by omega) hkn dk q hq dq hab
              · omega
            ·
              refine j_iconst C eX1_parts_116 ?_
              refine j_goto C 121 eX1_parts_117 (by decide) ?_
              refine j_istore_n C eX1_parts_121 rfl (by decide) (lv' := [(0, .ref (bd 0)), (1, .int (zI 1)), (2, .int (zI (i : Int))), (3, .int (zI (a : Int))), (4, .int (zI (LB a)))]) rfl ?_
              refine j_aload_n C eX1_parts_122 0 rfl ?_
              refine j_getf C hwsX1_parts 0 rfl rfl 7 (by decide) kX1_parts_19 rfl rfl eX1_parts_123 ?_
              refine j_iload_n C eX1_parts_126 3 rfl ?_
              refine j_iload C eX1_parts_127 4 rfl ?_
              refine j_iast C 4 1 rfl rfl a rfl (by omega) (by omega) eX1_parts_129 (wd' := wM cB cI bd w h G O CT (zup LB a (LB a)) FS TD PR BY th pn kn cn) rfl ?_
              refine j_iinc C eX1_parts_130 2 rfl rfl (by decide) (lv' := [(0, .ref (bd 0)), (1, .int (zI 1)), (2, .int (zI ((i : Int) + 1))), (3, .int (zI (a : Int))), (4, .int (zI (LB a)))]) rfl ?_
              refine j_goto C 42 eX1_parts_133 (by decide) ?_
              refine j_loc [0, 1, 2] (lv' := [(0, .ref (bd 0)), (1, .int (zI 1)), (2, .int (zI ((i : Int) + 1)))]) rfl ?_
              refine j_wd (wd' := wM cB cI bd w h G O CT LB FS TD PR BY th pn kn cn) (by rw [zup_id]) ?_
              refine ih (i + 1) LB 1 (by omega) (by omega) hL ?_
              rcases hS with y | y
              · omega
              · exact Or.inr ⟨rfl, y.2⟩
        ·
          refine j_aload_n C eX1_parts_85 0 rfl ?_
          refine j_iload_n C eX1_parts_86 3 rfl ?_
          refine j_callVi C (As := [.int (zI (a : Int))]) (rest := []) (ctX1_leastAround l D cB cI cZ cL bd w h hs G O CT LB FS TD PR BY th pn kn cn a hal hLi h01) (cwV 1 C.1.2.2.2.2 gX1_parts_X1_leastAround rfl rfl rfl (by decide +kernel) ⟨Nat.le_of_ble_eq_true rfl, Nat.le_of_ble_eq_true rfl⟩) [0, 1, 2, 3, 4, 5, 6, 7, 8] [] (wr := []) rfl (by decide) rfl (by decide) (by decide) 0 rfl rfl rfl rfl (Nat.le_of_ble_eq_true rfl) eX1_parts_87 ⟨Nat.le_of_ble_eq_true rfl, Nat.le_of_ble_eq_true rfl⟩ (fun z w1 hp => ?_)
          obtain ⟨rfl, z1, z2, z3⟩ := hp
          rw [List.nil_append]
          have z2' := isL_D hD z2
          have zin := isL_in z2 hal hLi
          clear z2
          refine j_goto C 99 eX1_parts_90 (by decide) ?_
          refine j_istore C eX1_parts_99 rfl (by decide) (lv' := [(0, .ref (bd 0)), (1, .int (zI mo)), (2, .int (zI (i : Int))), (3, .int (zI (a : Int))), (4, .int (zI z))]) rfl ?_
          refine j_iload_n C eX1_parts_101 1 rfl ?_
          refine j_if_ne C 116 eX1_parts_102 (by decide) (by omega) (fun c102 => ?_) (fun c102 => ?_)
          ·
            refine j_iconst C eX1_parts_116 ?_
            refine j_goto C 121 eX1_parts_117 (by decide) ?_
            refine j_istore_n C eX1_parts_121 rfl (by decide) (lv' := [(0, .ref (bd 0)), (1, .int (zI 1)), (2, .int (zI (i : Int))), (3, .int (zI (a : Int))), (4, .int (zI z))]) rfl ?_
            refine j_aload_n C eX1_parts_122 0 rfl ?_
            refine j_getf C hwsX1_parts 0 rfl rfl 7 (by decide) kX1_parts_19 rfl rfl eX1_parts_123 ?_
            refine j_iload_n C eX1_parts_126 3 rfl ?_
            refine j_iload C eX1_parts_127 4 rfl ?_
            refine j_iast C 4 1 rfl rfl a rfl (by omega) (by omega) eX1_parts_129 (wd' := wM cB cI bd w h G O CT (zup LB a z) FS TD PR BY th pn kn cn) rfl ?_
            refine j_iinc C eX1_parts_130 2 rfl rfl (by decide) (lv' := [(0, .ref (bd 0)), (1, .int (zI 1)), (2, .int (zI ((i : Int) + 1))), (3, .int (zI (a : Int))), (4, .int (zI z))]) rfl ?_
            refine j_goto C 42 eX1_parts_133 (by decide) ?_
            refine j_loc [0, 1, 2] (lv' := [(0, .ref (bd 0)), (1, .int (zI 1)), (2, .int (zI ((i : Int) + 1)))]) rfl ?_
            have hda : Dd a = 1 := by rw [← hD a hal]; exact c82
            refine ih (i + 1) (zup LB a z) 1 (by omega) (by omega) (lbl_put hL hal hda z1 z2') (Or.inr ⟨rfl, ?_⟩)
            have e5 := sumN_one (f := zup LB a z) (g := LB) hal (fun k _ hne => zup_n hne)
            rw [zup_s] at e5
            rcases hS with y | y
            · rw [← y.2.1]; omega
            · omega
          ·
            refine j_iload C eX1_parts_105 4 rfl ?_
            refine j_aload_n C eX1_parts_107 0 rfl ?_
            refine j_getf C hwsX1_parts 0 rfl rfl 7 (by decide) kX1_parts_19 rfl rfl eX1_parts_108 ?_
            refine j_iload_n C eX1_parts_111 3 rfl ?_
            refine j_iald C 4 1 rfl rfl a rfl (by omega) (by omega) eX1_parts_112 ?_
            refine j_icmp_ge C 120 eX1_parts_113 (by decide) (by omega) (by omega) (fun c113 => ?_) (fun c113 => ?_)
            ·
              refine j_iconst C eX1_parts_120 ?_
              refine j_istore_n C eX1_parts_121 rfl (by decide) (lv' := [(0, .ref (bd 0)), (1, .int (zI 0)), (2, .int (zI (i : Int))), (3, .int (zI (a : Int))), (4, .int (zI z))]) rfl ?_
              refine j_aload_n C eX1_parts_122 0 rfl ?_
              refine j_getf C hwsX1_parts 0 rfl rfl 7 (by decide) kX1_parts_19 rfl rfl eX1_parts_123 ?_
              refine j_iload_n C eX1_parts_126 3 rfl ?_
              refine j_iload C eX1_parts_127 4 rfl ?_
              refine j_iast C 4 1 rfl rfl a rfl (by omega) (by omega) eX1_parts_129 (wd' := wM cB cI bd w h G O CT (zup LB a z) FS TD PR BY th pn kn cn) rfl ?_
              refine j_iinc C eX1_parts_130 2 rfl rfl (by decide) (lv' := [(0, .ref (bd 0)), (1, .int (zI 0)), (2, .int (zI ((i : Int) + 1))), (3, .int (zI (a : Int))), (4, .int (zI z))]) rfl ?_
              refine j_goto C 42 eX1_parts_133 (by decide) ?_
              refine j_loc [0, 1, 2] (lv' := [(0, .ref (bd 0)), (1, .int (zI 0)), (2, .int (zI ((i : Int) + 1)))]) rfl ?_
              have hda : Dd a = 1 := by rw [← hD a hal]; exact c82
              have e6 : z = LB a := by omega
              rw [e6, zup_id]
              refine ih (i + 1) LB 0 (by omega) (by omega) hL ?_
              rcases hS with y | y
              · refine Or.inl ⟨rfl, y.2.1, fun k hk hkn dk q hq dq hab => ?_⟩
                by_cases c : k = i
                · have hka : k = a := by rw [c]; exact (hai (by omega)).symm
                  subst hka
                  have := z3 q hq (by rw [hD q hq]; exact dq) hab
                  omega
                · exact y.2.2 k (by omega) hkn dk q hq dq hab
              · omega
            ·
              refine j_iconst C eX1_parts_116 ?_
              refine j_goto C 121 eX1_parts_117 (by decide) ?_
              refine j_istore_n C eX1_parts_121 rfl (by decide) (lv' := [(0, .ref (bd 0)), (1, .int (zI 1)), (2, .int (zI (i : Int))), (3, .int (zI (a : Int))), (4, .int (zI z))]) rfl ?_
              refine j_aload_n C eX1_parts_122 0 rfl ?_
              refine j_getf C hwsX1_parts 0 rfl rfl 7 (by decide) kX1_parts_19 rfl rfl eX1_parts_123 ?_
              refine j_iload_n C eX1_parts_126 3 rfl ?_
              refine j_iload C eX1_parts_127 4 rfl ?_
              refine j_iast C 4 1 rfl rfl a rfl (by omega) (by omega) eX1_parts_129 (wd' := wM cB cI bd w h G O CT (zup LB a z) FS TD PR BY th pn kn cn) rfl ?_
              refine j_iinc C eX1_parts_130 2 rfl rfl (by decide) (lv' := [(0, .ref (bd 0)), (1, .int (zI 1)), (2, .int (zI ((i : Int) + 1))), (3, .int (zI (a : Int))), (4, .int (zI z))]) rfl ?_
              refine j_goto C 42 eX1_parts_133 (by decide) ?_
              refine j_loc [0, 1, 2] (lv' := [(0, .ref (bd 0)), (1, .int (zI 1)), (2, .int (zI ((i : Int) + 1)))]) rfl ?_
              have hda : Dd a = 1 := by rw [← hD a hal]; exact c82
              refine ih (i + 1) (zup LB a z) 1 (by omega) (by omega) (lbl_put hL hal hda z1 z2') (Or.inr ⟨rfl, ?_⟩)
              have e5 := sumN_one (f := zup LB a z) (g := LB) hal (fun k _ hne => zup_n hne)
              rw [zup_s] at e5
              rcases hS with y | y
              · rw [← y.2.1]; omega
              · omega
set_option maxHeartbeats 4000000 in
set_option maxRecDepth 100000 in
theorem lwX1_parts {p : Program} {l : Launch} {e : Env} {s : State} {m : MethodId} {args : Array Value} {below : List Frame} {meth : Method} {c : Code} {Q : State → Prop} {D : va_G} {A : Nat → Prop} {cB cI cZ cL : ClassId} {w h : Nat} {bd : Nat → Nat} {G O CT FS TD PR BY : Nat → Int} {th pn kn cn : Int} (C : JC p m c cX1_parts 5 s args wsX1_parts RX1 D vwCl (tyl cB cI cZ cL) A) (hs : Sz w h) {Dd : Nat → Int} (hD : ∀ q, q < w * h → O q = Dd q) (h01 : ∀ q, q < w * h → O q = 0 ∨ O q = 1) (kx : ∀ LB : Nat → Int, lbl w (w * h) Dd LB → stb w (w * h) Dd LB (w * h) → J p l e rmX1_parts s m args below meth c Q 5 D vwCl A 139 [(0, .ref (bd 0)), (1, .int (zI 0))] [] (wM cB cI bd w h G O CT LB FS TD PR BY th pn kn cn) 0 0) : ∀ (n : Nat) (LB : Nat → Int) (mo : Int), lbl w (w * h) Dd LB → ((mo = 0 ∧ stb w (w * h) Dd LB (w * h) ∧ 0 < n) ∨ (mo = 1 ∧ (sumN LB (w * h)).toNat + 1 < n)) → J p l e rmX1_parts s m args below meth c Q 5 D vwCl A 34 [(0, .ref (bd 0)), (1, .int (zI mo))] [] (wM cB cI bd w h G O CT LB FS TD PR BY th pn kn cn) 0 0 := by
  have hm := hs.mul
  intro n
  induction n with
  | zero => intro LB mo _ hS; omega
  | succ n ih =>
    intro LB mo hL hS
    have hmo : mo = 0 ∨ mo = 1 := by
      rcases hS with z | z
      · exact Or.inl z.1
      · exact Or.inr z.1
    refine j_iload_n C eX1_parts_34 1 rfl ?_
    refine j_if_eq C 139 eX1_parts_35 (by decide) (by omega) (fun c35 => ?_) (fun c35 => ?_)
    ·
      have he : mo = 0 := by omega
      subst he
      rcases hS with z | z
      · exact kx LB hL z.2.1
      · omega
    ·
      refine j_iconst C eX1_parts_38 ?_
      refine j_istore_n C eX1_parts_39 rfl (by decide) (lv' := [(0, .ref (bd 0)), (1, .int (zI 0))]) rfl ?_
      refine j_iconst C eX1_parts_40 ?_
      refine j_istore_n C eX1_parts_41 rfl (by decide) (lv' := [(0, .ref (bd 0)), (1, .int (zI 0)), (2, .int (zI 0))]) rfl ?_
      refine lrX1_parts C hs hD h01 (L0 := LB) (fun LB1 mo1 hL1 hS1 => ?_) (2 * (w * h) + 1) 0 LB 0 (by omega) (by omega) hL (Or.inl ⟨rfl, rfl, fun k hk => absurd hk (Nat.not_lt_zero _)⟩)
      refine j_goto C 34 eX1_parts_136 (by decide) ?_
      refine j_loc [0, 1] (lv' := [(0, .ref (bd 0)), (1, .int (zI mo1))]) rfl ?_
      have hnn := sumN_nn (f := LB1) (n := w * h) (fun k hk => (lbl_in hL1 (by omega) k hk).1)
      have hn9 : (sumN LB (w * h)).toNat + 1 < n + 1 := by
        rcases hS with z | z
        · omega
        · exact z.2
      rcases hS1 with z | z
      · exact ih LB1 mo1 hL1 (Or.inl ⟨z.1, fun k hk hkn => z.2.2 k (by omega) hkn, by omega⟩)
      · exact ih LB1 mo1 hL1 (Or.inr ⟨z.1, by have := z.2; omega⟩)
set_option maxHeartbeats 4000000 in
set_option maxRecDepth 100000 in
theorem lsX1_parts {p : Program} {l : Launch} {e : Env} {s : State} {m : MethodId} {args : Array Value} {below : List Frame} {meth : Method} {c : Code} {Q : State → Prop} {D : va_G} {A : Nat → Prop} {cB cI cZ cL : ClassId} {w h : Nat} {bd : Nat → Nat} {G O CT LB FS PR BY : Nat → Int} {th kn cn : Int} (C : JC p m c cX1_parts 5 s args wsX1_parts RX1 D vwCl (tyl cB cI cZ cL) A) (hs : Sz w h) {Dd : Nat → Int} (hD : ∀ q, q < w * h → O q = Dd q) (h01 : ∀ q, q < w * h → O q = 0 ∨ O q = 1) (hL : lbl w (w * h) Dd LB) (hB : stb w (w * h) Dd LB (w * h)) (kx : ∀ TD : Nat → Int, tdp w h (w * h) Dd (w * h) TD → J p l e rmX1_parts s m args below meth c Q 5 D vwCl A 204 [(0, .ref (bd 0)), (2, .int (zI ((w * h) : Int)))] [] (wM cB cI bd w h G O CT LB FS TD PR BY th ((cnb w (w * h) Dd (w * h) : Nat) : Int) kn cn) 0 0) : ∀ (n k : Nat) (TD : Nat → Int), k ≤ w * h → w * h - k < n → tdp w h (w * h) Dd k TD → J p l e rmX1_parts s m args below meth c Q 5 D vwCl A 146 [(0, .ref (bd 0)), (2, .int (zI (k : Int)))] [] (wM cB cI bd w h G O CT LB FS TD PR BY th ((cnb w (w * h) Dd k : Nat) : Int) kn cn) 0 0 := by
  have hm := hs.mul
  have hLi := lbl_in hL (by omega)
  intro n
  induction n with
  | zero => intro k TD _ hn; exact absurd hn (Nat.not_lt_zero _)
  | succ n ih =>
    intro k TD hk hn hT
    have hcl := cnb_le w (w * h) Dd k
    refine j_iload_n C eX1_parts_146 1 rfl ?_
    refine j_aload_n C eX1_parts_147 0 rfl ?_
    refine j_getf C hwsX1_parts 0 rfl rfl 3 (by decide) kX1_parts_42 rfl rfl eX1_parts_148 ?_
    refine j_icmp_ge C 204 eX1_parts_151 (by decide) (by omega) (by omega) (fun c151 => ?_) (fun c151 => ?_)
    ·
      have he : k = w * h := by omega
      subst he
      exact kx TD hT
    ·
      have h5 := h01 k (by omega)
      have h6 := hLi k (by omega)
      refine j_aload_n C eX1_parts_154 0 rfl ?_
      refine j_getf C hwsX1_parts 0 rfl rfl 5 (by decide) kX1_parts_13 rfl rfl eX1_parts_155 ?_
      refine j_iload_n C eX1_parts_158 1 rfl ?_
      refine j_iald C 2 1 rfl rfl k rfl (by omega) (by omega) eX1_parts_159 ?_
      refine j_iconst C eX1_parts_160 ?_
      refine j_icmp_ne C 198 eX1_parts_161 (by decide) (by omega) (by omega) (fun c161 => ?_) (fun c161 => ?_)
      ·
        refine j_iinc C eX1_parts_198 1 rfl rfl (by decide) (lv' := [(0, .ref (bd 0)), (2, .int (zI ((k : Int) + 1)))]) rfl ?_
        refine j_goto C 146 eX1_parts_201 (by decide) ?_
        have hbig : ¬ big w (w * h) Dd k := fun z => by
          have z1 := (lbl_fst hL hB (by omega)).mp z.1
          have z2 := hD k (by omega)
          have z3 := z.2
          omega
        have hcy := cnb_n hbig
        have hb9 := ih (k + 1) TD (by omega) (by omega) (fun k' hk' hbk j hj => by
          by_cases e : k' = k
          · subst e; exact absurd hbk hbig
          · exact hT k' (by omega) hbk j hj)
        rw [hcy] at hb9
        exact hb9
      ·
        refine j_aload_n C eX1_parts_164 0 rfl ?_
        refine j_getf C hwsX1_parts 0 rfl rfl 7 (by decide) kX1_parts_19 rfl rfl eX1_parts_165 ?_
        refine j_iload_n C eX1_parts_168 1 rfl ?_
        refine j_iald C 4 1 rfl rfl k rfl (by omega) (by omega) eX1_parts_169 ?_
        refine j_iload_n C eX1_parts_170 1 rfl ?_
        refine j_icmp_ne C 198 eX1_parts_171 (by decide) (by omega) (by omega) (fun c171 => ?_) (fun c171 => ?_)
        ·
          refine j_iinc C eX1_parts_198 1 rfl rfl (by decide) (lv' := [(0, .ref (bd 0)), (2, .int (zI ((k : Int) + 1)))]) rfl ?_
          refine j_goto C 146 eX1_parts_201 (by decide) ?_
          have hbig : ¬ big w (w * h) Dd k := fun z => by
            have z1 := (lbl_fst hL hB (by omega)).mp z.1
            have z2 := hD k (by omega)
            have z3 := z.2
            omega
          have hcy := cnb_n hbig
          have hb9 := ih (k + 1) TD (by omega) (by omega) (fun k' hk' hbk j hj => by
            by_cases e : k' = k
            · subst e; exact absurd hbk hbig
            · exact hT k' (by omega) hbk j hj)
          rw [hcy] at hb9
          exact hb9
        ·
          refine j_aload_n C eX1_parts_174 0 rfl ?_
          refine j_iload_n C eX1_parts_175 1 rfl ?_
          have hdk : Dd k = 1 := by rw [← hD k (by omega)]; exact c161
          refine j_callVi C (As := [.int (zI (k : Int))]) (rest := []) (ctX1_sizeOf l D cB cI cZ cL bd w h hs G O CT LB FS TD PR BY th ((cnb w (w * h) Dd k : Nat) : Int) kn cn k (by omega) hLi h01) (cwV 1 C.1.2.2.2.2 gX1_parts_X1_sizeOf rfl rfl rfl (by decide +kernel) ⟨Nat.le_of_ble_eq_true rfl, Nat.le_of_ble_eq_true rfl⟩) [0, 1, 2, 3, 4, 5, 6, 7, 8] [] (wr := []) rfl (by decide) rfl (by decide) (by decide) 0 rfl rfl rfl rfl (Nat.le_of_ble_eq_true rfl) eX1_parts_176 ⟨Nat.le_of_ble_eq_true rfl, Nat.le_of_ble_eq_true rfl⟩ (fun z w1 hp => ?_)
          obtain ⟨rfl, rfl⟩ := hp
          rw [List.nil_append]
          have hsc : ∀ q, q < w * h → (fun q => if O q = 1 ∧ LB q = (k : Int) then (1 : Int) else 0) q = cmp w (w * h) Dd k q := fun q hq => by
            rw [← lbl_cmp hL hB (by omega) hq hdk c171, ← hD q hq]
          obtain ⟨sz9, hsz⟩ : ∃ sz9 : Int, sz9 = sumN (fun q => if O q = 1 ∧ LB q = (k : Int) then (1 : Int) else 0) (w * h) := ⟨_, rfl⟩
          rw [← hsz]
          have hsz2 : sz9 = sumN (cmp w (w * h) Dd k) (w * h) := by rw [hsz]; exact sumN_congr hsc
          have hszr : 0 ≤ sz9 ∧ sz9 ≤ 2304 := by
            have q1 := sumN_nn (f := (fun q => if O q = 1 ∧ LB q = (k : Int) then (1 : Int) else 0)) (n := w * h) (fun q _ => by by_cases c : O q = 1 ∧ LB q = (k : Int) <;> simp [c])
            have q2 := sumN_le (f := (fun q => if O q = 1 ∧ LB q = (k : Int) then (1 : Int) else 0)) (g := fun _ => 1) (n := w * h) (fun q _ => by by_cases c : O q = 1 ∧ LB q = (k : Int) <;> simp [c])
            rw [sumN_c] at q2
            omega
          refine j_iconst C eX1_parts_179 ?_
          refine j_icmp_le C 198 eX1_parts_180 (by decide) (by omega) (by omega) (fun c180 => ?_) (fun c180 => ?_)
          ·
            refine j_iinc C eX1_parts_198 1 rfl rfl (by decide) (lv' := [(0, .ref (bd 0)), (2, .int (zI ((k : Int) + 1)))]) rfl ?_
            refine j_goto C 146 eX1_parts_201 (by decide) ?_
            have hbig : ¬ big w (w * h) Dd k := fun z => by
              have z1 := (lbl_fst hL hB (by omega)).mp z.1
              have z2 := hD k (by omega)
              have z3 := z.2
              omega
            have hcy := cnb_n hbig
            have hb9 := ih (k + 1) TD (by omega) (by omega) (fun k' hk' hbk j hj => by
              by_cases e : k' = k
              · subst e; exact absurd hbk hbig
              · exact hT k' (by omega) hbk j hj)
            rw [hcy] at hb9
            exact hb9
          ·
            refine j_aload_n C eX1_parts_183 0 rfl ?_
            refine j_iload_n C eX1_parts_184 1 rfl ?_
            refine j_callVv C (As := [.int (zI (k : Int))]) (rest := []) (ctX1_tell l D cB cI cZ cL bd w h hs G O CT LB FS TD PR BY th kn cn k (cnb w (w * h) Dd k) (by omega) (by omega) hLi h01) (cwV 1 C.1.2.2.2.2 gX1_parts_X1_tell rfl rfl rfl (by decide +kernel) ⟨Nat.le_of_ble_eq_true rfl, Nat.le_of_ble_eq_true rfl⟩) [0, 1, 2, 3, 4, 5, 6, 7, 8] [] (wr := []) rfl (by decide) rfl (by decide) (by decide) 0 rfl rfl rfl rfl (Nat.le_of_ble_eq_true rfl) eX1_parts_185 ⟨Nat.le_of_ble_eq_true rfl, Nat.le_of_ble_eq_true rfl⟩ (fun w1 hp => ?_)
            obtain ⟨TD', p1, p2, rfl⟩ := hp
            rw [List.nil_append]
            refine j_aload_n C eX1_parts_188 0 rfl ?_
            refine j_dup C eX1_parts_189 rfl ?_
            refine j_getf C hwsX1_parts 0 rfl rfl 8 (by decide) kX1_parts_75 rfl rfl eX1_parts_190 ?_
            refine j_iconst C eX1_parts_193 ?_
            refine j_iadd C eX1_parts_194 ?_
            refine j_putf C hwsX1_parts tyX1 tyX1_ok nmX1 0 rfl rfl 8 (by decide) kX1_parts_75 rfl rfl (tyX1_ok 8 (by decide)) rfl rfl (Nat.le_of_ble_eq_true rfl) eX1_parts_195 (wd' := wM cB cI bd w h G O CT LB FS TD' PR BY th (((cnb w (w * h) Dd k : Nat) : Int) + 1) kn cn) rfl ?_
            refine j_iinc C eX1_parts_198 1 rfl rfl (by decide) (lv' := [(0, .ref (bd 0)), (2, .int (zI ((k : Int) + 1)))]) rfl ?_
            refine j_goto C 146 eX1_parts_201 (by decide) ?_
            have hbig : big w (w * h) Dd k := ⟨(lbl_fst hL hB (by omega)).mpr ⟨hdk, c171⟩, by omega⟩
            have hcy := cnb_y hbig
            have hb9 := ih (k + 1) TD' (by omega) (by omega) (fun k' hk' hbk j hj => by
              by_cases e : k' = k
              · subst e
                rw [p1 j hj]
                exact fac_congr hsc j
              · have hl := cnb_lt hbk (q := k) (by omega)
                rw [p2 _ (by omega)]
                exact hT k' (by omega) hbk j hj)
            rw [hcy] at hb9
            exact hb9
set_option maxHeartbeats 4000000 in
set_option maxRecDepth 100000 in
theorem ctX1_parts (l : Launch) (D : va_G) (cB cI cZ cL : ClassId) (bd : Nat → Nat) (w h : Nat) (hs : Sz w h) (G O CT LB FS TD PR BY : Nat → Int) (th pn kn cn : Int) (hG : gry (w * h) G) : mI l yX1_parts wsX1_parts rmX1_parts D vwCl (tyl cB cI cZ cL) [.ref (bd 0)] (wM cB cI bd w h G O CT LB FS TD PR BY th pn kn cn) 0 0 (fun z w1 => ∃ CT' O' LB' TD' : Nat → Int, tdp w h (w * h) (dkn G (w * h)) (w * h) TD' ∧ z = ((cnb w (w * h) (dkn G (w * h)) (w * h) : Nat) : Int) ∧ w1 = wM cB cI bd w h G O' CT' LB' FS TD' PR BY 0 ((cnb w (w * h) (dkn G (w * h)) (w * h) : Nat) : Int) kn cn) := by
  refine mI_of (own := RX1) rfl (by decide) rfl (Nat.le_of_ble_eq_true rfl) ?_
  intro p e s m args below meth c C hr hlocks hname
  show J p l e rmX1_parts s m args below meth c _ 5 D vwCl _ 0 [(0, .ref (bd 0))] [] (wM cB cI bd w h G O CT LB FS TD PR BY th pn kn cn) 0 0
  have hm := hs.mul
  refine j_aload_n C eX1_parts_0 0 rfl ?_
  refine j_iconst C eX1_parts_1 ?_
  refine j_putf C hwsX1_parts tyX1 tyX1_ok nmX1 0 rfl rfl 0 (by decide) kX1_parts_45 rfl rfl (tyX1_ok 0 (by decide)) rfl rfl (Nat.le_of_ble_eq_true rfl) eX1_parts_2 (wd' := wM cB cI bd w h G O CT LB FS TD PR BY 0 pn kn cn) rfl ?_
  refine j_aload_n C eX1_parts_5 0 rfl ?_
  refine j_callVv C (As := []) (rest := []) (ctX1_darken l D cB cI cZ cL bd w h hs G O CT LB FS TD PR BY 0 pn kn cn hG) (cwV 0 C.1.2.2.2.2 gX1_parts_X1_darken rfl rfl rfl (by decide +kernel) ⟨Nat.le_of_ble_eq_true rfl, Nat.le_of_ble_eq_true rfl⟩) [0, 1, 2, 3, 4, 5, 6, 7, 8] [] (wr := []) rfl (by decide) rfl (by decide) (by decide) 0 rfl rfl rfl rfl (Nat.le_of_ble_eq_true rfl) eX1_parts_6 ⟨Nat.le_of_ble_eq_true rfl, Nat.le_of_ble_eq_true rfl⟩ (fun w1 hp => ?_)
  obtain ⟨CT1, O1, hO1, rfl⟩ := hp
  rw [List.nil_append]
  have h01 : ∀ q, q < w * h → O1 q = 0 ∨ O1 q = 1 := fun k hk => by rw [hO1 k hk]; exact dkf_01 _ _ _
  have hD : ∀ q, q < w * h → O1 q = (dkn G (w * h)) q := fun q hq => by rw [hO1 q hq, dkn_in hq]
  refine j_iconst C eX1_parts_9 ?_
  refine j_istore_n C eX1_parts_10 rfl (by decide) (lv' := [(0, .ref (bd 0)), (1, .int (zI 0))]) rfl ?_
  refine lqX1_parts C hs (fun LB1 hL1 => ?_) (w * h + 1) 0 LB (by omega) (by omega) (fun k hk => absurd hk (Nat.not_lt_zero _))
  refine j_iconst C eX1_parts_32 ?_
  refine j_istore_n C eX1_parts_33 rfl (by decide) (lv' := [(0, .ref (bd 0)), (1, .int (zI 1))]) rfl ?_
  refine lwX1_parts C hs hD h01 (fun LB2 hL2 hB2 => ?_) ((sumN LB1 (w * h)).toNat + 2) LB1 1 (lbl_0 hL1) (Or.inr ⟨rfl, by omega⟩)
  refine j_aload_n C eX1_parts_139 0 rfl ?_
  refine j_iconst C eX1_parts_140 ?_
  refine j_putf C hwsX1_parts tyX1 tyX1_ok nmX1 0 rfl rfl 8 (by decide) kX1_parts_75 rfl rfl (tyX1_ok 8 (by decide)) rfl rfl (Nat.le_of_ble_eq_true rfl) eX1_parts_141 (wd' := wM cB cI bd w h G O1 CT1 LB2 FS TD PR BY 0 0 kn cn) rfl ?_
  refine j_iconst C eX1_parts_144 ?_
  refine j_istore_n C eX1_parts_145 rfl (by decide) (lv' := [(0, .ref (bd 0)), (1, .int (zI 0)), (2, .int (zI 0))]) rfl ?_
  refine j_loc [0, 2] (lv' := [(0, .ref (bd 0)), (2, .int (zI 0))]) rfl ?_
  refine lsX1_parts C hs hD h01 hL2 hB2 (fun TD' hT' => ?_) (w * h + 1) 0 TD (by omega) (by omega) (fun k hk => absurd hk (Nat.not_lt_zero _))
  refine j_aload_n C eX1_parts_204 0 rfl ?_
  refine j_getf C hwsX1_parts 0 rfl rfl 8 (by decide) kX1_parts_75 rfl rfl eX1_parts_205 ?_
  exact j_iret C hr hlocks rfl eX1_parts_208 ⟨CT1, O1, LB2, TD', hT', rfl, rfl⟩
