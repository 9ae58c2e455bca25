/-! THE CLASS: packed, read back, turned over -/
/-- r like greys from k on, as long as can be up to 255 -/
def isRun (g : Nat → Int) (n k r : Nat) : Prop := 1 ≤ r ∧ r ≤ 255 ∧ k + r ≤ n ∧ (∀ i, k ≤ i → i < k + r → g i = g k) ∧ (r = 255 ∨ k + r = n ∨ g (k + r) ≠ g k)
theorem isRun_le {g : Nat → Int} {n k r r' : Nat} (h : isRun g n k r) (h' : isRun g n k r') : r' ≤ r := by
  rcases Nat.lt_or_ge r r' with q | q
  · obtain ⟨a1, a2, a3, a4, a5⟩ := h
    obtain ⟨b1, b2, b3, b4, b5⟩ := h'
    have := b4 (k + r) (by omega) (by omega)
    rcases a5 with a5 | a5 | a5
    · omega
    · omega
    · exact absurd this a5
  · exact q
theorem isRun_eq {g : Nat → Int} {n k r r' : Nat} (h : isRun g n k r) (h' : isRun g n k r') : r = r' := Nat.le_antisymm (isRun_le h' h) (isRun_le h h')
theorem isRun_congr {g g' : Nat → Int} {n k r : Nat} (e : ∀ i, i < n → g i = g' i) (h : isRun g n k r) : isRun g' n k r := by
  obtain ⟨a1, a2, a3, a4, a5⟩ := h
  refine ⟨a1, a2, a3, fun i h1 h2 => by rw [← e i (by omega), ← e k (by omega)]; exact a4 i h1 h2, ?_⟩
  by_cases c : k + r = n
  · exact Or.inr (Or.inl c)
  · rw [← e (k + r) (by omega), ← e k (by omega)]
    exact a5
/-- the first j pairs of P pack the greys ahead of k -/
def pkd (g : Nat → Int) (n : Nat) (P : Nat → Int) : Nat → Nat → Prop
  | 0, k => k = 0
  | j + 1, k => ∃ k0 r, pkd g n P j k0 ∧ k0 < n ∧ isRun g n k0 r ∧ k = k0 + r ∧ P (2 * j) = Int.bmod (r : Int) 256 ∧ P (2 * j + 1) = Int.bmod (g k0) 256
theorem pkd_keep {g : Nat → Int} {n : Nat} {P P' : Nat → Int} : ∀ {j k : Nat}, (∀ i, i < 2 * j → P i = P' i) → pkd g n P j k → pkd g n P' j k
  | 0, _, _, h => h
  | j + 1, k, e, h => by
    obtain ⟨k0, r, h1, h2, h3, h4, h5, h6⟩ := h
    exact ⟨k0, r, pkd_keep (fun i hi => e i (by omega)) h1, h2, h3, h4, by rw [← e _ (by omega)]; exact h5, by rw [← e _ (by omega)]; exact h6⟩
theorem pkd_le {g : Nat → Int} {n : Nat} {P : Nat → Int} : ∀ {j k : Nat}, pkd g n P j k → j ≤ k ∧ k ≤ n
  | 0, _, h => by have h : _ = 0 := h; omega
  | j + 1, k, h => by
    obtain ⟨k0, r, h1, h2, h3, h4, h5, h6⟩ := h
    have := pkd_le h1
    obtain ⟨a1, a2, a3, a4, a5⟩ := h3
    omega
/-- two packings agree -/
theorem pkd_same {g g' : Nat → Int} {n : Nat} {P P' : Nat → Int} (e : ∀ i, i < n → g i = g' i) : ∀ {j k k' : Nat}, pkd g n P j k → pkd g' n P' j k' → k = k' ∧ ∀ i, i < 2 * j → P i = P' i
  | 0, k, k', h, h' => by
    have h : k = 0 := h
    have h' : k' = 0 := h'
    exact ⟨by omega, fun i hi => by omega⟩
  | j + 1, k, k', h, h' => by
    obtain ⟨k0, r, h1, h2, h3, h4, h5, h6⟩ := h
    obtain ⟨k0', r', h1', h2', h3', h4', h5', h6'⟩ := h'
    obtain ⟨ek, ep⟩ := pkd_same e h1 h1'
    subst ek
    have er := isRun_eq (isRun_congr e h3) h3'
    subst er
    refine ⟨by omega, fun i hi => ?_⟩
    by_cases c1 : i = 2 * j
    · rw [c1, h5, h5']
    · by_cases c2 : i = 2 * j + 1
      · rw [c2, h6, h6', e k0 h2]
      · exact ep i (by omega)
theorem pkd_pre {g : Nat → Int} {n : Nat} {P : Nat → Int} {j : Nat} : ∀ {d k : Nat}, pkd g n P (j + d) k → 0 < d → ∃ k0, pkd g n P j k0 ∧ k0 < n
  | 0, _, _, h => absurd h (Nat.lt_irrefl 0)
  | d + 1, k, h, _ => by
    obtain ⟨k0, r, h1, h2, h3, h4, h5, h6⟩ := h
    by_cases c : d = 0
    · subst c; exact ⟨k0, h1, h2⟩
    · exact pkd_pre h1 (by omega)
theorem pkd_j {g g' : Nat → Int} {n : Nat} {P P' : Nat → Int} (e : ∀ i, i < n → g i = g' i) {j j' : Nat} (h : pkd g n P j n) (h' : pkd g' n P' j' n) : j = j' := by
  have key : ∀ {g g' : Nat → Int} {P P' : Nat → Int} {j j' : Nat}, (∀ i, i < n → g i = g' i) → pkd g n P j n → pkd g' n P' j' n → ¬ j < j' := fun {g g' P P' j j'} e h h' q => by
    obtain ⟨d, rfl⟩ : ∃ d, j' = j + d := ⟨j' - j, by omega⟩
    obtain ⟨k0, a1, a2⟩ := pkd_pre h' (by omega)
    have := (pkd_same e h a1).1
    omega
  rcases Nat.lt_trichotomy j j' with q | q | q
  · exact absurd q (key e h h')
  · exact q
  · exact absurd q (key (fun i hi => (e i hi).symm) h' h)
theorem byt_eq {n : Nat} {G : Nat → Int} (hG : byt n G) {i k : Nat} (hi : i < n) (hk : k < n) : G i % 256 = G k % 256 ↔ G i = G k := by
  have h1 := hG i hi
  have h2 := hG k hk
  omega
theorem byt_bm {n : Nat} {G : Nat → Int} (hG : byt n G) {k : Nat} (hk : k < n) : Int.bmod (G k % 256) 256 = G k := by
  have h1 := hG k hk
  simp only [Int.bmod_def]
  omega
theorem hwsX0_pack : ∀ w ∈ u_ws RX0 TX0 16, w ∈ wsX0_pack := fun _ h => List.mem_cons_of_mem _ (List.mem_append_right _ h)
theorem kX0_pack_25 : Cond.fieldLink RX0 25 "SheetRows" (TX0 2).2.1 (TX0 2).2.2.1 ∈ wsX0_pack := by decide +kernel
theorem kX0_pack_108 : Cond.fieldLink RX0 108 "SheetRows" (TX0 13).2.1 (TX0 13).2.2.1 ∈ wsX0_pack := by decide +kernel
abbrev rmX0_pack : Room := { frames := 1, cells := 0, slots := 0, locals := 22 }
set_option maxHeartbeats 4000000 in
set_option maxRecDepth 100000 in
theorem lpX0_pack {p : Program} {l : Launch} {e : Env} {s : State} {m : MethodId} {args : Array Value} {below : List Frame} {meth : Method} {c : Code} {Q : State → Prop} {D : va_G} {A : Nat → Prop} {cB cI cZ cL : ClassId} {w h : Nat} {ad : Nat → Nat} {aG aS : Nat} {G S CB SB DK DR RE PF CO : Nat → Int} {rc pn cn : Int} (C : JC p m c cX0_pack 3 s args wsX0_pack RX0 D vwCl (tyl cB cI cZ cL) A) (hs : Sz w h) (hG : byt (w * h) G) (kx : ∀ (PK : Nat → Int) (j : Nat), pkd (fun k => G k % 256) (w * h) PK j (w * h) → J p l e rmX0_pack s m args below meth c Q 3 D vwCl A 72 [(0, .ref (ad 0)), (1, .int (zI ((w * h) : Int))), (2, .int (zI ((w * h + 1) : Int)))] [] (wX cB cI cZ ad w h aG aS G S CB SB DK DR RE PF PK CO rc pn ((2 * j : Nat) : Int) cn) 0 0) : ∀ (n j s0 q : Nat) (PK : Nat → Int), w * h + 1 - q < n → pkd (fun k => G k % 256) (w * h) PK j s0 → s0 < q → ((q ≤ w * h ∧ q - s0 ≤ 255 ∧ ∀ i, s0 ≤ i → i < q → G i % 256 = G s0 % 256) ∨ (s0 = w * h ∧ q = w * h + 1)) → J p l e rmX0_pack s m args below meth c Q 3 D vwCl A 9 [(0, .ref (ad 0)), (1, .int (zI (s0 : Int))), (2, .int (zI (q : Int)))] [] (wX cB cI cZ ad w h aG aS G S CB SB DK DR RE PF PK CO rc pn ((2 * j : Nat) : Int) cn) 0 0 := by
  have hm := hs.mul
  intro n
  induction n with
  | zero => intro j s0 q PK hn; exact absurd hn (Nat.not_lt_zero _)
  | succ n ih =>
    intro j s0 q PK hn hP hlt hI
    have hle := pkd_le hP
    refine j_iload_n C eX0_pack_9 2 rfl ?_
    refine j_aload_n C eX0_pack_10 0 rfl ?_
    refine j_getf C hwsX0_pack 0 rfl rfl 2 (by decide) kX0_pack_25 rfl rfl eX0_pack_11 ?_
    refine j_alen C 1 0 rfl rfl eX0_pack_14 ?_
    refine j_icmp_gt C 72 eX0_pack_15 (by decide) (by omega) (by omega) (fun c15 => ?_) (fun c15 => ?_)
    ·
      have he : s0 = w * h ∧ q = w * h + 1 := by omega
      obtain ⟨rfl, rfl⟩ := he
      exact kx PK j hP
    ·
      refine j_iload_n C eX0_pack_18 2 rfl ?_
      refine j_aload_n C eX0_pack_19 0 rfl ?_
      refine j_getf C hwsX0_pack 0 rfl rfl 2 (by decide) kX0_pack_25 rfl rfl eX0_pack_20 ?_
      refine j_alen C 1 0 rfl rfl eX0_pack_23 ?_
      refine j_icmp_eq C 51 eX0_pack_24 (by decide) (by omega) (by omega) (fun c24 => ?_) (fun c24 => ?_)
      ·
        have hq2 : q - s0 ≤ 255 ∧ ∀ i, s0 ≤ i → i < q → G i % 256 = G s0 % 256 := by
          rcases hI with z | z
          · exact z.2
          · omega
        have hsl : s0 < w * h := by omega
        refine j_aload_n C eX0_pack_51 0 rfl ?_
        refine j_iload_n C eX0_pack_52 2 rfl ?_
        refine j_iload_n C eX0_pack_53 1 rfl ?_
        refine j_isub C eX0_pack_54 ?_
        refine j_aload_n C eX0_pack_55 0 rfl ?_
        refine j_getf C hwsX0_pack 0 rfl rfl 2 (by decide) kX0_pack_25 rfl rfl eX0_pack_56 ?_
        refine j_iload_n C eX0_pack_59 1 rfl ?_
        refine j_bald C 1 0 rfl rfl s0 rfl (by omega) (by omega) eX0_pack_60 ?_
        rw [show (q : Int) - (s0 : Int) = ((q - s0 : Nat) : Int) by omega]
        refine j_callVv C (As := [.int (zI ((q - s0 : Nat) : Int)), .int (zI (G s0))]) (rest := []) (ctX0_packStretch l D cB cI cZ cL ad w h hs aG aS G S CB SB DK DR RE PF PK CO rc pn cn (2 * j) (q - s0) (by omega) (by omega) (G s0) (hG s0 hsl)) (cwV 2 C.1.2.2.2.2 gX0_pack_X0_packStretch rfl rfl rfl (by decide +kernel) ⟨Nat.le_of_ble_eq_true rfl, Nat.le_of_ble_eq_true rfl⟩) [0, 1, 2, 3, 4, 5, 6, 7, 8, 9, 10] [] (wr := []) rfl (by decide) rfl (by decide) (by decide) 0 rfl rfl rfl rfl (Nat.le_of_ble_eq_true rfl) eX0_pack_61 ⟨Nat.le_of_ble_eq_true rfl, Nat.le_of_ble_eq_true rfl⟩ (fun w1 hp => ?_)
        subst hp
        rw [List.nil_append]
        refine j_iload_n C eX0_pack_64 2 rfl ?_
        refine j_istore_n C eX0_pack_65 rfl (by decide) (lv' := [(0, .ref (ad 0)), (1, .int (zI (q : Int))), (2, .int (zI (q : Int)))]) rfl ?_
        refine j_iinc C eX0_pack_66 2 rfl rfl (by decide) (lv' := [(0, .ref (ad 0)), (1, .int (zI (q : Int))), (2, .int (zI ((q : Int) + 1)))]) rfl ?_
        refine j_goto C 9 eX0_pack_69 (by decide) ?_
        refine ih (j + 1) q (q + 1) _ (by omega) ?_ (by omega) ?_
        · refine ⟨s0, q - s0, pkd_keep (fun i hi => by rw [zup_n (by omega), zup_n (by omega)]) hP, hsl, ⟨by omega, hq2.1, by omega, fun i h1 h2 => hq2.2 i h1 (by omega), ?_⟩, by omega, by rw [zup_n (by omega), zup_s], by rw [zup_s]; exact (byt_bm hG hsl).symm⟩
          by_cases e1 : q = w * h
          · exact Or.inr (Or.inl (by omega))
          · by_cases e2 : q - s0 = 255
            · exact Or.inl e2
            · refine Or.inr (Or.inr ?_)
              rw [show s0 + (q - s0) = q by omega]
              intro z
              have z2 := (byt_eq hG (i := q) (k := s0) (by omega) hsl).mp z
              omega
        · by_cases e1 : q = w * h
          · exact Or.inr ⟨e1, by omega⟩
          · exact Or.inl ⟨by omega, by omega, fun i h1 h2 => by rw [show i = q by omega]⟩
      ·
        refine j_iload_n C eX0_pack_27 2 rfl ?_
        refine j_iload_n C eX0_pack_28 1 rfl ?_
        refine j_isub C eX0_pack_29 ?_
        refine j_sipush C eX0_pack_30 (by decide +kernel) ?_
        refine j_icmp_eq C 51 eX0_pack_33 (by decide) (by omega) (by omega) (fun c33 => ?_) (fun c33 => ?_)
        ·
          have hq2 : q - s0 ≤ 255 ∧ ∀ i, s0 ≤ i → i < q → G i % 256 = G s0 % 256 := by
            rcases hI with z | z
            · exact z.2
            · omega
          have hsl : s0 < w * h := by omega
          refine j_aload_n C eX0_pack_51 0 rfl ?_
          refine j_iload_n C eX0_pack_52 2 rfl ?_
          refine j_iload_n C eX0_pack_53 1 rfl ?_
          refine j_isub C eX0_pack_54 ?_
          refine j_aload_n C eX0_pack_55 0 rfl ?_
          refine j_getf C hwsX0_pack 0 rfl rfl 2 (by decide) kX0_pack_25 rfl rfl eX0_pack_56 ?_
          refine j_iload_n C eX0_pack_59 1 rfl ?_
          refine j_bald C 1 0 rfl rfl s0 rfl (by omega) (by omega) eX0_pack_60 ?_
          rw [show (q : Int) - (s0 : Int) = ((q - s0 : Nat) : Int) by omega]
          refine j_callVv C (As := [.int (zI ((q - s0 : Nat) : Int)), .int (zI (G s0))]) (rest := []) (ctX0_packStretch l D cB cI cZ cL ad w h hs aG aS G S CB SB DK DR RE PF PK CO rc pn cn (2 * j) (q - s0) (by omega) (by omega) (G s0) (hG s0 hsl)) (cwV 2 C.1.2.2.2.2 gX0_pack_X0_packStretch rfl rfl rfl (by decide +kernel) ⟨Nat.le_of_ble_eq_true rfl, Nat.le_of_ble_eq_true rfl⟩) [0, 1, 2, 3, 4, 5, 6, 7, 8, 9, 10] [] (wr := []) rfl (by decide) rfl (by decide) (by decide) 0 rfl rfl rfl rfl (Nat.le_of_ble_eq_true rfl) eX0_pack_61 ⟨Nat.le_of_ble_eq_true rfl, Nat.le_of_ble_eq_true rfl⟩ (fun w1 hp => ?_)
          subst hp
          rw [List.nil_append]
          refine j_iload_n C eX0_pack_64 2 rfl ?_
          refine j_istore_n C eX0_pack_65 rfl (by decide) (lv' := [(0, .ref (ad 0)), (1, .int (zI (q : Int))), (2, .int (zI (q : Int)))]) rfl ?_
          refine j_iinc C eX0_pack_66 2 rfl rfl (by decide) (lv' := [(0, .ref (ad 0)), (1, .int (zI (q : Int))), (2, .int (zI ((q : Int) + 1)))]) rfl ?_
          refine j_goto C 9 eX0_pack_69 (by decide) ?_
          refine ih (j + 1) q (q + 1) _ (by omega) ?_ (by omega) ?_
          · refine ⟨s0, q - s0, pkd_keep (fun i hi => by rw [zup_n (by omega), zup_n (by omega)]) hP, hsl, ⟨by omega, hq2.1, by omega, fun i h1 h2 => hq2.2 i h1 (by omega), ?_⟩, by omega, by rw [zup_n (by omega), zup_s], by rw [zup_s]; exact (byt_bm hG hsl).symm⟩
            by_cases e1 : q = w * h
            · exact Or.inr (Or.inl (by omega))
            · by_cases e2 : q - s0 = 255
              · exact Or.inl e2
              · refine Or.inr (Or.inr ?_)
                rw [show s0 + (q - s0) = q by omega]
                intro z
                have z2 := (byt_eq hG (i := q) (k := s0) (by omega) hsl).mp z
                omega
          · by_cases e1 : q = w * h
            · exact Or.inr ⟨e1, by omega⟩
            · exact Or.inl ⟨by omega, by omega, fun i h1 h2 => by rw [show i = q by omega]⟩
        ·
          have hgq := hG q (by omega)
          have hgs := hG s0 (by omega)
          refine j_aload_n C eX0_pack_36 0 rfl ?_
          refine j_getf C hwsX0_pack 0 rfl rfl 2 (by decide) kX0_pack_25 rfl rfl eX0_pack_37 ?_
          refine j_iload_n C eX0_pack_40 2 rfl ?_
          refine j_bald C 1 0 rfl rfl q rfl (by omega) (by omega) eX0_pack_41 ?_
          refine j_aload_n C eX0_pack_42 0 rfl ?_
          refine j_getf C hwsX0_pack 0 rfl rfl 2 (by decide) kX0_pack_25 rfl rfl eX0_pack_43 ?_
          refine j_iload_n C eX0_pack_46 1 rfl ?_
          refine j_bald C 1 0 rfl rfl s0 rfl (by omega) (by omega) eX0_pack_47 ?_
          refine j_icmp_eq C 66 eX0_pack_48 (by decide) (by omega) (by omega) (fun c48 => ?_) (fun c48 => ?_)
          ·
            refine j_iinc C eX0_pack_66 2 rfl rfl (by decide) (lv' := [(0, .ref (ad 0)), (1, .int (zI (s0 : Int))), (2, .int (zI ((q : Int) + 1)))]) rfl ?_
            refine j_goto C 9 eX0_pack_69 (by decide) ?_
            refine ih j s0 (q + 1) PK (by omega) hP (by omega) (Or.inl ⟨by omega, by omega, fun i h1 h2 => ?_⟩)
            by_cases e : i = q
            · subst e
              rw [c48]
            · rcases hI with z | z
              · exact z.2.2 i h1 (by omega)
              · omega
          ·
            have hq2 : q - s0 ≤ 255 ∧ ∀ i, s0 ≤ i → i < q → G i % 256 = G s0 % 256 := by
              rcases hI with z | z
              · exact z.2
              · omega
            have hsl : s0 < w * h := by omega
            refine j_aload_n C eX0_pack_51 0 rfl ?_
            refine j_iload_n C eX0_pack_52 2 rfl ?_
            refine j_iload_n C eX0_pack_53 1 rfl ?_
            refine j_isub C eX0_pack_54 ?_
            refine j_aload_n C eX0_pack_55 0 rfl ?_
            refine j_getf C hwsX0_pack 0 rfl rfl 2 (by decide) kX0_pack_25 rfl rfl eX0_pack_56 ?_
            refine j_iload_n C eX0_pack_59 1 rfl ?_
            refine j_bald C 1 0 rfl rfl s0 rfl (by omega) (by omega) eX0_pack_60 ?_
            rw [show (q : Int) - (s0 : Int) = ((q - s0 : Nat) : Int) by omega]
            refine j_callVv C (As := [.int (zI ((q - s0 : Nat) : Int)), .int (zI (G s0))]) (rest := []) (ctX0_packStretch l D cB cI cZ cL ad w h hs aG aS G S CB SB DK DR RE PF PK CO rc pn cn (2 * j) (q - s0) (by omega) (by omega) (G s0) (hG s0 hsl)) (cwV 2 C.1.2.2.2.2 gX0_pack_X0_packStretch rfl rfl rfl (by decide +kernel) ⟨Nat.le_of_ble_eq_true rfl, Nat.le_of_ble_eq_true rfl⟩) [0, 1, 2, 3, 4, 5, 6, 7, 8, 9, 10] [] (wr := []) rfl (by decide) rfl (by decide) (by decide) 0 rfl rfl rfl rfl (Nat.le_of_ble_eq_true rfl) eX0_pack_61 ⟨Nat.le_of_ble_eq_true rfl, Nat.le_of_ble_eq_true rfl⟩ (fun w1 hp => ?_)
            subst hp
            rw [List.nil_append]
            refine j_iload_n C eX0_pack_64 2 rfl ?_
            refine j_istore_n C eX0_pack_65 rfl (by decide) (lv' := [(0, .ref (ad 0)), (1, .int (zI (q : Int))), (2, .int (zI (q : Int)))]) rfl ?_
            refine j_iinc C eX0_pack_66 2 rfl rfl (by decide) (lv' := [(0, .ref (ad 0)), (1, .int (zI (q : Int))), (2, .int (zI ((q : Int) + 1)))]) rfl ?_
            refine j_goto C 9 eX0_pack_69 (by decide) ?_
            refine ih (j + 1) q (q + 1) _ (by omega) ?_ (by omega) ?_
            · refine ⟨s0, q - s0, pkd_keep (fun i hi => by rw [zup_n (by omega), zup_n (by omega)]) hP, hsl, ⟨by omega, hq2.1, by omega, fun i h1 h2 => hq2.2 i h1 (by omega), ?_⟩, by omega, by rw [zup_n (by omega), zup_s], by rw [zup_s]; exact (byt_bm hG hsl).symm⟩
              by_cases e1 : q = w * h
              · exact Or.inr (Or.inl (by omega))
              · by_cases e2 : q - s0 = 255
                · exact Or.inl e2
                · refine Or.inr (Or.inr ?_)
                  rw [show s0 + (q - s0) = q by omega]
                  intro z
                  have z2 := (byt_eq hG (i := q) (k := s0) (by omega) hsl).mp z
                  omega
            · by_cases e1 : q = w * h
              · exact Or.inr ⟨e1, by omega⟩
              · exact Or.inl ⟨by omega, by omega, fun i h1 h2 => by rw [show i = q by omega]⟩
set_option maxHeartbeats 4000000 in
set_option maxRecDepth 100000 in
theorem ctX0_pack (l : Launch) (D : va_G) (cB cI cZ cL : ClassId) (ad : Nat → Nat) (w h : Nat) (hs : Sz w h) (aG aS : Nat) (G S CB SB DK DR RE PF PK CO : Nat → Int) (rc pn kn cn : Int) (hG : byt (w * h) G) : mI l yX0_pack wsX0_pack rmX0_pack D vwCl (tyl cB cI cZ cL) [.ref (ad 0)] (wX cB cI cZ ad w h aG aS G S CB SB DK DR RE PF PK CO rc pn kn cn) 0 0 (fun z w1 => ∃ (PK' : Nat → Int) (j : Nat), pkd (fun k => G k % 256) (w * h) PK' j (w * h) ∧ z = ((2 * j : Nat) : Int) ∧ w1 = wX cB cI cZ ad w h aG aS G S CB SB DK DR RE PF PK' CO rc pn ((2 * j : Nat) : Int) cn) := by
  refine mI_of (own := RX0) rfl (by decide) rfl (Nat.le_of_ble_eq_true rfl) ?_
  intro p e s m args below meth c C hr hlocks hname
  show J p l e rmX0_pack s m args below meth c _ 3 D vwCl _ 0 [(0, .ref (ad 0))] [] (wX cB cI cZ ad w h aG aS G S CB SB DK DR RE PF PK CO rc pn kn cn) 0 0
  have hm := hs.mul
  refine j_aload_n C eX0_pack_0 0 rfl ?_
  refine j_iconst C eX0_pack_1 ?_
  refine j_putf C hwsX0_pack tyX0 tyX0_ok nmX0 0 rfl rfl 13 (by decide) kX0_pack_108 rfl rfl (tyX0_ok 13 (by decide)) rfl rfl (Nat.le_of_ble_eq_true rfl) eX0_pack_2 (wd' := wX cB cI cZ ad w h aG aS G S CB SB DK DR RE PF PK CO rc pn 0 cn) rfl ?_
  refine j_iconst C eX0_pack_5 ?_
  refine j_istore_n C eX0_pack_6 rfl (by decide) (lv' := [(0, .ref (ad 0)), (1, .int (zI 0))]) rfl ?_
  refine j_iconst C eX0_pack_7 ?_
  refine j_istore_n C eX0_pack_8 rfl (by decide) (lv' := [(0, .ref (ad 0)), (1, .int (zI 0)), (2, .int (zI 1))]) rfl ?_
  refine lpX0_pack C hs hG (fun PK' j hP => ?_) (w * h + 1) 0 0 1 PK (by omega) rfl (by omega) (Or.inl ⟨by omega, by omega, fun i h1 h2 => by rw [show i = 0 by omega]⟩)
  refine j_aload_n C eX0_pack_72 0 rfl ?_
  refine j_getf C hwsX0_pack 0 rfl rfl 13 (by decide) kX0_pack_108 rfl rfl eX0_pack_73 ?_
  exact j_iret C hr hlocks rfl eX0_pack_76 ⟨PK', j, hP, rfl, rfl⟩
/-- how many greys the first j pairs have; that they are right; what is read of them -/
def dn (c : Nat → Int) : Nat → Nat
  | 0 => 0
  | j + 1 => dn c j + (c (2 * j) % 256).toNat
def oku (c : Nat → Int) (had n j : Nat) : Prop := ∀ i, i < j → 2 * i + 1 < had ∧ c (2 * i) % 256 ≠ 0 ∧ dn c (i + 1) ≤ n
def fld (c : Nat → Int) (j : Nat) (S : Nat → Int) : Prop := ∀ i, i < j → ∀ q, dn c i ≤ q → q < dn c (i + 1) → S q = c (2 * i + 1)
def stp (c : Nat → Int) (had n j : Nat) : Prop := had ≤ 2 * j + 1 ∨ c (2 * j) % 256 = 0 ∨ n < dn c (j + 1)
/-- the place of the first wrong byte, or -1 -/
def vls (c : Nat → Int) (had n j : Nat) : Int := if had ≤ 2 * j then (if dn c j < n then (had : Int) else -1) else if c (2 * j) % 256 = 0 ∨ n < dn c (j + 1) then 2 * (j : Int) else (had : Int)
theorem dn_le {c : Nat → Int} {had n j : Nat} (h : oku c had n j) : dn c j ≤ n := by
  match j, h with
  | 0, _ => exact Nat.zero_le _
  | j + 1, h => exact (h j (by omega)).2.2
theorem dn_seg (c : Nat → Int) : ∀ {j q : Nat}, q < dn c j → ∃ i, i < j ∧ dn c i ≤ q ∧ q < dn c (i + 1)
  | 0, q, h => absurd h (Nat.not_lt_zero _)
  | j + 1, q, h => by
    rcases Nat.lt_or_ge q (dn c j) with z | z
    · obtain ⟨i, h1, h2, h3⟩ := dn_seg c z
      exact ⟨i, by omega, h2, h3⟩
    · exact ⟨j, by omega, z, h⟩
theorem dn_congr {c c' : Nat → Int} {had : Nat} (e : ∀ i, i < had → c i = c' i) : ∀ {j : Nat}, 2 * j ≤ had + 1 → dn c j = dn c' j
  | 0, _ => rfl
  | j + 1, h => by
    show dn c j + _ = dn c' j + _
    rw [dn_congr e (j := j) (by omega), e (2 * j) (by omega)]
theorem oku_congr {c c' : Nat → Int} {had n j : Nat} (e : ∀ i, i < had → c i = c' i) (h : oku c had n j) : oku c' had n j := fun i hi => by
  obtain ⟨h1, h2, h3⟩ := h i hi
  exact ⟨h1, by rw [← e _ (by omega)]; exact h2, by rw [← dn_congr e (j := i + 1) (by omega)]; exact h3⟩
theorem oku_2j {c : Nat → Int} {had n j : Nat} (h : oku c had n j) : 2 * j ≤ had := by
  match j, h with
  | 0, _ => omega
  | j + 1, h => have := (h j (by omega)).1; omega
theorem stp_congr {c c' : Nat → Int} {had n j : Nat} (e : ∀ i, i < had → c i = c' i) (h : stp c had n j) : stp c' had n j := by
  unfold stp at *
  by_cases q : had ≤ 2 * j + 1
  · exact Or.inl q
  · rw [← e _ (by omega), ← dn_congr e (j := j + 1) (by omega)]
    exact h
theorem oku_j {c : Nat → Int} {had n j j' : Nat} (h : oku c had n j) (hst : stp c had n j) (h' : oku c had n j') (hst' : stp c had n j') : j = j' := by
  have key : ∀ {j j' : Nat}, stp c had n j → oku c had n j' → ¬ j < j' := fun {j j'} s o q => by
    obtain ⟨h1, h2, h3⟩ := o j q
    unfold stp at s
    omega
  rcases Nat.lt_trichotomy j j' with q | q | q
  · exact absurd q (key hst h')
  · exact q
  · exact absurd q (key hst' h)
theorem vls_congr {c c' : Nat → Int} {had n j : Nat} (e : ∀ i, i < had → c i = c' i) (h : oku c had n j) : vls c had n j = vls c' had n j := by
  have h2 := oku_2j h
  unfold vls
  rw [dn_congr e (j := j) (by omega)]
  by_cases q : had ≤ 2 * j
  · rw [if_pos q, if_pos q]
  · rw [if_neg q, if_neg q, dn_congr e (j := j + 1) (by omega), e (2 * j) (by omega)]
theorem hwsX0_readCollected : ∀ w ∈ u_ws RX0 TX0 16, w ∈ wsX0_readCollected := fun _ h => List.mem_cons_of_mem _ (List.mem_append_right _ h)
theorem kX0_readCollected_29 : Cond.fieldLink RX0 29 "SheetRows" (TX0 3).2.1 (TX0 3).2.2.1 ∈ wsX0_readCollected := by decide +kernel
theorem kX0_readCollected_55 : Cond.fieldLink RX0 55 "SheetRows" (TX0 14).2.1 (TX0 14).2.2.1 ∈ wsX0_readCollected := by decide +kernel
theorem kX0_readCollected_117 : Cond.fieldLink RX0 117 "SheetRows" (TX0 15).2.1 (TX0 15).2.2.1 ∈ wsX0_readCollected := by decide +kernel
abbrev rmX0_readCollected : Room := { frames := 0, cells := 0, slots := 0, locals := 0 }
theorem dn_mono (c : Nat → Int) {i j : Nat} (h : i ≤ j) : dn c i ≤ dn c j := by
  obtain ⟨d, rfl⟩ : ∃ d, j = i + d := ⟨j - i, by omega⟩
  induction d with
  | zero => exact Nat.le_refl _
  | succ d ih =>
    have h1 := ih (by omega)
    show dn c i ≤ dn c (i + d) + _
    omega
set_option maxHeartbeats 4000000 in
set_option maxRecDepth 100000 in
theorem lqX0_readCollected {p : Program} {l : Launch} {e : Env} {s : State} {m : MethodId} {args : Array Value} {below : List Frame} {meth : Method} {c : Code} {Q : State → Prop} {D : va_G} {A : Nat → Prop} {cB cI cZ cL : ClassId} {w h : Nat} {ad : Nat → Nat} {aG aS : Nat} {G CB SB DK DR RE PF PK CO : Nat → Int} {rc pn kn : Int} (C : JC p m c cX0_readCollected 6 s args wsX0_readCollected RX0 D vwCl (tyl cB cI cZ cL) A) (hs : Sz w h) {a j : Nat} (ha : a ≤ 5000) (hb : byt a CO) (hj : 2 * j + 1 < a) (hd : dn CO (j + 1) ≤ w * h) (kx : ∀ S : Nat → Int, fld CO (j + 1) S → J p l e rmX0_readCollected s m args below meth c Q 6 D vwCl A 91 [(0, .ref (ad 0)), (1, .int (zI ((dn CO j : Nat) : Int))), (2, .int (zI ((2 * j : Nat) : Int))), (3, .int (zI (CO (2 * j) % 256))), (4, .int (zI (((dn CO j : Nat) : Int) + CO (2 * j) % 256))), (5, .int (zI ((dn CO (j + 1)) : Int)))] [] (wX cB cI cZ ad w h aG aS G S CB SB DK DR RE PF PK CO rc pn kn (a : Int)) 0 0) : ∀ (n i : Nat) (S : Nat → Int), dn CO j ≤ i → i ≤ dn CO (j + 1) → dn CO (j + 1) - i < n → fld CO j S → (∀ q, dn CO j ≤ q → q < i → S q = CO (2 * j + 1)) → J p l e rmX0_readCollected s m args below meth c Q 6 D vwCl A 63 [(0, .ref (ad 0)), (1, .int (zI ((dn CO j : Nat) : Int))), (2, .int (zI ((2 * j : Nat) : Int))), (3, .int (zI (CO (2 * j) % 256))), (4, .int (zI (((dn CO j : Nat) : Int) + CO (2 * j) % 256))), (5, .int (zI (i : Int)))] [] (wX cB cI cZ ad w h aG aS G S CB SB DK DR RE PF PK CO rc pn kn (a : Int)) 0 0 := by
  have hm := hs.mul
  have hdd : dn CO (j + 1) = dn CO j + (CO (2 * j) % 256).toNat := rfl
  have hcb := hb (2 * j + 1) hj
  intro n
  induction n with
  | zero => intro i S _ _ hn; exact absurd hn (Nat.not_lt_zero _)
  | succ n ih =>
    intro i S h1 h2 hn hF hS
    refine j_iload C eX0_readCollected_63 5 rfl ?_
    refine j_iload C eX0_readCollected_65 4 rfl ?_
    refine j_icmp_ge C 91 eX0_readCollected_67 (by decide) (by omega) (by omega) (fun c67 => ?_) (fun c67 => ?_)
    ·
      have he : i = dn CO (j + 1) := by omega
      subst he
      refine kx S (fun i' hi' q q1 q2 => ?_)
      by_cases e : i' = j
      · subst e; exact hS q q1 q2
      · exact hF i' (by omega) q q1 q2
    ·
      refine j_aload_n C eX0_readCollected_70 0 rfl ?_
      refine j_getf C hwsX0_readCollected 0 rfl rfl 3 (by decide) kX0_readCollected_29 rfl rfl eX0_readCollected_71 ?_
      refine j_iload C eX0_readCollected_74 5 rfl ?_
      refine j_aload_n C eX0_readCollected_76 0 rfl ?_
      refine j_getf C hwsX0_readCollected 0 rfl rfl 14 (by decide) kX0_readCollected_55 rfl rfl eX0_readCollected_77 ?_
      refine j_iload_n C eX0_readCollected_80 2 rfl ?_
      refine j_iconst C eX0_readCollected_81 ?_
      refine j_iadd C eX0_readCollected_82 ?_
      refine j_bald C 10 0 rfl rfl (2 * j + 1) (by push_cast; rfl) (by omega) (by omega) eX0_readCollected_83 ?_
      refine j_bast C 2 0 rfl rfl i rfl (by omega) (by omega) (nar_b hcb) eX0_readCollected_84 (wd' := wX cB cI cZ ad w h aG aS G (zup S i (CO (2 * j + 1))) CB SB DK DR RE PF PK CO rc pn kn (a : Int)) rfl ?_
      refine j_iinc C eX0_readCollected_85 5 rfl rfl (by decide) (lv' := [(0, .ref (ad 0)), (1, .int (zI ((dn CO j : Nat) : Int))), (2, .int (zI ((2 * j : Nat) : Int))), (3, .int (zI (CO (2 * j) % 256))), (4, .int (zI (((dn CO j : Nat) : Int) + CO (2 * j) % 256))), (5, .int (zI ((i : Int) + 1)))]) rfl ?_
      refine j_goto C 63 eX0_readCollected_88 (by decide) ?_
      refine ih (i + 1) _ (by omega) (by omega) (by omega) (fun i' hi' q q1 q2 => ?_) (fun q q1 q2 => ?_)
      · have hmo : dn CO (i' + 1) ≤ dn CO j := dn_mono CO (by omega)
        rw [zup_n (by omega)]
        exact hF i' hi' q q1 q2
      · by_cases e : q = i
        · subst e; exact zup_s
        · rw [zup_n e]; exact hS q q1 (by omega)
set_option maxHeartbeats 4000000 in
set_option maxRecDepth 100000 in
theorem lpX0_readCollected {p : Program} {l : Launch} {e : Env} {s : State} {m : MethodId} {args : Array Value} {below : List Frame} {meth : Method} {c : Code} {D : va_G} {cB cI cZ cL : ClassId} {w h : Nat} {ad : Nat → Nat} {aG aS : Nat} {G CB SB DK DR RE PF PK CO : Nat → Int} {rc pn kn : Int} {w9 : va_W} (C : JC p m c cX0_readCollected 6 s args wsX0_readCollected RX0 D vwCl (tyl cB cI cZ cL) (va_A w9 s.heap.size)) (hs : Sz w h) {a : Nat} (hr : meth.sig.returnType = some .int) (hlocks : meth.locks = false) (ha : a ≤ 5000) (hb : byt a CO) : ∀ (n j : Nat) (S : Nat → Int), a - 2 * j < n → oku CO a (w * h) j → fld CO j S → J p l e rmX0_readCollected s m args below meth c (MQ below (mQI D vwCl (tyl cB cI cZ cL) w9 s.heap.size (fun z w1 => ∃ (j : Nat) (S' : Nat → Int), oku CO a (w * h) j ∧ stp CO a (w * h) j ∧ fld CO j S' ∧ z = vls CO a (w * h) j ∧ w1 = wX cB cI cZ ad w h aG aS G S' CB SB DK DR RE PF PK CO rc pn kn (a : Int))) args s 0 0 (va_A w9 s.heap.size)) 6 D vwCl (va_A w9 s.heap.size) 4 [(0, .ref (ad 0)), (1, .int (zI ((dn CO j : Nat) : Int))), (2, .int (zI ((2 * j : Nat) : Int)))] [] (wX cB cI cZ ad w h aG aS G S CB SB DK DR RE PF PK CO rc pn kn (a : Int)) 0 0 := by
  have hm := hs.mul
  intro n
  induction n with
  | zero => intro j S hn; exact absurd hn (Nat.not_lt_zero _)
  | succ n ih =>
    intro j S hn hO hF
    have hdl := dn_le hO
    have h2j := oku_2j hO
    have hdd : dn CO (j + 1) = dn CO j + (CO (2 * j) % 256).toNat := rfl
    refine j_iload_n C eX0_readCollected_4 2 rfl ?_
    refine j_aload_n C eX0_readCollected_5 0 rfl ?_
    refine j_getf C hwsX0_readCollected 0 rfl rfl 15 (by decide) kX0_readCollected_117 rfl rfl eX0_readCollected_6 ?_
    refine j_icmp_ge C 100 eX0_readCollected_9 (by decide) (by omega) (by omega) (fun c9 => ?_) (fun c9 => ?_)
    ·
      refine j_iload_n C eX0_readCollected_100 1 rfl ?_
      refine j_aload_n C eX0_readCollected_101 0 rfl ?_
      refine j_getf C hwsX0_readCollected 0 rfl rfl 3 (by decide) kX0_readCollected_29 rfl rfl eX0_readCollected_102 ?_
      refine j_alen C 2 0 rfl rfl eX0_readCollected_105 ?_
      refine j_icmp_ge C 116 eX0_readCollected_106 (by decide) (by omega) (by omega) (fun c106 => ?_) (fun c106 => ?_)
      ·
        refine j_iconst C eX0_readCollected_116 ?_
        exact j_iret C hr hlocks rfl eX0_readCollected_117 ⟨j, S, hO, (by unfold stp; omega), hF, (by unfold vls; rw [if_pos (by omega), if_neg (by omega)]), rfl⟩
      ·
        refine j_aload_n C eX0_readCollected_109 0 rfl ?_
        refine j_getf C hwsX0_readCollected 0 rfl rfl 15 (by decide) kX0_readCollected_117 rfl rfl eX0_readCollected_110 ?_
        refine j_goto C 117 eX0_readCollected_113 (by decide) ?_
        exact j_iret C hr hlocks rfl eX0_readCollected_117 ⟨j, S, hO, (by unfold stp; omega), hF, (by unfold vls; rw [if_pos (by omega), if_pos (by omega)]), rfl⟩
    ·
      refine j_aload_n C eX0_readCollected_12 0 rfl ?_
      refine j_getf C hwsX0_readCollected 0 rfl rfl 14 (by decide) kX0_readCollected_55 rfl rfl eX0_readCollected_13 ?_
      refine j_iload_n C eX0_readCollected_16 2 rfl ?_
      refine j_bald C 10 0 rfl rfl (2 * j) (by push_cast; rfl) (by omega) (by omega) eX0_readCollected_17 ?_
      refine j_sipush C eX0_readCollected_18 (by decide +kernel) ?_
      refine j_and255 C eX0_readCollected_21 ?_
      refine j_istore_n C eX0_readCollected_22 rfl (by decide) (lv' := [(0, .ref (ad 0)), (1, .int (zI ((dn CO j : Nat) : Int))), (2, .int (zI ((2 * j : Nat) : Int))), (3, .int (zI ((CO (2 * j)) % 256)))]) rfl ?_
      refine j_iload_n C eX0_readCollected_23 3 rfl ?_
      refine j_if_eq C 38 eX0_readCollected_24 (by decide) (by omega) (fun c24 => ?_) (fun c24 => ?_)
      ·
        refine j_iload_n C eX0_readCollected_38 2 rfl ?_
        exact j_iret C hr hlocks rfl eX0_readCollected_39 ⟨j, S, hO, (by unfold stp; omega), hF, (by unfold vls; rw [if_neg (by omega), if_pos (by omega)]; omega), rfl⟩
      ·
        refine j_iload_n C eX0_readCollected_27 3 rfl ?_
        refine j_aload_n C eX0_readCollected_28 0 rfl ?_
        refine j_getf C hwsX0_readCollected 0 rfl rfl 3 (by decide) kX0_readCollected_29 rfl rfl eX0_readCollected_29 ?_
        refine j_alen C 2 0 rfl rfl eX0_readCollected_32 ?_
        refine j_iload_n C eX0_readCollected_33 1 rfl ?_
        refine j_isub C eX0_readCollected_34 ?_
        refine j_icmp_le C 40 eX0_readCollected_35 (by decide) (by omega) (by omega) (fun c35 => ?_) (fun c35 => ?_)
        ·
          refine j_iload_n C eX0_readCollected_40 2 rfl ?_
          refine j_iconst C eX0_readCollected_41 ?_
          refine j_iadd C eX0_readCollected_42 ?_
          refine j_aload_n C eX0_readCollected_43 0 rfl ?_
          refine j_getf C hwsX0_readCollected 0 rfl rfl 15 (by decide) kX0_readCollected_117 rfl rfl eX0_readCollected_44 ?_
          refine j_icmp_lt C 55 eX0_readCollected_47 (by decide) (by omega) (by omega) (fun c47 => ?_) (fun c47 => ?_)
          ·
            refine j_iload_n C eX0_readCollected_55 1 rfl ?_
            refine j_iload_n C eX0_readCollected_56 3 rfl ?_
            refine j_iadd C eX0_readCollected_57 ?_
            refine j_istore C eX0_readCollected_58 rfl (by decide) (lv' := [(0, .ref (ad 0)), (1, .int (zI ((dn CO j : Nat) : Int))), (2, .int (zI ((2 * j : Nat) : Int))), (3, .int (zI ((CO (2 * j)) % 256))), (4, .int (zI (((dn CO j : Nat) : Int) + ((CO (2 * j)) % 256))))]) rfl ?_
            refine j_iload_n C eX0_readCollected_60 1 rfl ?_
            refine j_istore C eX0_readCollected_61 rfl (by decide) (lv' := [(0, .ref (ad 0)), (1, .int (zI ((dn CO j : Nat) : Int))), (2, .int (zI ((2 * j : Nat) : Int))), (3, .int (zI ((CO (2 * j)) % 256))), (4, .int (zI (((dn CO j : Nat) : Int) + ((CO (2 * j)) % 256)))), (5, .int (zI ((dn CO j : Nat) : Int)))]) rfl ?_
            refine lqX0_readCollected C hs ha hb (by omega) (by omega) (fun S' hF' => ?_) (dn CO (j + 1) + 1) (dn CO j) S (by omega) (by omega) (by omega) hF (fun q q1 q2 => by omega)
            refine j_iload C eX0_readCollected_91 4 rfl ?_
            refine j_istore_n C eX0_readCollected_93 rfl (by decide) (lv' := [(0, .ref (ad 0)), (1, .int (zI (((dn CO j : Nat) : Int) + CO (2 * j) % 256))), (2, .int (zI ((2 * j : Nat) : Int))), (3, .int (zI (CO (2 * j) % 256))), (4, .int (zI (((dn CO j : Nat) : Int) + CO (2 * j) % 256))), (5, .int (zI ((dn CO (j + 1)) : Int)))]) rfl ?_
            refine j_iinc C eX0_readCollected_94 2 rfl rfl (by decide) (lv' := [(0, .ref (ad 0)), (1, .int (zI (((dn CO j : Nat) : Int) + CO (2 * j) % 256))), (2, .int (zI (((2 * j : Nat) : Int) + 2))), (3, .int (zI (CO (2 * j) % 256))), (4, .int (zI (((dn CO j : Nat) : Int) + CO (2 * j) % 256))), (5, .int (zI ((dn CO (j + 1)) : Int)))]) rfl ?_
            refine j_goto C 4 eX0_readCollected_97 (by decide) ?_
            refine j_loc [0, 1, 2] (lv' := [(0, .ref (ad 0)), (1, .int (zI (((dn CO j : Nat) : Int) + CO (2 * j) % 256))), (2, .int (zI (((2 * j : Nat) : Int) + 2)))]) rfl ?_
            have hO' : oku CO a (w * h) (j + 1) := fun i hi => by
              by_cases e : i = j
              · subst e
                exact ⟨by omega, by omega, by omega⟩
              · exact hO i (by omega)
            have hb9 := ih (j + 1) S' (by omega) hO' hF'
            have e1 : ((dn CO (j + 1) : Nat) : Int) = ((dn CO j : Nat) : Int) + CO (2 * j) % 256 := by omega
            rw [e1] at hb9
            exact hb9
          ·
            refine j_aload_n C eX0_readCollected_50 0 rfl ?_
            refine j_getf C hwsX0_readCollected 0 rfl rfl 15 (by decide) kX0_readCollected_117 rfl rfl eX0_readCollected_51 ?_
            exact j_iret C hr hlocks rfl eX0_readCollected_54 ⟨j, S, hO, (by unfold stp; omega), hF, (by unfold vls; rw [if_neg (by omega), if_neg (by omega)]), rfl⟩
        ·
          refine j_iload_n C eX0_readCollected_38 2 rfl ?_
          exact j_iret C hr hlocks rfl eX0_readCollected_39 ⟨j, S, hO, (by unfold stp; omega), hF, (by unfold vls; rw [if_neg (by omega), if_pos (by omega)]; omega), rfl⟩
set_option maxHeartbeats 4000000 in
set_option maxRecDepth 100000 in
theorem ctX0_readCollected (l : Launch) (D : va_G) (cB cI cZ cL : ClassId) (ad : Nat → Nat) (w h : Nat) (hs : Sz w h) (aG aS : Nat) (G S CB SB DK DR RE PF PK CO : Nat → Int) (rc pn kn : Int) (a : Nat) (ha : a ≤ 5000) (hb : byt a CO) : mI l yX0_readCollected wsX0_readCollected rmX0_readCollected D vwCl (tyl cB cI cZ cL) [.ref (ad 0)] (wX cB cI cZ ad w h aG aS G S CB SB DK DR RE PF PK CO rc pn kn (a : Int)) 0 0 (fun z w1 => ∃ (j : Nat) (S' : Nat → Int), oku CO a (w * h) j ∧ stp CO a (w * h) j ∧ fld CO j S' ∧ z = vls CO a (w * h) j ∧ w1 = wX cB cI cZ ad w h aG aS G S' CB SB DK DR RE PF PK CO rc pn kn (a : Int)) := by
  refine mI_of (own := RX0) rfl (by decide) rfl (Nat.le_of_ble_eq_true rfl) ?_
  intro p e s m args below meth c C hr hlocks hname
  show J p l e rmX0_readCollected s m args below meth c _ 6 D vwCl _ 0 [(0, .ref (ad 0))] [] (wX cB cI cZ ad w h aG aS G S CB SB DK DR RE PF PK CO rc pn kn (a : Int)) 0 0
  refine j_iconst C eX0_readCollected_0 ?_
  refine j_istore_n C eX0_readCollected_1 rfl (by decide) (lv' := [(0, .ref (ad 0)), (1, .int (zI 0))]) rfl ?_
  refine j_iconst C eX0_readCollected_2 ?_
  refine j_istore_n C eX0_readCollected_3 rfl (by decide) (lv' := [(0, .ref (ad 0)), (1, .int (zI 0)), (2, .int (zI 0))]) rfl ?_
  exact lpX0_readCollected C hs hr hlocks ha hb (a + 1) 0 S (by omega) (fun i hi => absurd hi (Nat.not_lt_zero _)) (fun i hi => absurd hi (Nat.not_lt_zero _))
theorem hwsX0_unpack : ∀ w ∈ u_ws RX0 TX0 16, w ∈ wsX0_unpack := fun _ h => List.mem_cons_of_mem _ (List.mem_append_right _ h)
theorem kX0_unpack_117 : Cond.fieldLink RX0 117 "SheetRows" (TX0 15).2.1 (TX0 15).2.2.1 ∈ wsX0_unpack := by decide +kernel
abbrev rmX0_unpack : Room := { frames := 1, cells := 0, slots := 0, locals := 25 }
set_option maxHeartbeats 4000000 in
set_option maxRecDepth 100000 in
theorem ctX0_unpack (l : Launch) (D : va_G) (cB cI cZ cL : ClassId) (ad : Nat → Nat) (w h : Nat) (hs : Sz w h) (aG aS : Nat) (G S CB SB DK DR RE PF PK CO : Nat → Int) (rc pn kn : Int) (a : Nat) (ha : a ≤ 5000) (hb : byt a CO) (hG : byt (w * h) G) : mI l yX0_unpack wsX0_unpack rmX0_unpack D vwCl (tyl cB cI cZ cL) [.ref (ad 0)] (wX cB cI cZ ad w h aG aS G S CB SB DK DR RE PF PK CO rc pn kn (a : Int)) 0 0 (fun z w1 => ∃ (j : Nat) (S' : Nat → Int), oku CO a (w * h) j ∧ stp CO a (w * h) j ∧ fld CO j S' ∧ if vls CO a (w * h) j = -1 then z = 1 ∧ w1 = wX cB cI cZ ad w h aS aG S' G CB SB DK DR RE PF PK CO rc pn kn 0 else z = -1 - vls CO a (w * h) j ∧ w1 = wX cB cI cZ ad w h aG aS G S' CB SB DK DR RE PF PK CO rc pn kn 0) := by
  refine mI_of (own := RX0) rfl (by decide) rfl (Nat.le_of_ble_eq_true rfl) ?_
  intro p e s m args below meth c C hr hlocks hname
  show J p l e rmX0_unpack s m args below meth c _ 2 D vwCl _ 0 [(0, .ref (ad 0))] [] (wX cB cI cZ ad w h aG aS G S CB SB DK DR RE PF PK CO rc pn kn (a : Int)) 0 0
  have hm := hs.mul
  refine j_aload_n C eX0_unpack_0 0 rfl ?_
  refine j_callVi C (As := []) (rest := []) (ctX0_readCollected l D cB cI cZ cL ad w h hs aG aS G S CB SB DK DR RE PF PK CO rc pn kn a ha hb) (cwV 0 C.1.2.2.2.2 gX0_unpack_X0_readCollected rfl rfl rfl (by decide +kernel) ⟨Nat.le_of_ble_eq_true rfl, Nat.le_of_ble_eq_true rfl⟩) [0, 1, 2, 3, 4, 5, 6, 7, 8, 9, 10] [] (wr := []) rfl (by decide) rfl (by decide) (by decide) 0 rfl rfl rfl rfl (Nat.le_of_ble_eq_true rfl) eX0_unpack_1 ⟨Nat.le_of_ble_eq_true rfl, Nat.le_of_ble_eq_true rfl⟩ (fun z w1 hp => ?_)
  obtain ⟨j, S', hO, hst, hF, rfl, rfl⟩ := hp
  rw [List.nil_append]
  have hdl := dn_le hO
  have h2j := oku_2j hO
  have hv : -1 ≤ vls CO a (w * h) j ∧ vls CO a (w * h) j ≤ 5000 := by unfold vls; split; split <;> omega; split <;> omega
  refine j_istore_n C eX0_unpack_4 rfl (by decide) (lv' := [(0, .ref (ad 0)), (1, .int (zI (vls CO a (w * h) j)))]) rfl ?_
  refine j_aload_n C eX0_unpack_5 0 rfl ?_
  refine j_iconst C eX0_unpack_6 ?_
  refine j_putf C hwsX0_unpack tyX0 tyX0_ok nmX0 0 rfl rfl 15 (by decide) kX0_unpack_117 rfl rfl (tyX0_ok 15 (by decide)) rfl rfl (Nat.le_of_ble_eq_true rfl) eX0_unpack_7 (wd' := wX cB cI cZ ad w h aG aS G S' CB SB DK DR RE PF PK CO rc pn kn 0) rfl ?_
  refine j_iload_n C eX0_unpack_10 1 rfl ?_
  refine j_iconst C eX0_unpack_11 ?_
  refine j_icmp_eq C 19 eX0_unpack_12 (by decide) (by omega) (by omega) (fun c12 => ?_) (fun c12 => ?_)
  ·
    refine j_aload_n C eX0_unpack_19 0 rfl ?_
    have hby : byt (w * h) S' := fun q hq => by
      have hc2 : dn CO j = w * h := by unfold vls at c12; split at c12; split at c12 <;> omega; split at c12 <;> omega
      obtain ⟨i, i1, i2, i3⟩ := dn_seg CO (j := j) (q := q) (by omega)
      rw [hF i i1 q i2 i3]
      exact hb _ (hO i i1).1
    refine j_callVi C (As := []) (rest := []) (ctX0_takeSpare l D cB cI cZ cL ad w h hs aG aS G S' CB SB DK DR RE PF PK CO rc pn kn 0 hG hby) (cwV 0 C.1.2.2.2.2 gX0_unpack_X0_takeSpare rfl rfl rfl (by decide +kernel) ⟨Nat.le_of_ble_eq_true rfl, Nat.le_of_ble_eq_true rfl⟩) [0, 1, 2, 3, 4, 5, 6, 7, 8, 9, 10] [] (wr := []) rfl (by decide) rfl (by decide) (by decide) 0 rfl rfl rfl rfl (Nat.le_of_ble_eq_true rfl) eX0_unpack_20 ⟨Nat.le_of_ble_eq_true rfl, Nat.le_of_ble_eq_true rfl⟩ (fun z w1 hp => ?_)
    obtain ⟨rfl, rfl⟩ := hp
    rw [List.nil_append]
    refine j_pop C eX0_unpack_23 rfl ?_
    refine j_iconst C eX0_unpack_24 ?_
    exact j_iret C hr hlocks rfl eX0_unpack_25 ⟨j, S', hO, hst, hF, by rw [if_pos c12]; exact ⟨rfl, rfl⟩⟩
  ·
    refine j_iconst C eX0_unpack_15 ?_
    refine j_iload_n C eX0_unpack_16 1 rfl ?_
    refine j_isub C eX0_unpack_17 ?_
    exact j_iret C hr hlocks rfl eX0_unpack_18 ⟨j, S', hO, hst, hF, by rw [if_neg c12]; exact ⟨rfl, rfl⟩⟩
theorem j_tsw {p : Program} {l : Launch} {e : Env} {R : Room} {s : State} {m : MethodId} {args : Array Value} {below : List Frame} {meth : Method} {c : Code} {Q : State → Prop} {nL : Nat} {D : va_G} {cl : List vw_C} {tys : List (ClassId × FieldType)} {A : Nat → Prop} {cc : ByteArray} {Ts : List Cond} {own : String} {pc pc' len : Nat} {lv : List (Nat × Value)} {st : List Value} {wd : va_W} {cells slots : Nat} (C : JC p m c cc nL s args Ts own D cl tys A) {dflt lo hi off z : Int} {offs : Array Int} (tgt : Nat) (hd : dec cc pc (.tableswitch dflt lo hi offs) len pc') (hz : -2147483648 ≤ z ∧ z ≤ 2147483647) (h1 : lo ≤ z) (h2 : z ≤ hi) (ho : offs[(z - lo).toNat]? = some off) (ht : (pc : Int) + off = (tgt : Int)) (k : J p l e R s m args below meth c Q nL D cl A tgt lv st wd cells slots) : J p l e R s m args below meth c Q nL D cl A pc lv (.int (zI z) :: st) wd cells slots := fun H locs ls hl hP hD hS => lv_tableIn C.1.1 C.1.2.1 hd.1 (by rw [zI_toInt hz]; omega) (by rw [zI_toInt hz]; omega) (by rw [zI_toInt hz]; exact ho) ht (k H locs ls hl hP hD hS)
theorem j_tswO {p : Program} {l : Launch} {e : Env} {R : Room} {s : State} {m : MethodId} {args : Array Value} {below : List Frame} {meth : Method} {c : Code} {Q : State → Prop} {nL : Nat} {D : va_G} {cl : List vw_C} {tys : List (ClassId × FieldType)} {A : Nat → Prop} {cc : ByteArray} {Ts : List Cond} {own : String} {pc pc' len : Nat} {lv : List (Nat × Value)} {st : List Value} {wd : va_W} {cells slots : Nat} (C : JC p m c cc nL s args Ts own D cl tys A) {dflt lo hi z : Int} {offs : Array Int} (tgt : Nat) (hd : dec cc pc (.tableswitch dflt lo hi offs) len pc') (hz : -2147483648 ≤ z ∧ z ≤ 2147483647) (h1 : z < lo ∨ hi < z) (ht : (pc : Int) + dflt = (tgt : Int)) (k : J p l e R s m args below meth c Q nL D cl A tgt lv st wd cells slots) : J p l e R s m args below meth c Q nL D cl A pc lv (.int (zI z) :: st) wd cells slots := fun H locs ls hl hP hD hS => lv_tableOut C.1.1 C.1.2.1 hd.1 (by rw [zI_toInt hz]; exact h1) ht (k H locs ls hl hP hD hS)
/-- the sheet as 'side' makes it, as bytes -/
def sdf (w h : Nat) (G : Nat → Int) (o : Int) (y x : Nat) : Int := if o = 0 then G (y * w + (w - 1 - x)) else if o = 1 then G ((h - 1 - y) * w + x) else if o = 2 then Int.bmod (255 - G (y * w + x) % 256) 256 else if x < w / 2 ∧ y < h / 2 then mn4 w G y x else -1
theorem scn_byt {w h : Nat} {f : Nat → Nat → Int} {S : Nat → Int} (hs : Sz w h) (hS : scn w f h 0 S) (hf : ∀ y x, y < h → x < w → -128 ≤ f y x ∧ f y x ≤ 127) : byt (w * h) S := fun k hk => by
  obtain ⟨e1, e2, e3⟩ := ix_of hs.1 hk
  have h1 := hS (k / w) (k % w) e2 (Or.inl e1)
  rw [e3] at h1
  rw [h1]
  exact hf _ _ e1 e2
theorem hwsX0_side : ∀ w ∈ u_ws RX0 TX0 16, w ∈ wsX0_side := fun _ h => List.mem_cons_of_mem _ (List.mem_append_right _ h)
abbrev rmX0_side : Room := { frames := 2, cells := 0, slots := 0, locals := 45 }
set_option maxHeartbeats 4000000 in
set_option maxRecDepth 100000 in
theorem ctX0_side (l : Launch) (D : va_G) (cB cI cZ cL : ClassId) (ad : Nat → Nat) (w h : Nat) (hs : Sz w h) (aG aS : Nat) (G S CB SB DK DR RE PF PK CO : Nat → Int) (rc pn kn cn : Int) (o : Int) (ho : -2147483648 ≤ o ∧ o ≤ 2147483647) (hG : byt (w * h) G) : mI l yX0_side wsX0_side rmX0_side D vwCl (tyl cB cI cZ cL) [.ref (ad 0), .int (zI o)] (wX cB cI cZ ad w h aG aS G S CB SB DK DR RE PF PK CO rc pn kn cn) 0 0 (fun z w1 => if 0 ≤ o ∧ o ≤ 3 then ∃ S' : Nat → Int, scn w (sdf w h G o) h 0 S' ∧ z = dif G S' (w * h) ∧ w1 = wX cB cI cZ ad w h aS aG S' G CB SB DK DR RE PF PK CO rc pn kn cn else z = -1 ∧ w1 = wX cB cI cZ ad w h aG aS G S CB SB DK DR RE PF PK CO rc pn kn cn) := by
  refine mI_of (own := RX0) rfl (by decide) rfl (Nat.le_of_ble_eq_true rfl) ?_
  intro p e s m args below meth c C hr hlocks hname
  show J p l e rmX0_side s m args below meth c _ 2 D vwCl _ 0 [(0, .ref (ad 0)), (1, .int (zI o))] [] (wX cB cI cZ ad w h aG aS G S CB SB DK DR RE PF PK CO rc pn kn cn) 0 0
  have hm := hs.mul
  obtain ⟨h1, h2, h3, h4⟩ := id hs
  refine j_iload_n C eX0_side_0 1 rfl ?_
  by_cases o0 : 0 ≤ o ∧ o ≤ 3
  ·
    have hfb : ∀ y x, y < h → x < w → -128 ≤ sdf w h G o y x ∧ sdf w h G o y x ≤ 127 := fun y x hy hx => by
      unfold sdf
      split
      · exact hG _ (ix_lt (by omega) hy)
      · split
        · exact hG _ (ix_lt hx (by omega))
        · split
          · exact bm_in _
          · split
            · exact bm_in _
            · omega
    have hcs : o = 0 ∨ o = 1 ∨ o = 2 ∨ o = 3 := by omega
    rcases hcs with rfl | rfl | rfl | rfl
    ·
      refine j_tsw C 32 eX0_side_1 (by omega) (by omega) (by omega) (off := 31) rfl (by decide) ?_
      refine j_aload_n C eX0_side_32 0 rfl ?_
      refine j_callVv C (As := []) (rest := []) (ctX0_mirrorRows l D cB cI cZ cL ad w h hs aG aS G S CB SB DK DR RE PF PK CO rc pn kn cn hG) (cwV 0 C.1.2.2.2.2 gX0_side_X0_mirrorRows rfl rfl rfl (by decide +kernel) ⟨Nat.le_of_ble_eq_true rfl, Nat.le_of_ble_eq_true rfl⟩) [0, 1, 2, 3, 4, 5, 6, 7, 8, 9, 10] [] (wr := []) rfl (by decide) rfl (by decide) (by decide) 0 rfl rfl rfl rfl (Nat.le_of_ble_eq_true rfl) eX0_side_33 ⟨Nat.le_of_ble_eq_true rfl, Nat.le_of_ble_eq_true rfl⟩ (fun w1 hp => ?_)
      obtain ⟨S', hS, rfl⟩ := hp
      rw [List.nil_append]
      have hS9 : scn w (sdf w h G 0) h 0 S' := fun y x hx hh => by rw [hS y x hx hh]; rfl
      refine j_goto C 62 eX0_side_36 (by decide) ?_
      refine j_aload_n C eX0_side_62 0 rfl ?_
      refine j_callVi C (As := []) (rest := []) (ctX0_takeSpare l D cB cI cZ cL ad w h hs aG aS G S' CB SB DK DR RE PF PK CO rc pn kn cn hG (scn_byt hs hS9 hfb)) (cwV 0 C.1.2.2.2.2 gX0_side_X0_takeSpare rfl rfl rfl (by decide +kernel) ⟨Nat.le_of_ble_eq_true rfl, Nat.le_of_ble_eq_true rfl⟩) [0, 1, 2, 3, 4, 5, 6, 7, 8, 9, 10] [] (wr := []) rfl (by decide) rfl (by decide) (by decide) 0 rfl rfl rfl rfl (Nat.le_of_ble_eq_true rfl) eX0_side_63 ⟨Nat.le_of_ble_eq_true rfl, Nat.le_of_ble_eq_true rfl⟩ (fun z w1 hp => ?_)
      obtain ⟨rfl, rfl⟩ := hp
      rw [List.nil_append]
      exact j_iret C hr hlocks rfl eX0_side_66 (by rw [if_pos (by omega)]; exact ⟨S', hS9, rfl, rfl⟩)
    ·
      refine j_tsw C 39 eX0_side_1 (by omega) (by omega) (by omega) (off := 38) rfl (by decide) ?_
      refine j_aload_n C eX0_side_39 0 rfl ?_
      refine j_callVv C (As := []) (rest := []) (ctX0_reverseRows l D cB cI cZ cL ad w h hs aG aS G S CB SB DK DR RE PF PK CO rc pn kn cn hG) (cwV 0 C.1.2.2.2.2 gX0_side_X0_reverseRows rfl rfl rfl (by decide +kernel) ⟨Nat.le_of_ble_eq_true rfl, Nat.le_of_ble_eq_true rfl⟩) [0, 1, 2, 3, 4, 5, 6, 7, 8, 9, 10] [] (wr := []) rfl (by decide) rfl (by decide) (by decide) 0 rfl rfl rfl rfl (Nat.le_of_ble_eq_true rfl) eX0_side_40 ⟨Nat.le_of_ble_eq_true rfl, Nat.le_of_ble_eq_true rfl⟩ (fun w1 hp => ?_)
      obtain ⟨S', hS, rfl⟩ := hp
      rw [List.nil_append]
      have hS9 : scn w (sdf w h G 1) h 0 S' := fun y x hx hh => by rw [hS y x hx hh]; rfl
      refine j_goto C 62 eX0_side_43 (by decide) ?_
      refine j_aload_n C eX0_side_62 0 rfl ?_
      refine j_callVi C (As := []) (rest := []) (ctX0_takeSpare l D cB cI cZ cL ad w h hs aG aS G S' CB SB DK DR RE PF PK CO rc pn kn cn hG (scn_byt hs hS9 hfb)) (cwV 0 C.1.2.2.2.2 gX0_side_X0_takeSpare rfl rfl rfl (by decide +kernel) ⟨Nat.le_of_ble_eq_true rfl, Nat.le_of_ble_eq_true rfl⟩) [0, 1, 2, 3, 4, 5, 6, 7, 8, 9, 10] [] (wr := []) rfl (by decide) rfl (by decide) (by decide) 0 rfl rfl rfl rfl (Nat.le_of_ble_eq_true rfl) eX0_side_63 ⟨Nat.le_of_ble_eq_true rfl, Nat.le_of_ble_eq_true rfl⟩ (fun z w1 hp => ?_)
      obtain ⟨rfl, rfl⟩ := hp
      rw [List.nil_append]
      exact j_iret C hr hlocks rfl eX0_side_66 (by rw [if_pos (by omega)]; exact ⟨S', hS9, rfl, rfl⟩)
    ·
      refine j_tsw C 46 eX0_side_1 (by omega) (by omega) (by omega) (off := 45) rfl (by decide) ?_
      refine j_aload_n C eX0_side_46 0 rfl ?_
      refine j_callVv C (As := []) (rest := []) (ctX0_invertGreys l D cB cI cZ cL ad w h hs aG aS G S CB SB DK DR RE PF PK CO rc pn kn cn ) (cwV 0 C.1.2.2.2.2 gX0_side_X0_invertGreys rfl rfl rfl (by decide +kernel) ⟨Nat.le_of_ble_eq_true rfl, Nat.le_of_ble_eq_true rfl⟩) [0, 1, 2, 3, 4, 5, 6, 7, 8, 9, 10] [] (wr := []) rfl (by decide) rfl (by decide) (by decide) 0 rfl rfl rfl rfl (Nat.le_of_ble_eq_true rfl) eX0_side_47 ⟨Nat.le_of_ble_eq_true rfl, Nat.le_of_ble_eq_true rfl⟩ (fun w1 hp => ?_)
      obtain ⟨S', hS, rfl⟩ := hp
      rw [List.nil_append]
      have hS9 : scn w (sdf w h G 2) h 0 S' := fun y x hx hh => by rw [hS _ (ix_lt hx (by omega))]; rfl
      refine j_goto C 62 eX0_side_50 (by decide) ?_
      refine j_aload_n C eX0_side_62 0 rfl ?_
      refine j_callVi C (As := []) (rest := []) (ctX0_takeSpare l D cB cI cZ cL ad w h hs aG aS G S' CB SB DK DR RE PF PK CO rc pn kn cn hG (scn_byt hs hS9 hfb)) (cwV 0 C.1.2.2.2.2 gX0_side_X0_takeSpare rfl rfl rfl (by decide +kernel) ⟨Nat.le_of_ble_eq_true rfl, Nat.le_of_ble_eq_true rfl⟩) [0, 1, 2, 3, 4, 5, 6, 7, 8, 9, 10] [] (wr := []) rfl (by decide) rfl (by decide) (by decide) 0 rfl rfl rfl rfl (Nat.le_of_ble_eq_true rfl) eX0_side_63 ⟨Nat.le_of_ble_eq_true rfl, Nat.le_of_ble_eq_true rfl⟩ (fun z w1 hp => ?_)
      obtain ⟨rfl, rfl⟩ := hp
      rw [List.nil_append]
      exact j_iret C hr hlocks rfl eX0_side_66 (by rw [if_pos (by omega)]; exact ⟨S', hS9, rfl, rfl⟩)
    ·
      refine j_tsw C 53 eX0_side_1 (by omega) (by omega) (by omega) (off := 52) rfl (by decide) ?_
      refine j_aload_n C eX0_side_53 0 rfl ?_
      refine j_callVv C (As := []) (rest := []) (ctX0_halve l D cB cI cZ cL ad w h hs aG aS G S CB SB DK DR RE PF PK CO rc pn kn cn ) (cwV 0 C.1.2.2.2.2 gX0_side_X0_halve rfl rfl rfl (by decide +kernel) ⟨Nat.le_of_ble_eq_true rfl, Nat.le_of_ble_eq_true rfl⟩) [0, 1, 2, 3, 4, 5, 6, 7, 8, 9, 10] [] (wr := []) rfl (by decide) rfl (by decide) (by decide) 0 rfl rfl rfl rfl (Nat.le_of_ble_eq_true rfl) eX0_side_54 ⟨Nat.le_of_ble_eq_true rfl, Nat.le_of_ble_eq_true rfl⟩ (fun w1 hp => ?_)
      obtain ⟨S', hS, rfl⟩ := hp
      rw [List.nil_append]
      have hS9 : scn w (sdf w h G 3) h 0 S' := fun y x hx hh => by
        have e9 : sdf w h G 3 y x = if x < w / 2 ∧ y < h / 2 then mn4 w G y x else -1 := by unfold sdf; rw [if_neg (by omega), if_neg (by omega), if_neg (by omega)]
        rw [hS y x hx (by omega), e9]
        by_cases q : x < w / 2 ∧ y < h / 2
        · rw [if_pos (by omega), if_pos q]
        · rw [if_neg (by omega), if_neg q]
      refine j_goto C 62 eX0_side_57 (by decide) ?_
      refine j_aload_n C eX0_side_62 0 rfl ?_
      refine j_callVi C (As := []) (rest := []) (ctX0_takeSpare l D cB cI cZ cL ad w h hs aG aS G S' CB SB DK DR RE PF PK CO rc pn kn cn hG (scn_byt hs hS9 hfb)) (cwV 0 C.1.2.2.2.2 gX0_side_X0_takeSpare rfl rfl rfl (by decide +kernel) ⟨Nat.le_of_ble_eq_true rfl, Nat.le_of_ble_eq_true rfl⟩) [0, 1, 2, 3, 4, 5, 6, 7, 8, 9, 10] [] (wr := []) rfl (by decide) rfl (by decide) (by decide) 0 rfl rfl rfl rfl (Nat.le_of_ble_eq_true rfl) eX0_side_63 ⟨Nat.le_of_ble_eq_true rfl, Nat.le_of_ble_eq_true rfl⟩ (fun z w1 hp => ?_)
      obtain ⟨rfl, rfl⟩ := hp
      rw [List.nil_append]
      exact j_iret C hr hlocks rfl eX0_side_66 (by rw [if_pos (by omega)]; exact ⟨S', hS9, rfl, rfl⟩)
  ·
    refine j_tswO C 60 eX0_side_1 ho (by omega) (by decide) ?_
    refine j_iconst C eX0_side_60 ?_
    exact j_iret C hr hlocks rfl eX0_side_61 (by rw [if_neg o0]; exact ⟨rfl, rfl⟩)
