/-! THE CLASS: shears -/
theorem tm_nat (a b : Nat) : (a : Int).tmod (b : Int) = ((a % b : Nat) : Int) := by
  rw [Int.tmod_eq_emod_of_nonneg (Int.natCast_nonneg a)]
  exact (Int.natCast_emod a b).symm
theorem shr_lt {h : Nat} (hh : 1 ≤ h) (b : Int) (x : Nat) : shr h b x < h := by
  unfold shr
  have h1 := Int.emod_lt_of_pos (b * (x : Int) / 32) (b := (h : Int)) (by omega)
  have h2 := Int.emod_nonneg (b * (x : Int) / 32) (b := (h : Int)) (by omega)
  omega
def ccl (w h : Nat) (D : Nat → Int) (b : Int) (r x y : Nat) : Int := if D (y * w + x) = 1 ∧ (y + shr h b x) % h = r then 1 else 0
/-- how many dark greys row r has in the sheet sheared by b; the sum of their squares -/
def rwc (w h : Nat) (D : Nat → Int) (b : Int) (r : Nat) : Int := sumN (fun x => sumN (fun y => ccl w h D b r x y) h) w
def ssq (w h : Nat) (D : Nat → Int) (b : Int) : Int := sumN (fun r => rwc w h D b r * rwc w h D b r) h
def prt (w h : Nat) (D : Nat → Int) (b : Int) (x y r : Nat) : Int := sumN (fun x => sumN (fun y => ccl w h D b r x y) h) x + sumN (fun y => ccl w h D b r x y) y
theorem prt_y (w h : Nat) (D : Nat → Int) (b : Int) (x y r : Nat) : prt w h D b x (y + 1) r = prt w h D b x y r + ccl w h D b r x y := (Int.add_assoc _ _ _).symm
theorem prt_x (w h : Nat) (D : Nat → Int) (b : Int) (x r : Nat) : prt w h D b (x + 1) 0 r = prt w h D b x h r := Int.add_zero _
theorem ccl_01 (w h : Nat) (D : Nat → Int) (b : Int) (r x y : Nat) : 0 ≤ ccl w h D b r x y ∧ ccl w h D b r x y ≤ 1 := by unfold ccl; split <;> omega
theorem rwc_in {w h : Nat} (hs : Sz w h) (D : Nat → Int) (b : Int) (r : Nat) : 0 ≤ rwc w h D b r ∧ rwc w h D b r ≤ 2304 := by
  obtain ⟨h1, h2, h3, h4⟩ := hs
  have i1 : ∀ x, 0 ≤ sumN (fun y => ccl w h D b r x y) h ∧ sumN (fun y => ccl w h D b r x y) h ≤ 48 := fun x => by
    constructor
    · exact sumN_nn (fun y _ => (ccl_01 w h D b r x y).1)
    · have := sumN_le (f := fun y => ccl w h D b r x y) (g := fun _ => 1) (n := h) (fun y _ => (ccl_01 w h D b r x y).2)
      rw [sumN_c] at this
      omega
  unfold rwc
  constructor
  · exact sumN_nn (fun x _ => (i1 x).1)
  · have := sumN_le (f := fun x => sumN (fun y => ccl w h D b r x y) h) (g := fun _ => 48) (n := w) (fun x _ => (i1 x).2)
    rw [sumN_c] at this
    omega
theorem ssq_in {w h : Nat} (hs : Sz w h) (D : Nat → Int) (b : Int) : 0 ≤ ssq w h D b ∧ ssq w h D b ≤ 254803968 := by
  have i1 : ∀ r, 0 ≤ rwc w h D b r * rwc w h D b r ∧ rwc w h D b r * rwc w h D b r ≤ 5308416 := fun r => by
    have h1 := rwc_in hs D b r
    exact ⟨Int.mul_nonneg h1.1 h1.1, Int.mul_le_mul h1.2 h1.2 h1.1 (by omega)⟩
  obtain ⟨h1, h2, h3, h4⟩ := hs
  unfold ssq
  constructor
  · exact sumN_nn (fun x _ => (i1 x).1)
  · have := sumN_le (f := fun r => rwc w h D b r * rwc w h D b r) (g := fun _ => 5308416) (n := h) (fun x _ => (i1 x).2)
    rw [sumN_c] at this
    omega
theorem ssq_congr {w h : Nat} {D D' : Nat → Int} (hD : ∀ k, k < w * h → D k = D' k) (b : Int) : ssq w h D b = ssq w h D' b := by
  have h1 : ∀ r, rwc w h D b r = rwc w h D' b r := fun r => sumN_congr (fun x hx => sumN_congr (fun y hy => by unfold ccl; rw [hD _ (ix_lt hx hy)]))
  exact sumN_congr (fun r _ => by rw [h1 r])
/-- the better of two leans; the best of those from the middle outwards -/
def pk2 (f : Int → Int) (b c : Int) : Int := if f b < f c then c else b
def skb (f : Int → Int) : Nat → Int
  | 0 => 0
  | n + 1 => pk2 f (pk2 f (skb f n) (-((n : Int) + 1))) ((n : Int) + 1)
theorem pk2_in {f : Int → Int} {b c : Int} {P : Int → Prop} (hb : P b) (hc : P c) : P (pk2 f b c) := by unfold pk2; split <;> assumption
theorem skb_in (f : Int → Int) : ∀ n : Nat, -(n : Int) ≤ skb f n ∧ skb f n ≤ (n : Int)
  | 0 => by unfold skb; omega
  | n + 1 => by
    have h := skb_in f n
    unfold skb
    exact pk2_in (P := fun z => -((n + 1 : Nat) : Int) ≤ z ∧ z ≤ ((n + 1 : Nat) : Int)) (pk2_in (P := fun z => -((n + 1 : Nat) : Int) ≤ z ∧ z ≤ ((n + 1 : Nat) : Int)) (by omega) (by omega)) (by omega)
theorem skb_congr {f f' : Int → Int} (h : ∀ b, f b = f' b) (n : Nat) : skb f n = skb f' n := by rw [show f = f' from funext h]
theorem mod_add_inj {a b s h : Nat} (ha : a < h) (hb : b < h) (e : (a + s) % h = (b + s) % h) : a = b := by
  have key : ∀ a b : Nat, a ≤ b → b < h → (a + s) % h = (b + s) % h → a = b := fun a b hab hb e => by
    have h1 := Nat.sub_mod_eq_zero_of_mod_eq e.symm
    have h2 : b + s - (a + s) = b - a := by omega
    rw [h2, Nat.mod_eq_of_lt (by omega)] at h1
    omega
  rcases Nat.le_total a b with q | q
  · exact key a b q hb e
  · exact (key b a q ha e.symm).symm
/-- the columns ahead of x, and of column x the greys ahead of y, are sheared -/
def tnd (w h : Nat) (G : Nat → Int) (b : Int) (x y : Nat) (S : Nat → Int) : Prop := ∀ x' y', x' < w → y' < h → (x' < x ∨ (x' = x ∧ y' < y)) → S ((y' + shr h b x') % h * w + x') = G (y' * w + x')
theorem tnd_put {w h : Nat} {G : Nat → Int} {b : Int} {x y : Nat} {S : Nat → Int} (h0 : tnd w h G b x y S) (hx : x < w) (hy : y < h) : tnd w h G b x (y + 1) (zup S ((y + shr h b x) % h * w + x) (G (y * w + x))) := by
  intro x' y' hx' hy' hh
  by_cases e : (y' + shr h b x') % h * w + x' = (y + shr h b x) % h * w + x
  · obtain ⟨e1, rfl⟩ := ix_inj hx' hx e
    have e2 := mod_add_inj hy' hy e1
    subst e2
    exact zup_s
  · rw [zup_n e]
    refine h0 x' y' hx' hy' ?_
    rcases hh with hh | ⟨rfl, hh⟩
    · exact Or.inl hh
    · refine Or.inr ⟨rfl, ?_⟩
      have : y' ≠ y := fun q => e (by rw [q])
      omega
theorem tnd_col {w h : Nat} {G : Nat → Int} {b : Int} {x : Nat} {S : Nat → Int} (h0 : tnd w h G b x h S) : tnd w h G b (x + 1) 0 S := fun x' y' hx' hy' hh => h0 x' y' hx' hy' (by omega)
theorem ix_of {w h k : Nat} (hw : 1 ≤ w) (hk : k < w * h) : k / w < h ∧ k % w < w ∧ k / w * w + k % w = k := by
  refine ⟨Nat.div_lt_of_lt_mul hk, Nat.mod_lt _ (by omega), ?_⟩
  rw [Nat.mul_comm]; exact Nat.div_add_mod k w
/-- every place of a sheared sheet is told -/
theorem tnd_all {w h : Nat} {G : Nat → Int} {b : Int} {S : Nat → Int} (hs : Sz w h) (h0 : tnd w h G b w 0 S) {k : Nat} (hk : k < w * h) : S k = G ((k / w + (h - shr h b (k % w))) % h * w + k % w) ∧ (k / w + (h - shr h b (k % w))) % h * w + k % w < w * h := by
  obtain ⟨h1, h2, h3, h4⟩ := hs
  obtain ⟨e1, e2, e3⟩ := ix_of h1 hk
  have hsl := shr_lt h3 b (k % w)
  have hy : (k / w + (h - shr h b (k % w))) % h < h := Nat.mod_lt _ (by omega)
  refine ⟨?_, ix_lt e2 hy⟩
  rw [← h0 (k % w) _ e2 hy (Or.inl e2)]
  congr 1
  rw [Nat.mod_add_mod, show k / w + (h - shr h b (k % w)) + shr h b (k % w) = k / w + h by omega, Nat.add_mod_right, Nat.mod_eq_of_lt e1, e3]
theorem tnd_byt {w h : Nat} {G : Nat → Int} {b : Int} {S : Nat → Int} (hs : Sz w h) (h0 : tnd w h G b w 0 S) (hG : byt (w * h) G) : byt (w * h) S := fun k hk => by
  obtain ⟨e, hl⟩ := tnd_all hs h0 hk
  rw [e]
  exact hG _ hl
theorem hwsX0_sumOfSquares : ∀ w ∈ u_ws RX0 TX0 16, w ∈ wsX0_sumOfSquares := fun _ h => List.mem_cons_of_mem _ (List.mem_append_right _ h)
theorem kX0_sumOfSquares_18 : Cond.fieldLink RX0 18 "SheetRows" (TX0 0).2.1 (TX0 0).2.2.1 ∈ wsX0_sumOfSquares := by decide +kernel
theorem kX0_sumOfSquares_22 : Cond.fieldLink RX0 22 "SheetRows" (TX0 1).2.1 (TX0 1).2.2.1 ∈ wsX0_sumOfSquares := by decide +kernel
theorem kX0_sumOfSquares_39 : Cond.fieldLink RX0 39 "SheetRows" (TX0 6).2.1 (TX0 6).2.2.1 ∈ wsX0_sumOfSquares := by decide +kernel
theorem kX0_sumOfSquares_43 : Cond.fieldLink RX0 43 "SheetRows" (TX0 7).2.1 (TX0 7).2.2.1 ∈ wsX0_sumOfSquares := by decide +kernel
abbrev rmX0_sumOfSquares : Room := { frames := 2, cells := 0, slots := 0, locals := 44 }
set_option maxHeartbeats 4000000 in
set_option maxRecDepth 100000 in
theorem lqX0_sumOfSquares {p : Program} {l : Launch} {e : Env} {s : State} {m : MethodId} {args : Array Value} {below : List Frame} {meth : Method} {c : Code} {Q : State → Prop} {D : va_G} {A : Nat → Prop} {cB cI cZ cL : ClassId} {w h : Nat} {ad : Nat → Nat} {aG aS : Nat} {G S CB SB DK RE PF PK CO : Nat → Int} {rc pn kn cn : Int} (C : JC p m c cX0_sumOfSquares 5 s args wsX0_sumOfSquares RX0 D vwCl (tyl cB cI cZ cL) A) (hs : Sz w h) {b : Int} (hDK : ∀ k, k < w * h → DK k = 0 ∨ DK k = 1) {x : Nat} (hx : x < w) (kx : ∀ DR : Nat → Int, (∀ r, r < h → DR r = prt w h DK b x h r) → J p l e rmX0_sumOfSquares s m args below meth c Q 5 D vwCl A 78 [(0, .ref (ad 0)), (1, .int (zI b)), (2, .int (zI (x : Int))), (3, .int (zI ((shr h b x : Nat) : Int))), (4, .int (zI (h : Int)))] [] (wX cB cI cZ ad w h aG aS G S CB SB DK DR RE PF PK CO rc pn kn cn) 0 0) : ∀ (n y : Nat) (DR : Nat → Int), y ≤ h → h - y < n → (∀ r, r < h → DR r = prt w h DK b x y r) → J p l e rmX0_sumOfSquares s m args below meth c Q 5 D vwCl A 28 [(0, .ref (ad 0)), (1, .int (zI b)), (2, .int (zI (x : Int))), (3, .int (zI ((shr h b x : Nat) : Int))), (4, .int (zI (y : Int)))] [] (wX cB cI cZ ad w h aG aS G S CB SB DK DR RE PF PK CO rc pn kn cn) 0 0 := by
  have hm := hs.mul
  obtain ⟨h1, h2, h3, h4⟩ := id hs
  have hsl := shr_lt h3 b x
  intro n
  induction n with
  | zero => intro y DR _ hn; exact absurd hn (Nat.not_lt_zero _)
  | succ n ih =>
    intro y DR hy hn hDR
    refine j_iload C eX0_sumOfSquares_28 4 rfl ?_
    refine j_aload_n C eX0_sumOfSquares_30 0 rfl ?_
    refine j_getf C hwsX0_sumOfSquares 0 rfl rfl 1 (by decide) kX0_sumOfSquares_22 rfl rfl eX0_sumOfSquares_31 ?_
    refine j_icmp_ge C 78 eX0_sumOfSquares_34 (by decide) (by omega) (by omega) (fun c34 => ?_) (fun c34 => ?_)
    ·
      have he : y = h := by omega
      subst he
      exact kx DR hDR
    ·
      have h7 := ix_lt (w := w) (h := h) (x := x) (y := y) hx (by omega)
      have hd0 := hDK _ h7
      refine j_aload_n C eX0_sumOfSquares_37 0 rfl ?_
      refine j_getf C hwsX0_sumOfSquares 0 rfl rfl 6 (by decide) kX0_sumOfSquares_39 rfl rfl eX0_sumOfSquares_38 ?_
      refine j_iload C eX0_sumOfSquares_41 4 rfl ?_
      refine j_aload_n C eX0_sumOfSquares_43 0 rfl ?_
      refine j_getf C hwsX0_sumOfSquares 0 rfl rfl 0 (by decide) kX0_sumOfSquares_18 rfl rfl eX0_sumOfSquares_44 ?_
      refine j_imul C eX0_sumOfSquares_47 ?_
      refine j_iload_n C eX0_sumOfSquares_48 2 rfl ?_
      refine j_iadd C eX0_sumOfSquares_49 ?_
      refine j_zald C 5 2 rfl rfl (y * w + x) (by push_cast; rfl) h7 (by omega) eX0_sumOfSquares_50 ?_
      refine j_if_eq C 72 eX0_sumOfSquares_51 (by decide) (by omega) (fun c51 => ?_) (fun c51 => ?_)
      ·
        refine j_iinc C eX0_sumOfSquares_72 4 rfl rfl (by decide) (lv' := [(0, .ref (ad 0)), (1, .int (zI b)), (2, .int (zI (x : Int))), (3, .int (zI ((shr h b x : Nat) : Int))), (4, .int (zI ((y : Int) + 1)))]) rfl ?_
        refine j_goto C 28 eX0_sumOfSquares_75 (by decide) ?_
        refine ih (y + 1) _ (by omega) (by omega) (fun r hr => ?_)
        have e1 : prt w h DK b x (y + 1) r = prt w h DK b x y r + ccl w h DK b r x y := prt_y w h DK b x y r
        have e2 : ccl w h DK b r x y = 0 := by
          unfold ccl
          rw [if_neg (fun q => by omega)]
        rw [e1, e2, hDR r hr]; omega
      ·
        refine j_aload_n C eX0_sumOfSquares_54 0 rfl ?_
        refine j_getf C hwsX0_sumOfSquares 0 rfl rfl 7 (by decide) kX0_sumOfSquares_43 rfl rfl eX0_sumOfSquares_55 ?_
        refine j_iload C eX0_sumOfSquares_58 4 rfl ?_
        refine j_iload_n C eX0_sumOfSquares_60 3 rfl ?_
        refine j_iadd C eX0_sumOfSquares_61 ?_
        refine j_aload_n C eX0_sumOfSquares_62 0 rfl ?_
        refine j_getf C hwsX0_sumOfSquares 0 rfl rfl 1 (by decide) kX0_sumOfSquares_22 rfl rfl eX0_sumOfSquares_63 ?_
        refine j_irem C eX0_sumOfSquares_66 (by omega) (by omega) ?_
        have hrl : (y + shr h b x) % h < h := Nat.mod_lt _ (by omega)
        have er : ((y : Int) + ((shr h b x : Nat) : Int)).tmod (h : Int) = (((y + shr h b x) % h : Nat) : Int) := by rw [← tm_nat]; push_cast; rfl
        rw [er]
        refine j_dup2 C eX0_sumOfSquares_67 rfl rfl ?_
        refine j_iald C 6 1 rfl rfl ((y + shr h b x) % h) rfl (by omega) (by omega) eX0_sumOfSquares_68 ?_
        refine j_iconst C eX0_sumOfSquares_69 ?_
        refine j_iadd C eX0_sumOfSquares_70 ?_
        refine j_iast C 6 1 rfl rfl ((y + shr h b x) % h) rfl (by omega) (by omega) eX0_sumOfSquares_71 (wd' := wX cB cI cZ ad w h aG aS G S CB SB DK (zup DR ((y + shr h b x) % h) ((DR ((y + shr h b x) % h)) + 1)) RE PF PK CO rc pn kn cn) rfl ?_
        refine j_iinc C eX0_sumOfSquares_72 4 rfl rfl (by decide) (lv' := [(0, .ref (ad 0)), (1, .int (zI b)), (2, .int (zI (x : Int))), (3, .int (zI ((shr h b x : Nat) : Int))), (4, .int (zI ((y : Int) + 1)))]) rfl ?_
        refine j_goto C 28 eX0_sumOfSquares_75 (by decide) ?_
        refine ih (y + 1) _ (by omega) (by omega) (fun r hr => ?_)
        have e1 : prt w h DK b x (y + 1) r = prt w h DK b x y r + ccl w h DK b r x y := prt_y w h DK b x y r
        have e2 : ccl w h DK b r x y = if (y + shr h b x) % h = r then 1 else 0 := by
          unfold ccl
          have hd1 : DK (y * w + x) = 1 := by have := hDK _ h7; omega
          by_cases c : (y + shr h b x) % h = r
          · rw [if_pos c, if_pos ⟨hd1, c⟩]
          · rw [if_neg c, if_neg (fun q => c q.2)]
        rw [e1, e2]
        by_cases e : r = (y + shr h b x) % h
        · subst e
          rw [zup_s, if_pos rfl, hDR _ hrl]
        · rw [zup_n e, if_neg (fun q => e q.symm), hDR r hr]; omega
set_option maxHeartbeats 4000000 in
set_option maxRecDepth 100000 in
theorem lpX0_sumOfSquares {p : Program} {l : Launch} {e : Env} {s : State} {m : MethodId} {args : Array Value} {below : List Frame} {meth : Method} {c : Code} {Q : State → Prop} {D : va_G} {A : Nat → Prop} {cB cI cZ cL : ClassId} {w h : Nat} {ad : Nat → Nat} {aG aS : Nat} {G S CB SB DK RE PF PK CO : Nat → Int} {rc pn kn cn : Int} (C : JC p m c cX0_sumOfSquares 5 s args wsX0_sumOfSquares RX0 D vwCl (tyl cB cI cZ cL) A) (hs : Sz w h) {b : Int} (hb : -100 ≤ b ∧ b ≤ 100) (hDK : ∀ k, k < w * h → DK k = 0 ∨ DK k = 1) (kx : ∀ DR : Nat → Int, (∀ r, r < h → DR r = rwc w h DK b r) → J p l e rmX0_sumOfSquares s m args below meth c Q 5 D vwCl A 84 [(0, .ref (ad 0)), (1, .int (zI b)), (2, .int (zI (w : Int)))] [] (wX cB cI cZ ad w h aG aS G S CB SB DK DR RE PF PK CO rc pn kn cn) 0 0) : ∀ (n x : Nat) (DR : Nat → Int), x ≤ w → w - x < n → (∀ r, r < h → DR r = prt w h DK b x 0 r) → J p l e rmX0_sumOfSquares s m args below meth c Q 5 D vwCl A 10 [(0, .ref (ad 0)), (1, .int (zI b)), (2, .int (zI (x : Int)))] [] (wX cB cI cZ ad w h aG aS G S CB SB DK DR RE PF PK CO rc pn kn cn) 0 0 := by
  have hm := hs.mul
  obtain ⟨h1, h2, h3, h4⟩ := id hs
  intro n
  induction n with
  | zero => intro y DR _ hn; exact absurd hn (Nat.not_lt_zero _)
  | succ n ih =>
    intro x DR hx hn hDR
    refine j_iload_n C eX0_sumOfSquares_10 2 rfl ?_
    refine j_aload_n C eX0_sumOfSquares_11 0 rfl ?_
    refine j_getf C hwsX0_sumOfSquares 0 rfl rfl 0 (by decide) kX0_sumOfSquares_18 rfl rfl eX0_sumOfSquares_12 ?_
    refine j_icmp_ge C 84 eX0_sumOfSquares_15 (by decide) (by omega) (by omega) (fun c15 => ?_) (fun c15 => ?_)
    ·
      have he : x = w := by omega
      subst he
      exact kx DR (fun r hr => by rw [hDR r hr]; unfold prt rwc; show _ + 0 = _; omega)
    ·
      refine j_aload_n C eX0_sumOfSquares_18 0 rfl ?_
      refine j_iload_n C eX0_sumOfSquares_19 2 rfl ?_
      refine j_iload_n C eX0_sumOfSquares_20 1 rfl ?_
      refine j_callVi C (As := [.int (zI (x : Int)), .int (zI b)]) (rest := []) (ctX0_shearAt l D cB cI cZ cL ad w h hs aG aS G S CB SB DK DR RE PF PK CO rc pn kn cn x (by omega) b hb) (cwV 2 C.1.2.2.2.2 gX0_sumOfSquares_X0_shearAt rfl rfl rfl (by decide +kernel) ⟨Nat.le_of_ble_eq_true rfl, Nat.le_of_ble_eq_true rfl⟩) [0, 1, 2, 3, 4, 5, 6, 7, 8, 9, 10] [] (wr := []) rfl (by decide) rfl (by decide) (by decide) 0 rfl rfl rfl rfl (Nat.le_of_ble_eq_true rfl) eX0_sumOfSquares_21 ⟨Nat.le_of_ble_eq_true rfl, Nat.le_of_ble_eq_true rfl⟩ (fun z w1 hp => ?_)
      obtain ⟨rfl, rfl⟩ := hp
      rw [List.nil_append]
      refine j_istore_n C eX0_sumOfSquares_24 rfl (by decide) (lv' := [(0, .ref (ad 0)), (1, .int (zI b)), (2, .int (zI (x : Int))), (3, .int (zI ((shr h b x : Nat) : Int)))]) rfl ?_
      refine j_iconst C eX0_sumOfSquares_25 ?_
      refine j_istore C eX0_sumOfSquares_26 rfl (by decide) (lv' := [(0, .ref (ad 0)), (1, .int (zI b)), (2, .int (zI (x : Int))), (3, .int (zI ((shr h b x : Nat) : Int))), (4, .int (zI 0))]) rfl ?_
      refine lqX0_sumOfSquares C hs hDK (by omega) (fun DR hDR => ?_) (h + 1) 0 DR (by omega) (by omega) hDR
      refine j_iinc C eX0_sumOfSquares_78 2 rfl rfl (by decide) (lv' := [(0, .ref (ad 0)), (1, .int (zI b)), (2, .int (zI ((x : Int) + 1))), (3, .int (zI ((shr h b x : Nat) : Int))), (4, .int (zI (h : Int)))]) rfl ?_
      refine j_goto C 10 eX0_sumOfSquares_81 (by decide) ?_
      refine j_loc [0, 1, 2] (lv' := [(0, .ref (ad 0)), (1, .int (zI b)), (2, .int (zI ((x : Int) + 1)))]) rfl ?_
      exact ih (x + 1) DR (by omega) (by omega) (fun r hr => by rw [hDR r hr, prt_x])
set_option maxHeartbeats 4000000 in
set_option maxRecDepth 100000 in
theorem lrX0_sumOfSquares {p : Program} {l : Launch} {e : Env} {s : State} {m : MethodId} {args : Array Value} {below : List Frame} {meth : Method} {c : Code} {Q : State → Prop} {D : va_G} {A : Nat → Prop} {cB cI cZ cL : ClassId} {w h : Nat} {ad : Nat → Nat} {aG aS : Nat} {G S CB SB DK DR RE PF PK CO : Nat → Int} {rc pn kn cn : Int} (C : JC p m c cX0_sumOfSquares 5 s args wsX0_sumOfSquares RX0 D vwCl (tyl cB cI cZ cL) A) (hs : Sz w h) {b : Int} (hDR : ∀ r, r < h → DR r = rwc w h DK b r) (kx : J p l e rmX0_sumOfSquares s m args below meth c Q 5 D vwCl A 118 [(0, .ref (ad 0)), (1, .int (zI b)), (2, .int (zI (sumN (fun r => rwc w h DK b r * rwc w h DK b r) h))), (3, .int (zI (h : Int)))] [] (wX cB cI cZ ad w h aG aS G S CB SB DK DR RE PF PK CO rc pn kn cn) 0 0) : ∀ (n r : Nat), r ≤ h → h - r < n → J p l e rmX0_sumOfSquares s m args below meth c Q 5 D vwCl A 88 [(0, .ref (ad 0)), (1, .int (zI b)), (2, .int (zI (sumN (fun r => rwc w h DK b r * rwc w h DK b r) r))), (3, .int (zI (r : Int)))] [] (wX cB cI cZ ad w h aG aS G S CB SB DK DR RE PF PK CO rc pn kn cn) 0 0 := by
  obtain ⟨h1, h2, h3, h4⟩ := id hs
  intro n
  induction n with
  | zero => intro y _ hn; exact absurd hn (Nat.not_lt_zero _)
  | succ n ih =>
    intro r hr hn
    refine j_iload_n C eX0_sumOfSquares_88 3 rfl ?_
    refine j_aload_n C eX0_sumOfSquares_89 0 rfl ?_
    refine j_getf C hwsX0_sumOfSquares 0 rfl rfl 1 (by decide) kX0_sumOfSquares_22 rfl rfl eX0_sumOfSquares_90 ?_
    refine j_icmp_ge C 118 eX0_sumOfSquares_93 (by decide) (by omega) (by omega) (fun c93 => ?_) (fun c93 => ?_)
    ·
      have he : r = h := by omega
      subst he
      exact kx
    ·
      refine j_iload_n C eX0_sumOfSquares_96 2 rfl ?_
      refine j_aload_n C eX0_sumOfSquares_97 0 rfl ?_
      refine j_getf C hwsX0_sumOfSquares 0 rfl rfl 7 (by decide) kX0_sumOfSquares_43 rfl rfl eX0_sumOfSquares_98 ?_
      refine j_iload_n C eX0_sumOfSquares_101 3 rfl ?_
      refine j_iald C 6 1 rfl rfl r rfl (by omega) (by omega) eX0_sumOfSquares_102 ?_
      refine j_aload_n C eX0_sumOfSquares_103 0 rfl ?_
      refine j_getf C hwsX0_sumOfSquares 0 rfl rfl 7 (by decide) kX0_sumOfSquares_43 rfl rfl eX0_sumOfSquares_104 ?_
      refine j_iload_n C eX0_sumOfSquares_107 3 rfl ?_
      refine j_iald C 6 1 rfl rfl r rfl (by omega) (by omega) eX0_sumOfSquares_108 ?_
      refine j_imul C eX0_sumOfSquares_109 ?_
      refine j_iadd C eX0_sumOfSquares_110 ?_
      refine j_istore_n C eX0_sumOfSquares_111 rfl (by decide) (lv' := [(0, .ref (ad 0)), (1, .int (zI b)), (2, .int (zI ((sumN (fun r => rwc w h DK b r * rwc w h DK b r) r) + ((DR r) * (DR r))))), (3, .int (zI (r : Int)))]) rfl ?_
      refine j_iinc C eX0_sumOfSquares_112 3 rfl rfl (by decide) (lv' := [(0, .ref (ad 0)), (1, .int (zI b)), (2, .int (zI ((sumN (fun r => rwc w h DK b r * rwc w h DK b r) r) + ((DR r) * (DR r))))), (3, .int (zI ((r : Int) + 1)))]) rfl ?_
      refine j_goto C 88 eX0_sumOfSquares_115 (by decide) ?_
      have hb9 := ih (r + 1) (by omega) (by omega)
      rw [hDR r (by omega)]
      exact hb9
set_option maxHeartbeats 4000000 in
set_option maxRecDepth 100000 in
theorem ctX0_sumOfSquares (l : Launch) (D : va_G) (cB cI cZ cL : ClassId) (ad : Nat → Nat) (w h : Nat) (hs : Sz w h) (aG aS : Nat) (G S CB SB DK DR RE PF PK CO : Nat → Int) (rc pn kn cn : Int) (b : Int) (hb : -100 ≤ b ∧ b ≤ 100) (hDK : ∀ k, k < w * h → DK k = 0 ∨ DK k = 1) : mI l yX0_sumOfSquares wsX0_sumOfSquares rmX0_sumOfSquares D vwCl (tyl cB cI cZ cL) [.ref (ad 0), .int (zI b)] (wX cB cI cZ ad w h aG aS G S CB SB DK DR RE PF PK CO rc pn kn cn) 0 0 (fun z w1 => ∃ DR' : Nat → Int, w1 = wX cB cI cZ ad w h aG aS G S CB SB DK DR' RE PF PK CO rc pn kn cn ∧ z = ssq w h DK b) := by
  refine mI_of (own := RX0) rfl (by decide) rfl (Nat.le_of_ble_eq_true rfl) ?_
  intro p e s m args below meth c C hr hlocks hname
  show J p l e rmX0_sumOfSquares s m args below meth c _ 5 D vwCl _ 0 [(0, .ref (ad 0)), (1, .int (zI b))] [] (wX cB cI cZ ad w h aG aS G S CB SB DK DR RE PF PK CO rc pn kn cn) 0 0
  have hm := hs.mul
  obtain ⟨h1, h2, h3, h4⟩ := id hs
  refine j_aload_n C eX0_sumOfSquares_0 0 rfl ?_
  refine j_getf C hwsX0_sumOfSquares 0 rfl rfl 7 (by decide) kX0_sumOfSquares_43 rfl rfl eX0_sumOfSquares_1 ?_
  refine j_iconst C eX0_sumOfSquares_4 ?_
  refine j_callSv C (As := [.ref (ad 7), .int (zI 0)]) (rest := []) (ctJ7_fill_53178 l D cB cI cZ cL (ad 7) h DR 0 (by omega)) (va_cwS 2 C.1.2.2.2.2 gX0_sumOfSquares_J7_fill_53178 rfl rfl rfl (by decide +kernel) ⟨Nat.le_of_ble_eq_true rfl, Nat.le_of_ble_eq_true rfl⟩) [6] [0, 1, 2, 3, 4, 5, 7, 8, 9, 10] (wr := ([0, 1, 2, 3, 4, 5, 7, 8, 9, 10].filterMap (fun i => (wX cB cI cZ ad w h aG aS G S CB SB DK DR RE PF PK CO rc pn kn cn)[i]?))) rfl (by decide) rfl (by decide) (by decide) rfl rfl (Nat.le_of_ble_eq_true rfl) eX0_sumOfSquares_5 ⟨Nat.le_of_ble_eq_true rfl, Nat.le_of_ble_eq_true rfl⟩ (fun w1 hp => ?_)
  obtain ⟨DR1, hDR1, rfl⟩ := hp
  refine j_perm [0, 1, 2, 3, 4, 5, 10, 6, 7, 8, 9] (by decide) (wd' := wX cB cI cZ ad w h aG aS G S CB SB DK DR1 RE PF PK CO rc pn kn cn) rfl ?_
  refine j_iconst C eX0_sumOfSquares_8 ?_
  refine j_istore_n C eX0_sumOfSquares_9 rfl (by decide) (lv' := [(0, .ref (ad 0)), (1, .int (zI b)), (2, .int (zI 0))]) rfl ?_
  refine lpX0_sumOfSquares C hs hb hDK (fun DR2 hDR2 => ?_) (w + 1) 0 DR1 (by omega) (by omega) (fun r hr => by rw [hDR1 r hr]; rfl)
  refine j_iconst C eX0_sumOfSquares_84 ?_
  refine j_istore_n C eX0_sumOfSquares_85 rfl (by decide) (lv' := [(0, .ref (ad 0)), (1, .int (zI b)), (2, .int (zI 0))]) rfl ?_
  refine j_iconst C eX0_sumOfSquares_86 ?_
  refine j_istore_n C eX0_sumOfSquares_87 rfl (by decide) (lv' := [(0, .ref (ad 0)), (1, .int (zI b)), (2, .int (zI 0)), (3, .int (zI 0))]) rfl ?_
  refine lrX0_sumOfSquares C hs hDR2 ?_ (h + 1) 0 (by omega) (by omega)
  refine j_iload_n C eX0_sumOfSquares_118 2 rfl ?_
  exact j_iret C hr hlocks rfl eX0_sumOfSquares_119 ⟨DR2, rfl, rfl⟩
theorem hwsX0_skew : ∀ w ∈ u_ws RX0 TX0 16, w ∈ wsX0_skew := fun _ h => List.mem_cons_of_mem _ (List.mem_append_right _ h)
abbrev rmX0_skew : Room := { frames := 4, cells := 0, slots := 0, locals := 96 }
set_option maxHeartbeats 4000000 in
set_option maxRecDepth 100000 in
theorem lpX0_skew {p : Program} {l : Launch} {e : Env} {s : State} {m : MethodId} {args : Array Value} {below : List Frame} {meth : Method} {c : Code} {Q : State → Prop} {D : va_G} {A : Nat → Prop} {cB cI cZ cL : ClassId} {w h : Nat} {ad : Nat → Nat} {aG aS : Nat} {G S CB SB DK RE PF PK CO : Nat → Int} {rc pn kn cn : Int} (C : JC p m c cX0_skew 6 s args wsX0_skew RX0 D vwCl (tyl cB cI cZ cL) A) (hs : Sz w h) (hDK : ∀ k, k < w * h → DK k = 0 ∨ DK k = 1) (kx : ∀ DR : Nat → Int, J p l e rmX0_skew s m args below meth c Q 6 D vwCl A 64 [(0, .ref (ad 0)), (1, .int (zI (skb (ssq w h DK) 8))), (2, .int (zI ((ssq w h DK) (skb (ssq w h DK) 8)))), (3, .int (zI (((8 : Nat) : Int) + 1)))] [] (wX cB cI cZ ad w h aG aS G S CB SB DK DR RE PF PK CO rc pn kn cn) 0 0) : ∀ (n a : Nat) (DR : Nat → Int), a ≤ 8 → 8 - a < n → J p l e rmX0_skew s m args below meth c Q 6 D vwCl A 14 [(0, .ref (ad 0)), (1, .int (zI (skb (ssq w h DK) a))), (2, .int (zI ((ssq w h DK) (skb (ssq w h DK) a)))), (3, .int (zI (((a : Nat) : Int) + 1)))] [] (wX cB cI cZ ad w h aG aS G S CB SB DK DR RE PF PK CO rc pn kn cn) 0 0 := by
  have hq : ∀ b : Int, 0 ≤ (ssq w h DK) b ∧ (ssq w h DK) b ≤ 254803968 := fun b => ssq_in hs DK b
  intro n
  induction n with
  | zero => intro a DR _ hn; exact absurd hn (Nat.not_lt_zero _)
  | succ n ih =>
    intro a DR ha hn
    have hk := skb_in (ssq w h DK) a
    refine j_iload_n C eX0_skew_14 3 rfl ?_
    refine j_bipush C eX0_skew_15 (by decide +kernel) ?_
    refine j_icmp_gt C 64 eX0_skew_17 (by decide) (by omega) (by omega) (fun c17 => ?_) (fun c17 => ?_)
    ·
      have he : a = 8 := by omega
      subst he
      exact kx DR
    ·
      refine j_aload_n C eX0_skew_20 0 rfl ?_
      refine j_iload_n C eX0_skew_21 3 rfl ?_
      refine j_ineg C eX0_skew_22 ?_
      refine j_callVi C (As := [.int (zI (-(((a : Nat) : Int) + 1)))]) (rest := []) (ctX0_sumOfSquares l D cB cI cZ cL ad w h hs aG aS G S CB SB DK DR RE PF PK CO rc pn kn cn (-((a : Int) + 1)) (by omega) hDK) (cwV 1 C.1.2.2.2.2 gX0_skew_X0_sumOfSquares rfl rfl rfl (by decide +kernel) ⟨Nat.le_of_ble_eq_true rfl, Nat.le_of_ble_eq_true rfl⟩) [0, 1, 2, 3, 4, 5, 6, 7, 8, 9, 10] [] (wr := []) rfl (by decide) rfl (by decide) (by decide) 0 rfl rfl rfl rfl (Nat.le_of_ble_eq_true rfl) eX0_skew_23 ⟨Nat.le_of_ble_eq_true rfl, Nat.le_of_ble_eq_true rfl⟩ (fun z w1 hp => ?_)
      obtain ⟨DR1, rfl, rfl⟩ := hp
      rw [List.nil_append]
      have hq1 := hq (-((a : Int) + 1))
      have hq2 := hq (skb (ssq w h DK) a)
      refine j_istore C eX0_skew_26 rfl (by decide) (lv' := [(0, .ref (ad 0)), (1, .int (zI (skb (ssq w h DK) a))), (2, .int (zI ((ssq w h DK) (skb (ssq w h DK) a)))), (3, .int (zI (((a : Nat) : Int) + 1))), (4, .int (zI ((ssq w h DK) (-((a : Int) + 1)))))]) rfl ?_
      refine j_iload C eX0_skew_28 4 rfl ?_
      refine j_iload_n C eX0_skew_30 2 rfl ?_
      refine j_icmp_le C 40 eX0_skew_31 (by decide) (by omega) (by omega) (fun c31 => ?_) (fun c31 => ?_)
      ·
        refine j_aload_n C eX0_skew_40 0 rfl ?_
        refine j_iload_n C eX0_skew_41 3 rfl ?_
        refine j_callVi C (As := [.int (zI (((a : Nat) : Int) + 1))]) (rest := []) (ctX0_sumOfSquares l D cB cI cZ cL ad w h hs aG aS G S CB SB DK DR1 RE PF PK CO rc pn kn cn ((a : Int) + 1) (by omega) hDK) (cwV 1 C.1.2.2.2.2 gX0_skew_X0_sumOfSquares rfl rfl rfl (by decide +kernel) ⟨Nat.le_of_ble_eq_true rfl, Nat.le_of_ble_eq_true rfl⟩) [0, 1, 2, 3, 4, 5, 6, 7, 8, 9, 10] [] (wr := []) rfl (by decide) rfl (by decide) (by decide) 0 rfl rfl rfl rfl (Nat.le_of_ble_eq_true rfl) eX0_skew_42 ⟨Nat.le_of_ble_eq_true rfl, Nat.le_of_ble_eq_true rfl⟩ (fun z w1 hp => ?_)
        obtain ⟨DR2, rfl, rfl⟩ := hp
        rw [List.nil_append]
        have hq3 := hq ((a : Int) + 1)
        refine j_istore C eX0_skew_45 rfl (by decide) (lv' := [(0, .ref (ad 0)), (1, .int (zI (skb (ssq w h DK) a))), (2, .int (zI ((ssq w h DK) (skb (ssq w h DK) a)))), (3, .int (zI (((a : Nat) : Int) + 1))), (4, .int (zI ((ssq w h DK) (-((a : Int) + 1))))), (5, .int (zI ((ssq w h DK) ((a : Int) + 1))))]) rfl ?_
        refine j_iload C eX0_skew_47 5 rfl ?_
        refine j_iload_n C eX0_skew_49 2 rfl ?_
        refine j_icmp_le C 58 eX0_skew_50 (by decide) (by omega) (by omega) (fun c50 => ?_) (fun c50 => ?_)
        ·
          refine j_iinc C eX0_skew_58 3 rfl rfl (by decide) (lv' := [(0, .ref (ad 0)), (1, .int (zI (skb (ssq w h DK) a))), (2, .int (zI ((ssq w h DK) (skb (ssq w h DK) a)))), (3, .int (zI ((((a : Nat) : Int) + 1) + 1))), (4, .int (zI ((ssq w h DK) (-((a : Int) + 1))))), (5, .int (zI ((ssq w h DK) ((a : Int) + 1))))]) rfl ?_
          refine j_goto C 14 eX0_skew_61 (by decide) ?_
          refine j_loc [0, 1, 2, 3] (lv' := [(0, .ref (ad 0)), (1, .int (zI (skb (ssq w h DK) a))), (2, .int (zI ((ssq w h DK) (skb (ssq w h DK) a)))), (3, .int (zI ((((a : Nat) : Int) + 1) + 1)))]) rfl ?_
          have hb9 := ih (a + 1) DR2 (by omega) (by omega)
          have e1 : skb (ssq w h DK) (a + 1) = skb (ssq w h DK) a := by
            show pk2 (ssq w h DK) (pk2 (ssq w h DK) (skb (ssq w h DK) a) (-((a : Int) + 1))) ((a : Int) + 1) = _
            unfold pk2
            first
              | rw [if_pos c31, if_pos c50]
              | rw [if_pos c31, if_neg (Int.not_lt.mpr c50)]
              | rw [if_neg (Int.not_lt.mpr c31), if_pos c50]
              | rw [if_neg (Int.not_lt.mpr c31), if_neg (Int.not_lt.mpr c50)]
          rw [e1] at hb9
          exact hb9
        ·
          refine j_iload_n C eX0_skew_53 3 rfl ?_
          refine j_istore_n C eX0_skew_54 rfl (by decide) (lv' := [(0, .ref (ad 0)), (1, .int (zI (((a : Nat) : Int) + 1))), (2, .int (zI ((ssq w h DK) (skb (ssq w h DK) a)))), (3, .int (zI (((a : Nat) : Int) + 1))), (4, .int (zI ((ssq w h DK) (-((a : Int) + 1))))), (5, .int (zI ((ssq w h DK) ((a : Int) + 1))))]) rfl ?_
          refine j_iload C eX0_skew_55 5 rfl ?_
          refine j_istore_n C eX0_skew_57 rfl (by decide) (lv' := [(0, .ref (ad 0)), (1, .int (zI (((a : Nat) : Int) + 1))), (2, .int (zI ((ssq w h DK) ((a : Int) + 1)))), (3, .int (zI (((a : Nat) : Int) + 1))), (4, .int (zI ((ssq w h DK) (-((a : Int) + 1))))), (5, .int (zI ((ssq w h DK) ((a : Int) + 1))))]) rfl ?_
          refine j_iinc C eX0_skew_58 3 rfl rfl (by decide) (lv' := [(0, .ref (ad 0)), (1, .int (zI (((a : Nat) : Int) + 1))), (2, .int (zI ((ssq w h DK) ((a : Int) + 1)))), (3, .int (zI ((((a : Nat) : Int) + 1) + 1))), (4, .int (zI ((ssq w h DK) (-((a : Int) + 1))))), (5, .int (zI ((ssq w h DK) ((a : Int) + 1))))]) rfl ?_
          refine j_goto C 14 eX0_skew_61 (by decide) ?_
          refine j_loc [0, 1, 2, 3] (lv' := [(0, .ref (ad 0)), (1, .int (zI (((a : Nat) : Int) + 1))), (2, .int (zI ((ssq w h DK) ((a : Int) + 1)))), (3, .int (zI ((((a : Nat) : Int) + 1) + 1)))]) rfl ?_
          have hb9 := ih (a + 1) DR2 (by omega) (by omega)
          have e1 : skb (ssq w h DK) (a + 1) = ((a : Nat) : Int) + 1 := by
            show pk2 (ssq w h DK) (pk2 (ssq w h DK) (skb (ssq w h DK) a) (-((a : Int) + 1))) ((a : Int) + 1) = _
            unfold pk2
            first
              | rw [if_pos c31, if_pos c50]
              | rw [if_pos c31, if_neg (Int.not_lt.mpr c50)]
              | rw [if_neg (Int.not_lt.mpr c31), if_pos c50]
              | rw [if_neg (Int.not_lt.mpr c31), if_neg (Int.not_lt.mpr c50)]
          rw [e1] at hb9
          exact hb9
      ·
        refine j_iload_n C eX0_skew_34 3 rfl ?_
        refine j_ineg C eX0_skew_35 ?_
        refine j_istore_n C eX0_skew_36 rfl (by decide) (lv' := [(0, .ref (ad 0)), (1, .int (zI (-(((a : Nat) : Int) + 1)))), (2, .int (zI ((ssq w h DK) (skb (ssq w h DK) a)))), (3, .int (zI (((a : Nat) : Int) + 1))), (4, .int (zI ((ssq w h DK) (-((a : Int) + 1)))))]) rfl ?_
        refine j_iload C eX0_skew_37 4 rfl ?_
        refine j_istore_n C eX0_skew_39 rfl (by decide) (lv' := [(0, .ref (ad 0)), (1, .int (zI (-(((a : Nat) : Int) + 1)))), (2, .int (zI ((ssq w h DK) (-((a : Int) + 1))))), (3, .int (zI (((a : Nat) : Int) + 1))), (4, .int (zI ((ssq w h DK) (-((a : Int) + 1)))))]) rfl ?_
        refine j_aload_n C eX0_skew_40 0 rfl ?_
        refine j_iload_n C eX0_skew_41 3 rfl ?_
        refine j_callVi C (As := [.int (zI (((a : Nat) : Int) + 1))]) (rest := []) (ctX0_sumOfSquares l D cB cI cZ cL ad w h hs aG aS G S CB SB DK DR1 RE PF PK CO rc pn kn cn ((a : Int) + 1) (by omega) hDK) (cwV 1 C.1.2.2.2.2 gX0_skew_X0_sumOfSquares rfl rfl rfl (by decide +kernel) ⟨Nat.le_of_ble_eq_true rfl, Nat.le_of_ble_eq_true rfl⟩) [0, 1, 2, 3, 4, 5, 6, 7, 8, 9, 10] [] (wr := []) rfl (by decide) rfl (by decide) (by decide) 0 rfl rfl rfl rfl (Nat.le_of_ble_eq_true rfl) eX0_skew_42 ⟨Nat.le_of_ble_eq_true rfl, Nat.le_of_ble_eq_true rfl⟩ (fun z w1 hp => ?_)
        obtain ⟨DR2, rfl, rfl⟩ := hp
        rw [List.nil_append]
        have hq3 := hq ((a : Int) + 1)
        refine j_istore C eX0_skew_45 rfl (by decide) (lv' := [(0, .ref (ad 0)), (1, .int (zI (-(((a : Nat) : Int) + 1)))), (2, .int (zI ((ssq w h DK) (-((a : Int) + 1))))), (3, .int (zI (((a : Nat) : Int) + 1))), (4, .int (zI ((ssq w h DK) (-((a : Int) + 1))))), (5, .int (zI ((ssq w h DK) ((a : Int) + 1))))]) rfl ?_
        refine j_iload C eX0_skew_47 5 rfl ?_
        refine j_iload_n C eX0_skew_49 2 rfl ?_
        refine j_icmp_le C 58 eX0_skew_50 (by decide) (by omega) (by omega) (fun c50 => ?_) (fun c50 => ?_)
        ·
          refine j_iinc C eX0_skew_58 3 rfl rfl (by decide) (lv' := [(0, .ref (ad 0)), (1, .int (zI (-(((a : Nat) : Int) + 1)))), (2, .int (zI ((ssq w h DK) (-((a : Int) + 1))))), (3, .int (zI ((((a : Nat) : Int) + 1) + 1))), (4, .int (zI ((ssq w h DK) (-((a : Int) + 1))))), (5, .int (zI ((ssq w h DK) ((a : Int) + 1))))]) rfl ?_
          refine j_goto C 14 eX0_skew_61 (by decide) ?_
          refine j_loc [0, 1, 2, 3] (lv' := [(0, .ref (ad 0)), (1, .int (zI (-(((a : Nat) : Int) + 1)))), (2, .int (zI ((ssq w h DK) (-((a : Int) + 1))))), (3, .int (zI ((((a : Nat) : Int) + 1) + 1)))]) rfl ?_
          have hb9 := ih (a + 1) DR2 (by omega) (by omega)
          have e1 : skb (ssq w h DK) (a + 1) = -(((a : Nat) : Int) + 1) := by
            show pk2 (ssq w h DK) (pk2 (ssq w h DK) (skb (ssq w h DK) a) (-((a : Int) + 1))) ((a : Int) + 1) = _
            unfold pk2
            first
              | rw [if_pos c31, if_pos c50]
              | rw [if_pos c31, if_neg (Int.not_lt.mpr c50)]
              | rw [if_neg (Int.not_lt.mpr c31), if_pos c50]
              | rw [if_neg (Int.not_lt.mpr c31), if_neg (Int.not_lt.mpr c50)]
          rw [e1] at hb9
          exact hb9
        ·
          refine j_iload_n C eX0_skew_53 3 rfl ?_
          refine j_istore_n C eX0_skew_54 rfl (by decide) (lv' := [(0, .ref (ad 0)), (1, .int (zI (((a : Nat) : Int) + 1))), (2, .int (zI ((ssq w h DK) (-((a : Int) + 1))))), (3, .int (zI (((a : Nat) : Int) + 1))), (4, .int (zI ((ssq w h DK) (-((a : Int) + 1))))), (5, .int (zI ((ssq w h DK) ((a : Int) + 1))))]) rfl ?_
          refine j_iload C eX0_skew_55 5 rfl ?_
          refine j_istore_n C eX0_skew_57 rfl (by decide) (lv' := [(0, .ref (ad 0)), (1, .int (zI (((a : Nat) : Int) + 1))), (2, .int (zI ((ssq w h DK) ((a : Int) + 1)))), (3, .int (zI (((a : Nat) : Int) + 1))), (4, .int (zI ((ssq w h DK) (-((a : Int) + 1))))), (5, .int (zI ((ssq w h DK) ((a : Int) + 1))))]) rfl ?_
          refine j_iinc C eX0_skew_58 3 rfl rfl (by decide) (lv' := [(0, .ref (ad 0)), (1, .int (zI (((a : Nat) : Int) + 1))), (2, .int (zI ((ssq w h DK) ((a : Int) + 1)))), (3, .int (zI ((((a : Nat) : Int) + 1) + 1))), (4, .int (zI ((ssq w h DK) (-((a : Int) + 1))))), (5, .int (zI ((ssq w h DK) ((a : Int) + 1))))]) rfl ?_
          refine j_goto C 14 eX0_skew_61 (by decide) ?_
          refine j_loc [0, 1, 2, 3] (lv' := [(0, .ref (ad 0)), (1, .int (zI (((a : Nat) : Int) + 1))), (2, .int (zI ((ssq w h DK) ((a : Int) + 1)))), (3, .int (zI ((((a : Nat) : Int) + 1) + 1)))]) rfl ?_
          have hb9 := ih (a + 1) DR2 (by omega) (by omega)
          have e1 : skb (ssq w h DK) (a + 1) = ((a : Nat) : Int) + 1 := by
            show pk2 (ssq w h DK) (pk2 (ssq w h DK) (skb (ssq w h DK) a) (-((a : Int) + 1))) ((a : Int) + 1) = _
            unfold pk2
            first
              | rw [if_pos c31, if_pos c50]
              | rw [if_pos c31, if_neg (Int.not_lt.mpr c50)]
              | rw [if_neg (Int.not_lt.mpr c31), if_pos c50]
              | rw [if_neg (Int.not_lt.mpr c31), if_neg (Int.not_lt.mpr c50)]
          rw [e1] at hb9
          exact hb9
set_option maxHeartbeats 4000000 in
set_option maxRecDepth 100000 in
theorem ctX0_skew (l : Launch) (D : va_G) (cB cI cZ cL : ClassId) (ad : Nat → Nat) (w h : Nat) (hs : Sz w h) (aG aS : Nat) (G S CB SB DK DR RE PF PK CO : Nat → Int) (rc pn kn cn : Int)  : mI l yX0_skew wsX0_skew rmX0_skew D vwCl (tyl cB cI cZ cL) [.ref (ad 0)] (wX cB cI cZ ad w h aG aS G S CB SB DK DR RE PF PK CO rc pn kn cn) 0 0 (fun z w1 => ∃ CB' SB' DK' DR' : Nat → Int, w1 = wX cB cI cZ ad w h aG aS G S CB' SB' DK' DR' RE PF PK CO rc pn kn cn ∧ z = skb (ssq w h (dkf (fun k => G k % 256) (w * h))) 8) := by
  refine mI_of (own := RX0) rfl (by decide) rfl (Nat.le_of_ble_eq_true rfl) ?_
  intro p e s m args below meth c C hr hlocks hname
  show J p l e rmX0_skew s m args below meth c _ 6 D vwCl _ 0 [(0, .ref (ad 0))] [] (wX cB cI cZ ad w h aG aS G S CB SB DK DR RE PF PK CO rc pn kn cn) 0 0
  refine j_aload_n C eX0_skew_0 0 rfl ?_
  refine j_callVv C (As := []) (rest := []) (ctX0_markDark l D cB cI cZ cL ad w h hs aG aS G S CB SB DK DR RE PF PK CO rc pn kn cn ) (cwV 0 C.1.2.2.2.2 gX0_skew_X0_markDark rfl rfl rfl (by decide +kernel) ⟨Nat.le_of_ble_eq_true rfl, Nat.le_of_ble_eq_true rfl⟩) [0, 1, 2, 3, 4, 5, 6, 7, 8, 9, 10] [] (wr := []) rfl (by decide) rfl (by decide) (by decide) 0 rfl rfl rfl rfl (Nat.le_of_ble_eq_true rfl) eX0_skew_1 ⟨Nat.le_of_ble_eq_true rfl, Nat.le_of_ble_eq_true rfl⟩ (fun w1 hp => ?_)
  obtain ⟨CB1, SB1, DK1, hDK1, rfl⟩ := hp
  rw [List.nil_append]
  have hDK : ∀ k, k < w * h → DK1 k = 0 ∨ DK1 k = 1 := fun k hk => by rw [hDK1 k hk]; exact dkf_01 _ _ _
  refine j_iconst C eX0_skew_4 ?_
  refine j_istore_n C eX0_skew_5 rfl (by decide) (lv' := [(0, .ref (ad 0)), (1, .int (zI 0))]) rfl ?_
  refine j_aload_n C eX0_skew_6 0 rfl ?_
  refine j_iconst C eX0_skew_7 ?_
  refine j_callVi C (As := [.int (zI 0)]) (rest := []) (ctX0_sumOfSquares l D cB cI cZ cL ad w h hs aG aS G S CB1 SB1 DK1 DR RE PF PK CO rc pn kn cn 0 (by omega) hDK) (cwV 1 C.1.2.2.2.2 gX0_skew_X0_sumOfSquares rfl rfl rfl (by decide +kernel) ⟨Nat.le_of_ble_eq_true rfl, Nat.le_of_ble_eq_true rfl⟩) [0, 1, 2, 3, 4, 5, 6, 7, 8, 9, 10] [] (wr := []) rfl (by decide) rfl (by decide) (by decide) 0 rfl rfl rfl rfl (Nat.le_of_ble_eq_true rfl) eX0_skew_8 ⟨Nat.le_of_ble_eq_true rfl, Nat.le_of_ble_eq_true rfl⟩ (fun z w1 hp => ?_)
  obtain ⟨DR1, rfl, rfl⟩ := hp
  rw [List.nil_append]
  refine j_istore_n C eX0_skew_11 rfl (by decide) (lv' := [(0, .ref (ad 0)), (1, .int (zI 0)), (2, .int (zI (ssq w h DK1 0)))]) rfl ?_
  refine j_iconst C eX0_skew_12 ?_
  refine j_istore_n C eX0_skew_13 rfl (by decide) (lv' := [(0, .ref (ad 0)), (1, .int (zI 0)), (2, .int (zI (ssq w h DK1 0))), (3, .int (zI 1))]) rfl ?_
  refine lpX0_skew C hs hDK (fun DR2 => ?_) 9 0 DR1 (by omega) (by omega)
  refine j_iload_n C eX0_skew_64 1 rfl ?_
  exact j_iret C hr hlocks rfl eX0_skew_65 ⟨CB1, SB1, DK1, DR2, rfl, skb_congr (fun b => ssq_congr hDK1 b) 8⟩
theorem hwsX0_turn : ∀ w ∈ u_ws RX0 TX0 16, w ∈ wsX0_turn := fun _ h => List.mem_cons_of_mem _ (List.mem_append_right _ h)
theorem kX0_turn_18 : Cond.fieldLink RX0 18 "SheetRows" (TX0 0).2.1 (TX0 0).2.2.1 ∈ wsX0_turn := by decide +kernel
theorem kX0_turn_22 : Cond.fieldLink RX0 22 "SheetRows" (TX0 1).2.1 (TX0 1).2.2.1 ∈ wsX0_turn := by decide +kernel
theorem kX0_turn_25 : Cond.fieldLink RX0 25 "SheetRows" (TX0 2).2.1 (TX0 2).2.2.1 ∈ wsX0_turn := by decide +kernel
theorem kX0_turn_29 : Cond.fieldLink RX0 29 "SheetRows" (TX0 3).2.1 (TX0 3).2.2.1 ∈ wsX0_turn := by decide +kernel
abbrev rmX0_turn : Room := { frames := 2, cells := 0, slots := 0, locals := 44 }
set_option maxHeartbeats 4000000 in
set_option maxRecDepth 100000 in
theorem lqX0_turn {p : Program} {l : Launch} {e : Env} {s : State} {m : MethodId} {args : Array Value} {below : List Frame} {meth : Method} {c : Code} {Q : State → Prop} {D : va_G} {A : Nat → Prop} {cB cI cZ cL : ClassId} {w h : Nat} {ad : Nat → Nat} {aG aS : Nat} {G CB SB DK DR RE PF PK CO : Nat → Int} {rc pn kn cn : Int} (C : JC p m c cX0_turn 5 s args wsX0_turn RX0 D vwCl (tyl cB cI cZ cL) A) (hs : Sz w h) {b : Int} (hG : byt (w * h) G) {x : Nat} (hx : x < w) (kx : ∀ S : Nat → Int, tnd w h G b x h S → J p l e rmX0_turn s m args below meth c Q 5 D vwCl A 84 [(0, .ref (ad 0)), (1, .int (zI b)), (2, .int (zI (x : Int))), (3, .int (zI ((shr h b x : Nat) : Int))), (4, .int (zI (h : Int)))] [] (wX cB cI cZ ad w h aG aS G S CB SB DK DR RE PF PK CO rc pn kn cn) 0 0) : ∀ (n y : Nat) (S : Nat → Int), y ≤ h → h - y < n → tnd w h G b x y S → J p l e rmX0_turn s m args below meth c Q 5 D vwCl A 34 [(0, .ref (ad 0)), (1, .int (zI b)), (2, .int (zI (x : Int))), (3, .int (zI ((shr h b x : Nat) : Int))), (4, .int (zI (y : Int)))] [] (wX cB cI cZ ad w h aG aS G S CB SB DK DR RE PF PK CO rc pn kn cn) 0 0 := by
  have hm := hs.mul
  obtain ⟨h1, h2, h3, h4⟩ := id hs
  have hsl := shr_lt h3 b x
  intro n
  induction n with
  | zero => intro y S _ hn; exact absurd hn (Nat.not_lt_zero _)
  | succ n ih =>
    intro y S hy hn hS
    refine j_iload C eX0_turn_34 4 rfl ?_
    refine j_aload_n C eX0_turn_36 0 rfl ?_
    refine j_getf C hwsX0_turn 0 rfl rfl 1 (by decide) kX0_turn_22 rfl rfl eX0_turn_37 ?_
    refine j_icmp_ge C 84 eX0_turn_40 (by decide) (by omega) (by omega) (fun c40 => ?_) (fun c40 => ?_)
    ·
      have he : y = h := by omega
      subst he
      exact kx S hS
    ·
      have h7 := ix_lt (w := w) (h := h) (x := x) (y := y) hx (by omega)
      refine j_aload_n C eX0_turn_43 0 rfl ?_
      refine j_getf C hwsX0_turn 0 rfl rfl 3 (by decide) kX0_turn_29 rfl rfl eX0_turn_44 ?_
      refine j_iload C eX0_turn_47 4 rfl ?_
      refine j_iload_n C eX0_turn_49 3 rfl ?_
      refine j_iadd C eX0_turn_50 ?_
      refine j_aload_n C eX0_turn_51 0 rfl ?_
      refine j_getf C hwsX0_turn 0 rfl rfl 1 (by decide) kX0_turn_22 rfl rfl eX0_turn_52 ?_
      refine j_irem C eX0_turn_55 (by omega) (by omega) ?_
      have hrl : (y + shr h b x) % h < h := Nat.mod_lt _ (by omega)
      have h8 := ix_lt (w := w) (h := h) (x := x) (y := (y + shr h b x) % h) hx hrl
      have er : ((y : Int) + ((shr h b x : Nat) : Int)).tmod (h : Int) = (((y + shr h b x) % h : Nat) : Int) := by rw [← tm_nat]; push_cast; rfl
      rw [er]
      refine j_aload_n C eX0_turn_56 0 rfl ?_
      refine j_getf C hwsX0_turn 0 rfl rfl 0 (by decide) kX0_turn_18 rfl rfl eX0_turn_57 ?_
      refine j_imul C eX0_turn_60 ?_
      refine j_iload_n C eX0_turn_61 2 rfl ?_
      refine j_iadd C eX0_turn_62 ?_
      refine j_aload_n C eX0_turn_63 0 rfl ?_
      refine j_getf C hwsX0_turn 0 rfl rfl 2 (by decide) kX0_turn_25 rfl rfl eX0_turn_64 ?_
      refine j_iload C eX0_turn_67 4 rfl ?_
      refine j_aload_n C eX0_turn_69 0 rfl ?_
      refine j_getf C hwsX0_turn 0 rfl rfl 0 (by decide) kX0_turn_18 rfl rfl eX0_turn_70 ?_
      refine j_imul C eX0_turn_73 ?_
      refine j_iload_n C eX0_turn_74 2 rfl ?_
      refine j_iadd C eX0_turn_75 ?_
      refine j_bald C 1 0 rfl rfl (y * w + x) (by push_cast; rfl) h7 (by omega) eX0_turn_76 ?_
      refine j_bast C 2 0 rfl rfl ((y + shr h b x) % h * w + x) (by push_cast; rfl) h8 (by omega) (nar_b (hG _ h7)) eX0_turn_77 (wd' := wX cB cI cZ ad w h aG aS G (zup S ((y + shr h b x) % h * w + x) (G (y * w + x))) CB SB DK DR RE PF PK CO rc pn kn cn) rfl ?_
      refine j_iinc C eX0_turn_78 4 rfl rfl (by decide) (lv' := [(0, .ref (ad 0)), (1, .int (zI b)), (2, .int (zI (x : Int))), (3, .int (zI ((shr h b x : Nat) : Int))), (4, .int (zI ((y : Int) + 1)))]) rfl ?_
      refine j_goto C 34 eX0_turn_81 (by decide) ?_
      exact ih (y + 1) _ (by omega) (by omega) (tnd_put hS hx (by omega))
set_option maxHeartbeats 4000000 in
set_option maxRecDepth 100000 in
theorem lpX0_turn {p : Program} {l : Launch} {e : Env} {s : State} {m : MethodId} {args : Array Value} {below : List Frame} {meth : Method} {c : Code} {Q : State → Prop} {D : va_G} {A : Nat → Prop} {cB cI cZ cL : ClassId} {w h : Nat} {ad : Nat → Nat} {aG aS : Nat} {G CB SB DK DR RE PF PK CO : Nat → Int} {rc pn kn cn : Int} (C : JC p m c cX0_turn 5 s args wsX0_turn RX0 D vwCl (tyl cB cI cZ cL) A) (hs : Sz w h) {b : Int} (hb : -100 ≤ b ∧ b ≤ 100) (hG : byt (w * h) G) (kx : ∀ S : Nat → Int, tnd w h G b w 0 S → J p l e rmX0_turn s m args below meth c Q 5 D vwCl A 90 [(0, .ref (ad 0)), (1, .int (zI b)), (2, .int (zI (w : Int)))] [] (wX cB cI cZ ad w h aG aS G S CB SB DK DR RE PF PK CO rc pn kn cn) 0 0) : ∀ (n x : Nat) (S : Nat → Int), x ≤ w → w - x < n → tnd w h G b x 0 S → J p l e rmX0_turn s m args below meth c Q 5 D vwCl A 16 [(0, .ref (ad 0)), (1, .int (zI b)), (2, .int (zI (x : Int)))] [] (wX cB cI cZ ad w h aG aS G S CB SB DK DR RE PF PK CO rc pn kn cn) 0 0 := by
  have hm := hs.mul
  obtain ⟨h1, h2, h3, h4⟩ := id hs
  intro n
  induction n with
  | zero => intro y S _ hn; exact absurd hn (Nat.not_lt_zero _)
  | succ n ih =>
    intro x S hx hn hS
    refine j_iload_n C eX0_turn_16 2 rfl ?_
    refine j_aload_n C eX0_turn_17 0 rfl ?_
    refine j_getf C hwsX0_turn 0 rfl rfl 0 (by decide) kX0_turn_18 rfl rfl eX0_turn_18 ?_
    refine j_icmp_ge C 90 eX0_turn_21 (by decide) (by omega) (by omega) (fun c21 => ?_) (fun c21 => ?_)
    ·
      have he : x = w := by omega
      subst he
      exact kx S hS
    ·
      refine j_aload_n C eX0_turn_24 0 rfl ?_
      refine j_iload_n C eX0_turn_25 2 rfl ?_
      refine j_iload_n C eX0_turn_26 1 rfl ?_
      refine j_callVi C (As := [.int (zI (x : Int)), .int (zI b)]) (rest := []) (ctX0_shearAt l D cB cI cZ cL ad w h hs aG aS G S CB SB DK DR RE PF PK CO rc pn kn cn x (by omega) b hb) (cwV 2 C.1.2.2.2.2 gX0_turn_X0_shearAt rfl rfl rfl (by decide +kernel) ⟨Nat.le_of_ble_eq_true rfl, Nat.le_of_ble_eq_true rfl⟩) [0, 1, 2, 3, 4, 5, 6, 7, 8, 9, 10] [] (wr := []) rfl (by decide) rfl (by decide) (by decide) 0 rfl rfl rfl rfl (Nat.le_of_ble_eq_true rfl) eX0_turn_27 ⟨Nat.le_of_ble_eq_true rfl, Nat.le_of_ble_eq_true rfl⟩ (fun z w1 hp => ?_)
      obtain ⟨rfl, rfl⟩ := hp
      rw [List.nil_append]
      refine j_istore_n C eX0_turn_30 rfl (by decide) (lv' := [(0, .ref (ad 0)), (1, .int (zI b)), (2, .int (zI (x : Int))), (3, .int (zI ((shr h b x : Nat) : Int)))]) rfl ?_
      refine j_iconst C eX0_turn_31 ?_
      refine j_istore C eX0_turn_32 rfl (by decide) (lv' := [(0, .ref (ad 0)), (1, .int (zI b)), (2, .int (zI (x : Int))), (3, .int (zI ((shr h b x : Nat) : Int))), (4, .int (zI 0))]) rfl ?_
      refine lqX0_turn C hs hG (by omega) (fun S hS => ?_) (h + 1) 0 S (by omega) (by omega) hS
      refine j_iinc C eX0_turn_84 2 rfl rfl (by decide) (lv' := [(0, .ref (ad 0)), (1, .int (zI b)), (2, .int (zI ((x : Int) + 1))), (3, .int (zI ((shr h b x : Nat) : Int))), (4, .int (zI (h : Int)))]) rfl ?_
      refine j_goto C 16 eX0_turn_87 (by decide) ?_
      refine j_loc [0, 1, 2] (lv' := [(0, .ref (ad 0)), (1, .int (zI b)), (2, .int (zI ((x : Int) + 1)))]) rfl ?_
      exact ih (x + 1) S (by omega) (by omega) (tnd_col hS)
set_option maxHeartbeats 4000000 in
set_option maxRecDepth 100000 in
theorem ctX0_turn (l : Launch) (D : va_G) (cB cI cZ cL : ClassId) (ad : Nat → Nat) (w h : Nat) (hs : Sz w h) (aG aS : Nat) (G S CB SB DK DR RE PF PK CO : Nat → Int) (rc pn kn cn : Int) (b : Int) (hb : -2147483648 ≤ b ∧ b ≤ 2147483647) (hG : byt (w * h) G) : mI l yX0_turn wsX0_turn rmX0_turn D vwCl (tyl cB cI cZ cL) [.ref (ad 0), .int (zI b)] (wX cB cI cZ ad w h aG aS G S CB SB DK DR RE PF PK CO rc pn kn cn) 0 0 (fun z w1 => if -100 ≤ b ∧ b ≤ 100 then ∃ S' : Nat → Int, tnd w h G b w 0 S' ∧ z = dif G S' (w * h) ∧ w1 = wX cB cI cZ ad w h aS aG S' G CB SB DK DR RE PF PK CO rc pn kn cn else z = -1 ∧ w1 = wX cB cI cZ ad w h aG aS G S CB SB DK DR RE PF PK CO rc pn kn cn) := by
  refine mI_of (own := RX0) rfl (by decide) rfl (Nat.le_of_ble_eq_true rfl) ?_
  intro p e s m args below meth c C hr hlocks hname
  show J p l e rmX0_turn s m args below meth c _ 5 D vwCl _ 0 [(0, .ref (ad 0)), (1, .int (zI b))] [] (wX cB cI cZ ad w h aG aS G S CB SB DK DR RE PF PK CO rc pn kn cn) 0 0
  have hm := hs.mul
  obtain ⟨h1, h2, h3, h4⟩ := id hs
  refine j_iload_n C eX0_turn_0 1 rfl ?_
  refine j_bipush C eX0_turn_1 (by decide +kernel) ?_
  refine j_icmp_lt C 12 eX0_turn_3 (by decide) (by omega) (by omega) (fun c3 => ?_) (fun c3 => ?_)
  ·
    refine j_iconst C eX0_turn_12 ?_
    exact j_iret C hr hlocks rfl eX0_turn_13 (by rw [if_neg (by omega)]; exact ⟨rfl, rfl⟩)
  ·
    refine j_iload_n C eX0_turn_6 1 rfl ?_
    refine j_bipush C eX0_turn_7 (by decide +kernel) ?_
    refine j_icmp_le C 14 eX0_turn_9 (by decide) (by omega) (by omega) (fun c9 => ?_) (fun c9 => ?_)
    ·
      refine j_iconst C eX0_turn_14 ?_
      refine j_istore_n C eX0_turn_15 rfl (by decide) (lv' := [(0, .ref (ad 0)), (1, .int (zI b)), (2, .int (zI 0))]) rfl ?_
      refine lpX0_turn C hs (by omega) hG (fun S' hS' => ?_) (w + 1) 0 S (by omega) (by omega) (fun x' y' _ _ hh => by omega)
      refine j_aload_n C eX0_turn_90 0 rfl ?_
      refine j_callVi C (As := []) (rest := []) (ctX0_takeSpare l D cB cI cZ cL ad w h hs aG aS G S' CB SB DK DR RE PF PK CO rc pn kn cn hG (tnd_byt hs hS' hG)) (cwV 0 C.1.2.2.2.2 gX0_turn_X0_takeSpare rfl rfl rfl (by decide +kernel) ⟨Nat.le_of_ble_eq_true rfl, Nat.le_of_ble_eq_true rfl⟩) [0, 1, 2, 3, 4, 5, 6, 7, 8, 9, 10] [] (wr := []) rfl (by decide) rfl (by decide) (by decide) 0 rfl rfl rfl rfl (Nat.le_of_ble_eq_true rfl) eX0_turn_91 ⟨Nat.le_of_ble_eq_true rfl, Nat.le_of_ble_eq_true rfl⟩ (fun z w1 hp => ?_)
      obtain ⟨rfl, rfl⟩ := hp
      rw [List.nil_append]
      exact j_iret C hr hlocks rfl eX0_turn_94 (by rw [if_pos (by omega)]; exact ⟨S', hS', rfl, rfl⟩)
    ·
      refine j_iconst C eX0_turn_12 ?_
      exact j_iret C hr hlocks rfl eX0_turn_13 (by rw [if_neg (by omega)]; exact ⟨rfl, rfl⟩)
