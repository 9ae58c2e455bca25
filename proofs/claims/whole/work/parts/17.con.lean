/-! PURE: what hangs together; the parts and their facts -/
theorem sumN_one {f g : Nat → Int} {q : Nat} : ∀ {n : Nat}, q < n → (∀ k, k < n → k ≠ q → f k = g k) → sumN f n = sumN g n - g q + f q
  | 0, h, _ => absurd h (Nat.not_lt_zero _)
  | n + 1, h, e => by
    show sumN f n + f n = sumN g n + g n - g q + f q
    by_cases c : q = n
    · subst c
      rw [sumN_congr (f := f) (g := g) (fun k hk => e k (by omega) (by omega))]
      omega
    · rw [sumN_one (n := n) (by omega) (fun k hk hne => e k (by omega) hne), e n (by omega) (fun z => c z.symm)]
      omega
def adj (w a b : Nat) : Prop := a % w ≤ b % w + 1 ∧ b % w ≤ a % w + 1 ∧ a / w ≤ b / w + 1 ∧ b / w ≤ a / w + 1
theorem adj_symm {w a b : Nat} (h : adj w a b) : adj w b a := ⟨h.2.1, h.1, h.2.2.2, h.2.2.1⟩
/-- i and j hang together by dark places -/
def con (w n : Nat) (D : Nat → Int) (i j : Nat) : Prop := ∀ P : Nat → Prop, P i → (∀ a b, P a → a < n → b < n → D a = 1 → D b = 1 → adj w a b → P b) → P j
theorem con_refl {w n : Nat} {D : Nat → Int} (i : Nat) : con w n D i i := fun _ h _ => h
theorem con_step {w n : Nat} {D : Nat → Int} {i a b : Nat} (h : con w n D i a) (ha : a < n) (hb : b < n) (da : D a = 1) (db : D b = 1) (hab : adj w a b) : con w n D i b := fun P hi hs => hs a b (h P hi hs) ha hb da db hab
theorem con_trans {w n : Nat} {D : Nat → Int} {i j k : Nat} (h : con w n D i j) (h2 : con w n D j k) : con w n D i k := h2 (fun a => con w n D i a) h (fun _ _ ha l1 l2 d1 d2 hab => con_step ha l1 l2 d1 d2 hab)
theorem con_symm {w n : Nat} {D : Nat → Int} {i j : Nat} (h : con w n D i j) : con w n D j i := h (fun a => con w n D a i) (con_refl i) (fun a b ha l1 l2 d1 d2 hab => con_trans (con_step (con_refl b) l2 l1 d2 d1 (adj_symm hab)) ha)
theorem con_dark {w n : Nat} {D : Nat → Int} {i j : Nat} (h : con w n D i j) (hi : D i = 1) (hl : i < n) : D j = 1 ∧ j < n := h (fun a => D a = 1 ∧ a < n) ⟨hi, hl⟩ (fun _ _ _ _ l2 _ d2 _ => ⟨d2, l2⟩)
theorem con_mono {w n : Nat} {D D' : Nat → Int} {i j : Nat} (hm : ∀ q, q < n → D' q = 1 → D q = 1) (h : con w n D' i j) : con w n D i j := h (fun a => con w n D i a) (con_refl i) (fun a b ha l1 l2 d1 d2 hab => con_step ha l1 l2 (hm a l1 d1) (hm b l2 d2) hab)
theorem con_same {w n : Nat} {D D' : Nat → Int} {i j : Nat} (hm : ∀ q, q < n → D' q = 1 → D q = 1) (hc : ∀ a b, a < n → b < n → D' a = 1 → D b = 1 → adj w a b → D' b = 1) (hi : D' i = 1) : con w n D' i j ↔ con w n D i j := by
  refine ⟨con_mono hm, fun h => ?_⟩
  exact (h (fun a => con w n D' i a ∧ D' a = 1) ⟨con_refl i, hi⟩ (fun a b ha l1 l2 d1 d2 hab => ⟨con_step ha.1 l1 l2 ha.2 (hc a b l1 l2 ha.2 d2 hab) hab, hc a b l1 l2 ha.2 d2 hab⟩)).1
noncomputable def ind (p : Prop) : Int := @ite Int p (Classical.propDecidable p) 1 0
theorem ind_1 {p : Prop} (h : p) : ind p = 1 := by unfold ind; exact if_pos h
theorem ind_0 {p : Prop} (h : ¬ p) : ind p = 0 := by unfold ind; exact if_neg h
theorem ind_01 (p : Prop) : ind p = 0 ∨ ind p = 1 := by
  by_cases h : p
  · exact Or.inr (ind_1 h)
  · exact Or.inl (ind_0 h)
theorem ind_iff {p : Prop} : ind p = 1 ↔ p := by
  by_cases h : p
  · exact ⟨fun _ => h, fun _ => ind_1 h⟩
  · exact ⟨fun q => by rw [ind_0 h] at q; omega, fun q => absurd q h⟩
/-- 1 where q is of k's part -/
noncomputable def cmp (w n : Nat) (D : Nat → Int) (k q : Nat) : Int := ind (D q = 1 ∧ con w n D k q)
/-- the least and the greatest over the places where s is 1 -/
def mnS (s f : Nat → Int) (z : Int) : Nat → Int
  | 0 => z
  | k + 1 => if s k = 1 ∧ f k < mnS s f z k then f k else mnS s f z k
def mxS (s f : Nat → Int) (z : Int) : Nat → Int
  | 0 => z
  | k + 1 => if s k = 1 ∧ mxS s f z k < f k then f k else mxS s f z k
def mnL (f : Nat → Int) (z : Int) : Nat → Int
  | 0 => z
  | i + 1 => min (mnL f z i) (f i)
def mxL (f : Nat → Int) (z : Int) : Nat → Int
  | 0 => z
  | i + 1 => max (mxL f z i) (f i)
theorem mnS_ok (s f : Nat → Int) (z : Int) : ∀ n, mnS s f z n ≤ z ∧ (∀ k, k < n → s k = 1 → mnS s f z n ≤ f k) ∧ (mnS s f z n = z ∨ ∃ k, k < n ∧ s k = 1 ∧ mnS s f z n = f k)
  | 0 => ⟨Int.le_refl _, fun k hk => absurd hk (Nat.not_lt_zero _), Or.inl rfl⟩
  | n + 1 => by
    obtain ⟨h1, h2, h3⟩ := mnS_ok s f z n
    unfold mnS
    by_cases c : s n = 1 ∧ f n < mnS s f z n
    · rw [if_pos c]
      refine ⟨by omega, fun k hk hs => ?_, Or.inr ⟨n, by omega, c.1, rfl⟩⟩
      by_cases e : k = n
      · subst e; exact Int.le_refl _
      · have := h2 k (by omega) hs; omega
    · rw [if_neg c]
      refine ⟨h1, fun k hk hs => ?_, ?_⟩
      · by_cases e : k = n
        · subst e
          exact Int.not_lt.mp (fun q => c ⟨hs, q⟩)
        · exact h2 k (by omega) hs
      · rcases h3 with h3 | ⟨k, a, b, d⟩
        · exact Or.inl h3
        · exact Or.inr ⟨k, by omega, b, d⟩
theorem mxS_ok (s f : Nat → Int) (z : Int) : ∀ n, z ≤ mxS s f z n ∧ (∀ k, k < n → s k = 1 → f k ≤ mxS s f z n) ∧ (mxS s f z n = z ∨ ∃ k, k < n ∧ s k = 1 ∧ mxS s f z n = f k)
  | 0 => ⟨Int.le_refl _, fun k hk => absurd hk (Nat.not_lt_zero _), Or.inl rfl⟩
  | n + 1 => by
    obtain ⟨h1, h2, h3⟩ := mxS_ok s f z n
    unfold mxS
    by_cases c : s n = 1 ∧ mxS s f z n < f n
    · rw [if_pos c]
      refine ⟨by omega, fun k hk hs => ?_, Or.inr ⟨n, by omega, c.1, rfl⟩⟩
      by_cases e : k = n
      · subst e; exact Int.le_refl _
      · have := h2 k (by omega) hs; omega
    · rw [if_neg c]
      refine ⟨h1, fun k hk hs => ?_, ?_⟩
      · by_cases e : k = n
        · subst e
          exact Int.not_lt.mp (fun q => c ⟨hs, q⟩)
        · exact h2 k (by omega) hs
      · rcases h3 with h3 | ⟨k, a, b, d⟩
        · exact Or.inl h3
        · exact Or.inr ⟨k, by omega, b, d⟩
theorem mnL_ok (f : Nat → Int) (z : Int) : ∀ n, mnL f z n ≤ z ∧ (∀ k, k < n → mnL f z n ≤ f k) ∧ (mnL f z n = z ∨ ∃ k, k < n ∧ mnL f z n = f k)
  | 0 => ⟨Int.le_refl _, fun k hk => absurd hk (Nat.not_lt_zero _), Or.inl rfl⟩
  | n + 1 => by
    obtain ⟨h1, h2, h3⟩ := mnL_ok f z n
    unfold mnL
    refine ⟨by omega, fun k hk => ?_, ?_⟩
    · by_cases e : k = n
      · subst e; omega
      · have := h2 k (by omega); omega
    · by_cases c : f n < mnL f z n
      · exact Or.inr ⟨n, by omega, by omega⟩
      · rcases h3 with h3 | ⟨k, a, b⟩
        · exact Or.inl (by omega)
        · exact Or.inr ⟨k, by omega, by omega⟩
theorem mxL_ok (f : Nat → Int) (z : Int) : ∀ n, z ≤ mxL f z n ∧ (∀ k, k < n → f k ≤ mxL f z n) ∧ (mxL f z n = z ∨ ∃ k, k < n ∧ mxL f z n = f k)
  | 0 => ⟨Int.le_refl _, fun k hk => absurd hk (Nat.not_lt_zero _), Or.inl rfl⟩
  | n + 1 => by
    obtain ⟨h1, h2, h3⟩ := mxL_ok f z n
    unfold mxL
    refine ⟨by omega, fun k hk => ?_, ?_⟩
    · by_cases e : k = n
      · subst e; omega
      · have := h2 k (by omega); omega
    · by_cases c : mxL f z n < f n
      · exact Or.inr ⟨n, by omega, by omega⟩
      · rcases h3 with h3 | ⟨k, a, b⟩
        · exact Or.inl (by omega)
        · exact Or.inr ⟨k, by omega, by omega⟩
/-- a list holds just the places where s is 1 -/
def lst (n : Nat) (s RE : Nat → Int) (r : Nat) : Prop := (∀ i, i < r → ∃ q : Nat, RE i = (q : Int) ∧ q < n ∧ s q = 1) ∧ (∀ q, q < n → s q = 1 → ∃ i, i < r ∧ RE i = (q : Int)) ∧ ∀ F : Nat → Int, sumN (fun i => F (RE i).toNat) r = sumN (fun q => s q * F q) n
theorem lst_mn {n : Nat} {s RE : Nat → Int} {r : Nat} (h : lst n s RE r) (f : Nat → Int) (z : Int) : mnL (fun i => f (RE i).toNat) z r = mnS s f z n := by
  obtain ⟨a1, a2, a3⟩ := mnL_ok (fun i => f (RE i).toNat) z r
  obtain ⟨b1, b2, b3⟩ := mnS_ok s f z n
  refine Int.le_antisymm ?_ ?_
  · rcases b3 with b3 | ⟨k, k1, k2, k3⟩
    · omega
    · obtain ⟨i, i1, i2⟩ := h.2.1 k k1 k2
      have := a2 i i1
      rw [i2, Int.toNat_natCast] at this
      omega
  · rcases a3 with a3 | ⟨i, i1, i2⟩
    · omega
    · obtain ⟨q, q1, q2, q3⟩ := h.1 i i1
      have h4 := b2 q q2 q3
      rw [q1, Int.toNat_natCast] at i2
      omega
theorem lst_mx {n : Nat} {s RE : Nat → Int} {r : Nat} (h : lst n s RE r) (hr : 0 < r) (f : Nat → Int) (hf : ∀ q, 0 ≤ f q) : mxL (fun i => f (RE i).toNat) 0 r = mxS s f (-1) n := by
  obtain ⟨a1, a2, a3⟩ := mxL_ok (fun i => f (RE i).toNat) 0 r
  obtain ⟨b1, b2, b3⟩ := mxS_ok s f (-1) n
  refine Int.le_antisymm ?_ ?_
  · rcases a3 with a3 | ⟨i, i1, i2⟩
    · obtain ⟨q, q1, q2, q3⟩ := h.1 0 hr
      have h4 := b2 q q2 q3
      have h5 := hf q
      omega
    · obtain ⟨q, q1, q2, q3⟩ := h.1 i i1
      have h4 := b2 q q2 q3
      rw [q1, Int.toNat_natCast] at i2
      omega
  · rcases b3 with b3 | ⟨k, k1, k2, k3⟩
    · omega
    · obtain ⟨i, i1, i2⟩ := h.2.1 k k1 k2
      have := a2 i i1
      rw [i2, Int.toNat_natCast] at this
      omega
abbrev fx (w : Nat) (q : Nat) : Int := ((q % w : Nat) : Int)
abbrev fy (w : Nat) (q : Nat) : Int := ((q / w : Nat) : Int)
/-- what is told of a part -/
def fac (w h n : Nat) (s : Nat → Int) (j : Nat) : Int := match j with
  | 0 => mnS s (fx w) (w : Int) n
  | 1 => mnS s (fy w) (h : Int) n
  | 2 => mxS s (fx w) (-1) n
  | 3 => mxS s (fy w) (-1) n
  | 4 => sumN s n
  | 5 => sumN (fun q => s q * fx w q) n
  | _ => sumN (fun q => s q * fy w q) n
def fstp (w n : Nat) (D : Nat → Int) (k : Nat) : Prop := D k = 1 ∧ ∀ j, j < k → cmp w n D k j = 0
def big (w n : Nat) (D : Nat → Int) (k : Nat) : Prop := fstp w n D k ∧ 3 ≤ sumN (cmp w n D k) n
noncomputable def cnb (w n : Nat) (D : Nat → Int) : Nat → Nat
  | 0 => 0
  | q + 1 => cnb w n D q + @ite Nat (big w n D q) (Classical.propDecidable _) 1 0
theorem cnb_y {w n : Nat} {D : Nat → Int} {q : Nat} (h : big w n D q) : cnb w n D (q + 1) = cnb w n D q + 1 := by
  show cnb w n D q + @ite Nat (big w n D q) (Classical.propDecidable _) 1 0 = _
  rw [if_pos h]
theorem cnb_n {w n : Nat} {D : Nat → Int} {q : Nat} (h : ¬ big w n D q) : cnb w n D (q + 1) = cnb w n D q := by
  show cnb w n D q + @ite Nat (big w n D q) (Classical.propDecidable _) 1 0 = _
  rw [if_neg h]; rfl
theorem cnb_lt {w n : Nat} {D : Nat → Int} {k : Nat} (hk : big w n D k) : ∀ {q : Nat}, k < q → cnb w n D k < cnb w n D q
  | 0, h => absurd h (Nat.not_lt_zero _)
  | q + 1, h => by
    by_cases e : k = q
    · subst e; rw [cnb_y hk]; omega
    · have h1 := cnb_lt hk (q := q) (by omega)
      by_cases b : big w n D q
      · rw [cnb_y b]; omega
      · rw [cnb_n b]; exact h1
theorem cnb_sj {w n : Nat} {D : Nat → Int} {i : Nat} : ∀ {q : Nat}, i < cnb w n D q → ∃ k, k < q ∧ big w n D k ∧ cnb w n D k = i
  | 0, h => absurd h (Nat.not_lt_zero _)
  | q + 1, h => by
    by_cases b : big w n D q
    · rw [cnb_y b] at h
      by_cases e : i = cnb w n D q
      · exact ⟨q, by omega, b, e.symm⟩
      · obtain ⟨k, k1, k2, k3⟩ := cnb_sj (w := w) (n := n) (D := D) (i := i) (q := q) (by omega)
        exact ⟨k, by omega, k2, k3⟩
    · rw [cnb_n b] at h
      obtain ⟨k, k1, k2, k3⟩ := cnb_sj h
      exact ⟨k, by omega, k2, k3⟩
/-- the facts of the parts whose first place is ahead of q -/
def tdp (w h n : Nat) (D : Nat → Int) (q : Nat) (PF : Nat → Int) : Prop := ∀ k, k < q → big w n D k → ∀ j, j < 7 → PF (cnb w n D k * 7 + j) = fac w h n (cmp w n D k) j
noncomputable def dkn (g : Nat → Int) (n : Nat) : Nat → Int := fun k => if k < n then dkf g n k else 0
theorem dkn_congr {g g' : Nat → Int} {n : Nat} (h : ∀ k, k < n → g k = g' k) : dkn g n = dkn g' n := by
  funext k
  unfold dkn
  by_cases c : k < n
  · rw [if_pos c, if_pos c, dkf_congr h c]
  · rw [if_neg c, if_neg c]
theorem dkn_in {g : Nat → Int} {n k : Nat} (h : k < n) : dkn g n k = dkf g n k := if_pos h
/-- from one state of the search to another: new places are listed, and dark no more -/
def trn (n : Nat) (P : Nat → Prop) (DK RE : Nat → Int) (r : Nat) (DK' RE' : Nat → Int) (r' : Nat) : Prop :=
  r ≤ r' ∧ (∀ i, i < r → RE' i = RE i) ∧ (∀ i, r ≤ i → i < r' → ∃ q : Nat, RE' i = (q : Int) ∧ q < n ∧ DK q = 1 ∧ P q) ∧ (∀ q, q < n → (DK' q = 1 ↔ DK q = 1 ∧ ∀ i, r ≤ i → i < r' → RE' i ≠ (q : Int))) ∧ (∀ q, q < n → DK' q = 0 ∨ DK' q = 1) ∧ ∀ F : Nat → Int, sumN (fun i => F (RE' i).toNat) r' + sumN (fun q => DK' q * F q) n = sumN (fun i => F (RE i).toNat) r + sumN (fun q => DK q * F q) n
theorem trn_refl {n : Nat} {P : Nat → Prop} {DK RE : Nat → Int} {r : Nat} (h : ∀ q, q < n → DK q = 0 ∨ DK q = 1) : trn n P DK RE r DK RE r :=
  ⟨Nat.le_refl _, fun _ _ => rfl, fun i h1 h2 => by omega, fun q _ => ⟨fun z => ⟨z, fun i h1 h2 => by omega⟩, fun z => z.1⟩, h, fun _ => rfl⟩
theorem trn_weak {n : Nat} {P P' : Nat → Prop} {DK RE : Nat → Int} {r : Nat} {DK' RE' : Nat → Int} {r' : Nat} (hp : ∀ q, q < n → DK q = 1 → P q → P' q) (h : trn n P DK RE r DK' RE' r') : trn n P' DK RE r DK' RE' r' := by
  obtain ⟨h1, h2, h3, h4⟩ := h
  exact ⟨h1, h2, fun i i1 i2 => by obtain ⟨q, a, b, c, d⟩ := h3 i i1 i2; exact ⟨q, a, b, c, hp q b c d⟩, h4⟩
theorem trn_trans {n : Nat} {P : Nat → Prop} {D1 R1 : Nat → Int} {r1 : Nat} {D2 R2 : Nat → Int} {r2 : Nat} {D3 R3 : Nat → Int} {r3 : Nat} (h : trn n P D1 R1 r1 D2 R2 r2) (h' : trn n P D2 R2 r2 D3 R3 r3) : trn n P D1 R1 r1 D3 R3 r3 := by
  obtain ⟨a1, a2, a3, a4, a5, a6⟩ := h
  obtain ⟨b1, b2, b3, b4, b5, b6⟩ := h'
  refine ⟨by omega, fun i hi => by rw [b2 i (by omega), a2 i hi], fun i i1 i2 => ?_, fun q hq => ?_, b5, fun F => by rw [b6 F, a6 F]⟩
  · rcases Nat.lt_or_ge i r2 with c | c
    · obtain ⟨q, q1, q2⟩ := a3 i i1 c
      exact ⟨q, by rw [b2 i c]; exact q1, q2⟩
    · obtain ⟨q, q1, q2, q3, q4⟩ := b3 i c i2
      exact ⟨q, q1, q2, ((a4 q q2).mp q3).1, q4⟩
  · rw [b4 q hq, a4 q hq]
    constructor
    · rintro ⟨⟨z1, z2⟩, z3⟩
      refine ⟨z1, fun i i1 i2 => ?_⟩
      rcases Nat.lt_or_ge i r2 with c | c
      · rw [b2 i c]; exact z2 i i1 c
      · exact z3 i c i2
    · rintro ⟨z1, z2⟩
      exact ⟨⟨z1, fun i i1 i2 => by rw [← b2 i i2]; exact z2 i i1 (by omega)⟩, fun i i1 i2 => z2 i (by omega) i2⟩
theorem trn_put {n : Nat} {P : Nat → Prop} {DK RE : Nat → Int} {r q : Nat} (h : ∀ q, q < n → DK q = 0 ∨ DK q = 1) (hq : q < n) (hd : DK q = 1) (hP : P q) : trn n P DK RE r (zup DK q 0) (zup RE r (q : Int)) (r + 1) := by
  refine ⟨by omega, fun i hi => zup_n (by omega), fun i i1 i2 => ?_, fun q' hq' => ?_, fun q' hq' => ?_, fun F => ?_⟩
  · have e : i = r := by omega
    subst e
    exact ⟨q, zup_s, hq, hd, hP⟩
  · by_cases e : q' = q
    · subst e
      rw [zup_s]
      exact ⟨fun z => by omega, fun z => absurd zup_s (z.2 r (by omega) (by omega))⟩
    · rw [zup_n e]
      refine ⟨fun z => ⟨z, fun i i1 i2 => ?_⟩, fun z => z.1⟩
      rw [show i = r by omega, zup_s]
      omega
  · by_cases e : q' = q
    · subst e; rw [zup_s]; exact Or.inl rfl
    · rw [zup_n e]; exact h q' hq'
  · show sumN (fun i => F (zup RE r (q : Int) i).toNat) r + F (zup RE r (q : Int) r).toNat + _ = _
    rw [zup_s, Int.toNat_natCast, sumN_congr (n := r) (g := fun i => F (RE i).toNat) (fun i hi => by rw [zup_n (by omega)]), sumN_one (f := fun q' => zup DK q 0 q' * F q') (g := fun q' => DK q' * F q') hq (fun k _ hne => by rw [zup_n hne]), zup_s, hd]
    omega
