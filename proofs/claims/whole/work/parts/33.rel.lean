/-! CLASS AND REFERENCE SIDE BY SIDE: what is the same between them, and that each call keeps it -/
def rel (w h : Nat) (G PF PK CO : Nat → Int) (np nk nc : Nat) (M TD PR BY : Nat → Int) : Prop :=
  byt (w * h) G ∧ (∀ k, k < w * h → M k = G k % 256) ∧ (3 * np ≤ w * h ∧ ∀ i j, i < np → j < 7 → PF (i * 7 + j) = TD (i * 7 + j)) ∧ (nk ≤ 2 * (w * h) ∧ ∀ i, i < nk → PK i = PR i ∧ -128 ≤ PR i ∧ PR i ≤ 127) ∧ (nc ≤ 5000 ∧ ∀ i, i < nc → CO i = BY i ∧ -128 ≤ BY i ∧ BY i ≤ 127)
theorem rl_gry {n : Nat} {G M : Nat → Int} (h : ∀ k, k < n → M k = G k % 256) : gry n M := fun k hk => by rw [h k hk]; omega
theorem rl_dif {G S M O : Nat → Int} : ∀ {n : Nat}, byt n G → byt n S → (∀ k, k < n → M k = G k % 256) → (∀ k, k < n → O k = S k % 256) → dif G S n = dif M O n
  | 0, _, _, _, _ => rfl
  | n + 1, h1, h2, h3, h4 => by
    have ih := rl_dif (n := n) (fun k hk => h1 k (by omega)) (fun k hk => h2 k (by omega)) (fun k hk => h3 k (by omega)) (fun k hk => h4 k (by omega))
    have a1 := h1 n (by omega)
    have a2 := h2 n (by omega)
    have a3 := h3 n (by omega)
    have a4 := h4 n (by omega)
    show dif G S n + (if G n = S n then 0 else 1) = dif M O n + (if M n = O n then 0 else 1)
    rw [ih]
    by_cases e : G n = S n
    · rw [if_pos e, if_pos (by omega)]
    · rw [if_neg e, if_neg (by omega)]
theorem rl_tnd {w h : Nat} {G M S O : Nat → Int} {b : Int} (hs : Sz w h) (hM : ∀ k, k < w * h → M k = G k % 256) (h1 : tnd w h G b w 0 S) (h2 : tnd w h M b w 0 O) : ∀ k, k < w * h → O k = S k % 256 := fun k hk => by
  obtain ⟨a1, a2⟩ := tnd_all hs h1 hk
  obtain ⟨b1, -⟩ := tnd_all hs h2 hk
  rw [a1, b1, hM _ a2]
theorem rl_div {w h k : Nat} (hs : Sz w h) (hk : k < w * h) : k / w < h ∧ k % w < w ∧ k / w * w + k % w = k := by
  have h1 : 0 < w := hs.1
  refine ⟨Nat.div_lt_of_lt_mul hk, Nat.mod_lt _ h1, ?_⟩
  rw [Nat.mul_comm]
  exact Nat.div_add_mod k w
theorem rl_half {w h x y : Nat} (hx : x < w / 2) (hy : y < h / 2) : 2 * y * w + 2 * x < w * h ∧ 2 * y * w + 2 * x + 1 < w * h ∧ 2 * y * w + 2 * x + w < w * h ∧ 2 * y * w + 2 * x + w + 1 < w * h := by
  have a := ix_lt (w := w) (h := h) (x := 2 * x + 1) (y := 2 * y + 1) (by omega) (by omega)
  have b : (2 * y + 1) * w = 2 * y * w + w := Nat.succ_mul (2 * y) w
  omega
theorem rl_sd {w h : Nat} {G M : Nat → Int} {o : Int} (hG : byt (w * h) G) (hM : ∀ k, k < w * h → M k = G k % 256) {y x : Nat} (hy : y < h) (hx : x < w) : sdm w h M o y x = sdf w h G o y x % 256 ∧ -128 ≤ sdf w h G o y x ∧ sdf w h G o y x ≤ 127 := by
  unfold sdm sdf
  by_cases h0 : o = 0
  · simp only [if_pos h0]
    have a := ix_lt (w := w) (h := h) (x := w - 1 - x) (y := y) (by omega) hy
    exact ⟨hM _ a, hG _ a⟩
  · simp only [if_neg h0]
    by_cases h1 : o = 1
    · simp only [if_pos h1]
      have a := ix_lt (w := w) (h := h) (x := x) (y := h - 1 - y) hx (by omega)
      exact ⟨hM _ a, hG _ a⟩
    · simp only [if_neg h1]
      have a := ix_lt (w := w) (h := h) (x := x) (y := y) hx hy
      by_cases h2 : o = 2
      · simp only [if_pos h2]
        have e := hM _ a
        have g := hG _ a
        rw [e]
        simp only [Int.bmod_def]
        omega
      · simp only [if_neg h2]
        by_cases h3 : x < w / 2 ∧ y < h / 2
        · simp only [if_pos h3]
          obtain ⟨b1, b2, b3, b4⟩ := rl_half h3.1 h3.2
          unfold mnm mn4
          rw [hM _ b1, hM _ b2, hM _ b3, hM _ b4]
          simp only [Int.bmod_def]
          omega
        · simp only [if_neg h3]
          omega
theorem rl_side {w h : Nat} {G M S O : Nat → Int} {o : Int} (hs : Sz w h) (hG : byt (w * h) G) (hM : ∀ k, k < w * h → M k = G k % 256) (h1 : scn w (sdf w h G o) h 0 S) (h2 : ∀ k, k < w * h → O k = sdm w h M o (k / w) (k % w)) : byt (w * h) S ∧ ∀ k, k < w * h → O k = S k % 256 := by
  have key : ∀ k, k < w * h → S k = sdf w h G o (k / w) (k % w) := fun k hk => by
    obtain ⟨a1, a2, a3⟩ := rl_div hs hk
    have b := h1 (k / w) (k % w) a2 (Or.inl a1)
    rw [a3] at b
    exact b
  refine ⟨fun k hk => ?_, fun k hk => ?_⟩
  · obtain ⟨a1, a2, a3⟩ := rl_div hs hk
    rw [key k hk]
    exact (rl_sd hG hM a1 a2).2
  · obtain ⟨a1, a2, a3⟩ := rl_div hs hk
    rw [key k hk, h2 k hk]
    exact (rl_sd hG hM a1 a2).1
theorem rl_byt {nc : Nat} {CO BY : Nat → Int} (h : ∀ i, i < nc → CO i = BY i ∧ -128 ≤ BY i ∧ BY i ≤ 127) : byt nc CO := fun i hi => by
  obtain ⟨a, b⟩ := h i hi
  rw [a]
  exact b
theorem rl_unp {n nc j j' : Nat} {CO BY S O : Nat → Int} (h : ∀ i, i < nc → CO i = BY i ∧ -128 ≤ BY i ∧ BY i ≤ 127) (o1 : oku CO nc n j) (s1 : stp CO nc n j) (f1 : fld CO j S) (o2 : oku BY nc n j') (s2 : stp BY nc n j') (f2 : fldm BY j' O) : vls CO nc n j = vls BY nc n j' ∧ (vls CO nc n j = -1 → byt n S ∧ ∀ k, k < n → O k = S k % 256) := by
  have e : ∀ i, i < nc → CO i = BY i := fun i hi => (h i hi).1
  have o3 := oku_congr (fun i hi => (e i hi).symm) o2
  have s3 := stp_congr (fun i hi => (e i hi).symm) s2
  have hj : j = j' := oku_j o1 s1 o3 s3
  subst hj
  refine ⟨vls_congr e o1, fun hv => ?_⟩
  have hn : n ≤ dn CO j := by
    unfold vls at hv
    split at hv
    · split at hv
      · omega
      · omega
    · split at hv <;> omega
  have hd : ∀ i, i ≤ j → dn CO i = dn BY i := fun i hi => dn_congr e (by have := oku_2j o1; omega)
  have key : ∀ k, k < n → -128 ≤ S k ∧ S k ≤ 127 ∧ O k = S k % 256 := fun k hk => by
    obtain ⟨i, i1, i2, i3⟩ := dn_seg CO (j := j) (q := k) (by omega)
    have a1 := f1 i i1 k i2 i3
    have a2 := f2 i i1 k (by rw [← hd i (by omega)]; exact i2) (by rw [← hd (i + 1) (by omega)]; exact i3)
    have a3 := (o1 i i1).1
    obtain ⟨b1, b2, b3⟩ := h (2 * i + 1) (by omega)
    rw [a1, a2, b1]
    exact ⟨b2, b3, rfl⟩
  exact ⟨fun k hk => ⟨(key k hk).1, (key k hk).2.1⟩, fun k hk => (key k hk).2.2⟩
theorem rl_bm (z : Int) : -128 ≤ Int.bmod z 256 ∧ Int.bmod z 256 ≤ 127 := by simp only [Int.bmod_def]; omega
theorem rl_pkb {g : Nat → Int} {n : Nat} {P : Nat → Int} : ∀ {j k : Nat}, pkd g n P j k → ∀ i, i < 2 * j → -128 ≤ P i ∧ P i ≤ 127
  | 0, _, _, i, hi => by omega
  | j + 1, k, h, i, hi => by
    obtain ⟨k0, r, h1, -, -, -, h5, h6⟩ := h
    by_cases a : i < 2 * j
    · exact rl_pkb h1 i a
    · by_cases b : i = 2 * j
      · rw [b, h5]; exact rl_bm _
      · rw [show i = 2 * j + 1 by omega, h6]; exact rl_bm _
theorem rl_pack {n j j' : Nat} {G M P P' : Nat → Int} (hM : ∀ k, k < n → M k = G k % 256) (h1 : pkd (fun k => G k % 256) n P j n) (h2 : pkd M n P' j' n) : j = j' ∧ j ≤ n ∧ ∀ i, i < 2 * j → P i = P' i ∧ -128 ≤ P' i ∧ P' i ≤ 127 := by
  have e : ∀ i, i < n → (fun k => G k % 256) i = M i := fun i hi => (hM i hi).symm
  have hj := pkd_j e h1 h2
  subst hj
  exact ⟨rfl, (pkd_le h1).1, fun i hi => ⟨(pkd_same e h1 h2).2 i hi, rl_pkb h2 i hi⟩⟩
theorem rl_parts {w h : Nat} {G M PF TD : Nat → Int} (hM : ∀ k, k < w * h → M k = G k % 256) (h1 : tdp w h (w * h) (dkn (fun k => G k % 256) (w * h)) (w * h) PF) (h2 : tdp w h (w * h) (dkn M (w * h)) (w * h) TD) : cnb w (w * h) (dkn (fun k => G k % 256) (w * h)) (w * h) = cnb w (w * h) (dkn M (w * h)) (w * h) ∧ ∀ i j, i < cnb w (w * h) (dkn M (w * h)) (w * h) → j < 7 → PF (i * 7 + j) = TD (i * 7 + j) := by
  have e : dkn (fun k => G k % 256) (w * h) = dkn M (w * h) := dkn_congr (fun k hk => (hM k hk).symm)
  rw [e] at h1 ⊢
  refine ⟨rfl, fun i j hi hj => ?_⟩
  obtain ⟨k, k1, k2, k3⟩ := cnb_sj hi
  rw [← k3, h1 k k1 k2 j hj, h2 k k1 k2 j hj]
theorem rl_fn {n : Nat} {G M : Nat → Int} (hM : ∀ k, k < n → M k = G k % 256) : ∀ k, k < n → (fun k => G k % 256) k = M k := fun k hk => (hM k hk).symm
theorem rl_skew {w h : Nat} {G M : Nat → Int} (hM : ∀ k, k < w * h → M k = G k % 256) : ssq w h (dkf (fun k => G k % 256) (w * h)) = ssq w h (dkf M (w * h)) := by
  funext b
  exact ssq_congr (fun k hk => dkf_congr (rl_fn hM) hk) b
theorem rl_put {n k0 : Nat} {G M : Nat → Int} {v : Int} (hv : -128 ≤ v ∧ v ≤ 127) (hG : byt n G) (hM : ∀ k, k < n → M k = G k % 256) : byt n (zup G k0 v) ∧ ∀ k, k < n → zup M k0 (v % 256) k = zup G k0 v k % 256 := by
  refine ⟨fun k hk => ?_, fun k hk => ?_⟩
  · unfold zup
    split
    · exact hv
    · exact hG k hk
  · unfold zup
    split
    · rfl
    · exact hM k hk
theorem rl_add {k : Nat} {CO BY : Nat → Int} {v : Int} (hv : -128 ≤ v ∧ v ≤ 127) (h : ∀ i, i < k → CO i = BY i ∧ -128 ≤ BY i ∧ BY i ≤ 127) : ∀ i, i < k + 1 → zup CO k v i = zup BY k v i ∧ -128 ≤ zup BY k v i ∧ zup BY k v i ≤ 127 := fun i hi => by
  unfold zup
  by_cases e : i = k
  · simp only [if_pos e]; exact ⟨trivial, hv.1, hv.2⟩
  · simp only [if_neg e]; exact h i (by omega)
