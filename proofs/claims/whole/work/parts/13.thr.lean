/-! PURE: sums, how often each grey comes, the threshold -/
def sumN (f : Nat → Int) : Nat → Int
  | 0 => 0
  | n + 1 => sumN f n + f n
theorem sumN_congr {f g : Nat → Int} : ∀ {n : Nat}, (∀ k, k < n → f k = g k) → sumN f n = sumN g n
  | 0, _ => rfl
  | n + 1, h => by
    show sumN f n + f n = sumN g n + g n
    rw [sumN_congr (fun k hk => h k (by omega)), h n (by omega)]
theorem sumN_add (f g : Nat → Int) : ∀ n, sumN (fun k => f k + g k) n = sumN f n + sumN g n
  | 0 => rfl
  | n + 1 => by
    show sumN (fun k => f k + g k) n + (f n + g n) = (sumN f n + f n) + (sumN g n + g n)
    rw [sumN_add f g n]; omega
theorem sumN_lin (c : Int) (f g : Nat → Int) : ∀ n, sumN (fun k => c * f k - g k) n = c * sumN f n - sumN g n
  | 0 => by show (0 : Int) = c * 0 - 0; rw [Int.mul_zero]; rfl
  | n + 1 => by
    show sumN (fun k => c * f k - g k) n + (c * f n - g n) = c * (sumN f n + f n) - (sumN g n + g n)
    rw [sumN_lin c f g n, Int.mul_add]; omega
theorem sumN_le {f g : Nat → Int} : ∀ {n : Nat}, (∀ k, k < n → f k ≤ g k) → sumN f n ≤ sumN g n
  | 0, _ => Int.le_refl _
  | n + 1, h => by
    show sumN f n + f n ≤ sumN g n + g n
    have h1 := sumN_le (n := n) (fun k hk => h k (by omega))
    have h2 := h n (by omega)
    omega
theorem sumN_c (c : Int) : ∀ n : Nat, sumN (fun _ => c) n = c * (n : Int)
  | 0 => by show (0 : Int) = c * 0; rw [Int.mul_zero]
  | n + 1 => by
    show sumN (fun _ => c) n + c = c * ((n + 1 : Nat) : Int)
    rw [sumN_c c n]; push_cast; rw [Int.mul_add, Int.mul_one]
theorem sumN_nn {f : Nat → Int} {n : Nat} (h : ∀ k, k < n → 0 ≤ f k) : 0 ≤ sumN f n := by
  have h1 := sumN_le (f := fun _ => 0) (g := f) (n := n) h
  rw [sumN_c, Int.zero_mul] at h1
  exact h1
def rs (f : Nat → Int) (a b : Nat) : Int := sumN f b - sumN f a
theorem rs_self (f : Nat → Int) (a : Nat) : rs f a a = 0 := by unfold rs; omega
theorem rs_succ (f : Nat → Int) (a b : Nat) : rs f a (b + 1) = rs f a b + f b := by
  show sumN f b + f b - sumN f a = sumN f b - sumN f a + f b
  omega
theorem rs_congr {f g : Nat → Int} {a b : Nat} (hab : a ≤ b) (h : ∀ u, a ≤ u → u < b → f u = g u) : rs f a b = rs g a b := by
  obtain ⟨d, rfl⟩ : ∃ d, b = a + d := ⟨b - a, by omega⟩
  induction d with
  | zero => rw [Nat.add_zero, rs_self, rs_self]
  | succ d ih =>
    rw [show a + (d + 1) = (a + d) + 1 from rfl, rs_succ, rs_succ, ih (by omega) (fun u h1 h2 => h u h1 (by omega)), h (a + d) (by omega) (by omega)]
theorem rs_le {f g : Nat → Int} {a b : Nat} (hab : a ≤ b) (h : ∀ u, a ≤ u → u < b → f u ≤ g u) : rs f a b ≤ rs g a b := by
  obtain ⟨d, rfl⟩ : ∃ d, b = a + d := ⟨b - a, by omega⟩
  induction d with
  | zero => rw [Nat.add_zero, rs_self, rs_self]; exact Int.le_refl _
  | succ d ih =>
    rw [show a + (d + 1) = (a + d) + 1 from rfl, rs_succ, rs_succ]
    have h1 := ih (by omega) (fun u h1 h2 => h u h1 (by omega))
    have h2 := h (a + d) (by omega) (by omega)
    omega
theorem rs_lin (c : Int) (f g : Nat → Int) (a b : Nat) : rs (fun k => c * f k - g k) a b = c * rs f a b - rs g a b := by
  unfold rs
  rw [sumN_lin, sumN_lin, Int.mul_sub]; omega
theorem rs_c0 (f : Nat → Int) (c : Int) (a b : Nat) : rs (fun k => c * f k) a b = c * rs f a b := by
  have h := rs_lin c f (fun _ => 0) a b
  have h2 : rs (fun _ => (0 : Int)) a b = 0 := by unfold rs; rw [sumN_c, sumN_c, Int.zero_mul, Int.zero_mul]; rfl
  rw [h2] at h
  simpa using h
theorem rs_nn {f : Nat → Int} {a b : Nat} (hab : a ≤ b) (h : ∀ u, a ≤ u → u < b → 0 ≤ f u) : 0 ≤ rs f a b := by
  have h1 := rs_le (f := fun _ => 0) (g := f) hab h
  have h2 : rs (fun _ => (0 : Int)) a b = 0 := by unfold rs; rw [sumN_c, sumN_c, Int.zero_mul, Int.zero_mul]; rfl
  omega
theorem rs_0 {f : Nat → Int} {a b : Nat} (hn : ∀ u, 0 ≤ f u) (h : rs f a b = 0) : ∀ u, a ≤ u → u < b → f u = 0 := by
  intro u h1 h2
  have e1 : rs f a b = rs f a u + f u + rs f (u + 1) b := by
    have := rs_succ f a u
    unfold rs at *
    omega
  have n1 := rs_nn (f := f) (a := a) (b := u) h1 (fun _ _ _ => hn _)
  have n2 := rs_nn (f := f) (a := u + 1) (b := b) (by omega) (fun _ _ _ => hn _)
  have n3 := hn u
  omega
/-- how many of the first n greys are v -/
def hst (g : Nat → Int) (n v : Nat) : Int := sumN (fun k => if g k = (v : Int) then 1 else 0) n
theorem hst_nn (g : Nat → Int) (n v : Nat) : 0 ≤ hst g n v := sumN_nn (fun k _ => by by_cases h : g k = (v : Int) <;> simp [h])
theorem hst_congr {g g' : Nat → Int} {n : Nat} (h : ∀ k, k < n → g k = g' k) : hst g n = hst g' n := by
  funext v
  exact sumN_congr (fun k hk => by rw [h k hk])
theorem dl (x : Int) : ∀ v : Nat, sumN (fun u => if x = (u : Int) then 1 else 0) v = if 0 ≤ x ∧ x < (v : Int) then 1 else 0
  | 0 => by rw [if_neg (by omega)]; rfl
  | v + 1 => by
    show sumN (fun u => if x = (u : Int) then 1 else 0) v + (if x = (v : Int) then 1 else 0) = _
    rw [dl x v]
    by_cases h1 : x = (v : Int)
    · rw [if_neg (by omega), if_pos h1, if_pos (by omega)]; rfl
    · rw [if_neg h1]
      by_cases h2 : 0 ≤ x ∧ x < (v : Int)
      · rw [if_pos h2, if_pos (by omega)]; rfl
      · rw [if_neg h2, if_neg (by omega)]; rfl
theorem hst_cum (g : Nat → Int) (v : Nat) : ∀ n, sumN (hst g n) v = sumN (fun k => if 0 ≤ g k ∧ g k < (v : Int) then 1 else 0) n
  | 0 => by
    show sumN (fun _ => (0 : Int)) v = 0
    rw [sumN_c, Int.zero_mul]
  | n + 1 => by
    show sumN (fun u => hst g n u + (if g n = (u : Int) then 1 else 0)) v = sumN (fun k => if 0 ≤ g k ∧ g k < (v : Int) then 1 else 0) n + (if 0 ≤ g n ∧ g n < (v : Int) then 1 else 0)
    rw [sumN_add, dl, hst_cum g v n]
theorem cum_in (g : Nat → Int) (n v : Nat) : 0 ≤ sumN (hst g n) v ∧ sumN (hst g n) v ≤ (n : Int) := by
  rw [hst_cum]
  constructor
  · exact sumN_nn (fun k _ => by by_cases h : 0 ≤ g k ∧ g k < (v : Int) <;> simp [h])
  · have h1 := sumN_le (f := fun k => if 0 ≤ g k ∧ g k < (v : Int) then 1 else 0) (g := fun _ => 1) (n := n) (fun k _ => by by_cases h : 0 ≤ g k ∧ g k < (v : Int) <;> simp [h])
    rw [sumN_c, Int.one_mul] at h1
    exact h1
theorem scum_in (g : Nat → Int) {n v : Nat} (hn : n ≤ 2304) (hv : v ≤ 256) : 0 ≤ sumN (fun u => (u : Int) * hst g n u) v ∧ sumN (fun u => (u : Int) * hst g n u) v ≤ 587520 := by
  constructor
  · exact sumN_nn (fun u _ => Int.mul_nonneg (by omega) (hst_nn g n u))
  · have h1 := sumN_le (f := fun u => (u : Int) * hst g n u) (g := fun u => 255 * hst g n u - 0) (n := v) (fun u hu => by
      show (u : Int) * hst g n u ≤ 255 * hst g n u - 0
      have := Int.mul_le_mul_of_nonneg_right (a := (u : Int)) (b := 255) (by omega) (hst_nn g n u)
      omega)
    rw [sumN_lin 255 (hst g n) (fun _ => 0), sumN_c, Int.zero_mul] at h1
    have h2 := cum_in g n v
    omega
/-- the mean of a lot, how far each is from it, the spread -/
def mnH (H : Nat → Int) (a b : Nat) : Int := if rs H a b = 0 then 0 else rs (fun u => (u : Int) * H u) a b / rs H a b
def dst (m : Int) (u : Nat) : Int := if (u : Int) < m then m - u else u - m
def far (H : Nat → Int) (a b : Nat) : Int := rs (fun u => H u * dst (mnH H a b) u) a b
def spr (H : Nat → Int) (t : Nat) : Int := far H 0 (t + 1) + far H (t + 1) 256
/-- the first place of the least -/
def am (f : Nat → Int) : Nat → Nat
  | 0 => 0
  | n + 1 => if f (n + 1) < f (am f n) then n + 1 else am f n
theorem am_le (f : Nat → Int) : ∀ n, am f n ≤ n
  | 0 => Nat.le_refl _
  | n + 1 => by
    have h := am_le f n
    unfold am
    split <;> omega
theorem thr_ex (g : Nat → Int) (n : Nat) : ∃ t : Nat, t = am (spr (hst g n)) 254 := ⟨_, rfl⟩
noncomputable def thr (g : Nat → Int) (n : Nat) : Nat := Classical.choose (thr_ex g n)
theorem thr_eq (g : Nat → Int) (n : Nat) : thr g n = am (spr (hst g n)) 254 := Classical.choose_spec (thr_ex g n)
theorem thr_le (g : Nat → Int) (n : Nat) : thr g n ≤ 254 := by rw [thr_eq]; exact am_le _ _
theorem thr_congr {g g' : Nat → Int} {n : Nat} (h : ∀ k, k < n → g k = g' k) : thr g n = thr g' n := by
  rw [thr_eq, thr_eq, hst_congr h]
theorem mn_in {H : Nat → Int} (hH : ∀ u, 0 ≤ H u) {a b : Nat} (hab : a ≤ b) (hp : 0 < rs H a b) : (a : Int) ≤ mnH H a b ∧ mnH H a b < (b : Int) := by
  unfold mnH
  rw [if_neg (by omega)]
  have h1 := rs_le (f := fun u => (a : Int) * H u) (g := fun u => (u : Int) * H u) hab (fun u h1 h2 => Int.mul_le_mul_of_nonneg_right (by omega) (hH u))
  have h2 := rs_le (f := fun u => (u : Int) * H u) (g := fun u => ((b : Int) - 1) * H u) hab (fun u h1 h2 => Int.mul_le_mul_of_nonneg_right (by omega) (hH u))
  rw [rs_c0] at h1 h2
  constructor
  · exact Int.le_ediv_of_mul_le hp h1
  · refine Int.ediv_lt_of_lt_mul hp ?_
    have h3 : ((b : Int) - 1) * rs H a b = (b : Int) * rs H a b - rs H a b := by rw [Int.sub_mul, Int.one_mul]
    omega
/-- the same by the counts and sums below -/
def lot (CB SB : Nat → Int) (a b : Nat) : Int := if CB b - CB a ≤ 0 then 0 else
  ((SB b - SB a) / (CB b - CB a)) * (CB (((SB b - SB a) / (CB b - CB a)).toNat + 1) - CB a) - (SB (((SB b - SB a) / (CB b - CB a)).toNat + 1) - SB a) + (SB b - SB (((SB b - SB a) / (CB b - CB a)).toNat + 1) - ((SB b - SB a) / (CB b - CB a)) * (CB b - CB (((SB b - SB a) / (CB b - CB a)).toNat + 1)))
/-- the tally: of each v up to 256, how many greys are below and their sum -/
def tly (g : Nat → Int) (n : Nat) (CB SB : Nat → Int) : Prop := ∀ v, v ≤ 256 → CB v = sumN (hst g n) v ∧ SB v = sumN (fun u => (u : Int) * hst g n u) v
theorem lot_far {g : Nat → Int} {n : Nat} {CB SB : Nat → Int} (ht : tly g n CB SB) {a b : Nat} (hab : a ≤ b) (hb : b ≤ 256) : lot CB SB a b = far (hst g n) a b := by
  have hH := hst_nn g n
  have e1 : CB b - CB a = rs (hst g n) a b := by rw [(ht b hb).1, (ht a (by omega)).1]; rfl
  have e2 : SB b - SB a = rs (fun u => (u : Int) * hst g n u) a b := by rw [(ht b hb).2, (ht a (by omega)).2]; rfl
  have hnn := rs_nn (f := hst g n) hab (fun u _ _ => hH u)
  unfold lot
  rw [e1, e2]
  by_cases h0 : rs (hst g n) a b ≤ 0
  · rw [if_pos h0]
    have hz := rs_0 hH (show rs (hst g n) a b = 0 by omega)
    unfold far
    rw [rs_congr (g := fun _ => 0 * (0 : Int)) hab (fun u h1 h2 => by rw [hz u h1 h2, Int.zero_mul, Int.zero_mul]), rs_c0, Int.zero_mul]
  · rw [if_neg h0]
    have hp : 0 < rs (hst g n) a b := by omega
    obtain ⟨m1, m2⟩ := mn_in hH hab hp
    have hm : rs (fun u => (u : Int) * hst g n u) a b / rs (hst g n) a b = mnH (hst g n) a b := by unfold mnH; rw [if_neg (by omega)]
    rw [hm]
    obtain ⟨k, hk⟩ : ∃ k : Nat, mnH (hst g n) a b = (k : Int) := ⟨(mnH (hst g n) a b).toNat, by omega⟩
    have hak : a ≤ k := by omega
    have hkb : k < b := by omega
    unfold far
    rw [hk, Int.toNat_natCast]
    have c1 := rs_congr (f := fun u => hst g n u * dst (k : Int) u) (g := fun u => (k : Int) * hst g n u - (u : Int) * hst g n u) (a := a) (b := k + 1) (by omega) (fun u h1 h2 => by
      show hst g n u * dst (k : Int) u = (k : Int) * hst g n u - (u : Int) * hst g n u
      have hd : dst (k : Int) u = (k : Int) - u := by unfold dst; split <;> omega
      rw [hd, Int.mul_sub, Int.mul_comm (hst g n u) (k : Int), Int.mul_comm (hst g n u) (u : Int)])
    have c2 := rs_congr (f := fun u => hst g n u * dst (k : Int) u) (g := fun u => (-1) * ((k : Int) * hst g n u - (u : Int) * hst g n u) - 0) (a := k + 1) (b := b) (by omega) (fun u h1 h2 => by
      show hst g n u * dst (k : Int) u = (-1) * ((k : Int) * hst g n u - (u : Int) * hst g n u) - 0
      have hd : dst (k : Int) u = (u : Int) - k := by unfold dst; split <;> omega
      rw [hd, Int.mul_sub, Int.mul_comm (hst g n u) (k : Int), Int.mul_comm (hst g n u) (u : Int)]
      omega)
    rw [rs_lin] at c1
    rw [rs_lin, rs_lin] at c2
    have hz : rs (fun _ => (0 : Int)) (k + 1) b = 0 := by unfold rs; rw [sumN_c, sumN_c, Int.zero_mul, Int.zero_mul]; rfl
    have hcat : rs (fun u => hst g n u * dst (k : Int) u) a b = rs (fun u => hst g n u * dst (k : Int) u) a (k + 1) + rs (fun u => hst g n u * dst (k : Int) u) (k + 1) b := by unfold rs; omega
    have f1 : CB (k + 1) - CB a = rs (hst g n) a (k + 1) := by rw [(ht (k + 1) (by omega)).1, (ht a (by omega)).1]; rfl
    have f2 : SB (k + 1) - SB a = rs (fun u => (u : Int) * hst g n u) a (k + 1) := by rw [(ht (k + 1) (by omega)).2, (ht a (by omega)).2]; rfl
    have f3 : CB b - CB (k + 1) = rs (hst g n) (k + 1) b := by rw [(ht (k + 1) (by omega)).1, (ht b (by omega)).1]; rfl
    have f4 : SB b - SB (k + 1) = rs (fun u => (u : Int) * hst g n u) (k + 1) b := by rw [(ht (k + 1) (by omega)).2, (ht b (by omega)).2]; rfl
    rw [f1, f2, f3, f4, hcat, c1, c2, hz]
    omega
/-- bounds of a spread -/
theorem far_in (g : Nat → Int) {n : Nat} (hn : n ≤ 2304) {a b : Nat} (hab : a ≤ b) (hb : b ≤ 256) : 0 ≤ far (hst g n) a b ∧ far (hst g n) a b ≤ 589824 := by
  have hH := hst_nn g n
  have hnn := rs_nn (f := hst g n) hab (fun u _ _ => hH u)
  have hm : 0 ≤ mnH (hst g n) a b ∧ mnH (hst g n) a b ≤ 256 := by
    by_cases h0 : rs (hst g n) a b = 0
    · unfold mnH; rw [if_pos h0]; omega
    · have := mn_in hH hab (by omega); omega
  have hd : ∀ u : Nat, u < b → 0 ≤ dst (mnH (hst g n) a b) u ∧ dst (mnH (hst g n) a b) u ≤ 256 := fun u hu => by unfold dst; split <;> omega
  unfold far
  constructor
  · exact rs_nn hab (fun u h1 h2 => Int.mul_nonneg (hH u) (hd u h2).1)
  · have h1 := rs_le (f := fun u => hst g n u * dst (mnH (hst g n) a b) u) (g := fun u => 256 * hst g n u) hab (fun u h1 h2 => by
      show hst g n u * dst (mnH (hst g n) a b) u ≤ 256 * hst g n u
      rw [Int.mul_comm 256]
      exact Int.mul_le_mul_of_nonneg_left (hd u h2).2 (hH u))
    rw [rs_c0] at h1
    have h2 := cum_in g n a
    have h3 := cum_in g n b
    have h4 : rs (hst g n) a b = sumN (hst g n) b - sumN (hst g n) a := rfl
    omega
