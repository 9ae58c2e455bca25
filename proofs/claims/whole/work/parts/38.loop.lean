/-! THE LAW's LOOP -/
section LLP
variable {p : Program} {l : Launch} {e : Env} {s : State} {m : MethodId} {below : List Frame} {meth : Method} {c : Code} {b L : Nat} {xs : Nat → Int32} {D : va_G} {cB cI cZ cL : ClassId} {w h : Nat} {ad bd : Nat → Nat} {o : Nat}
theorem lw_exit (hcd : p.tables.exec = Jvm.exec) (hb : c.code = cL_law) (hr9 : meth.sig.returnType = ret) (hlocks : meth.locks = false) {lv : List (Nat × Value)} {wd : va_W} {cells slots : Nat} (h1 : cells ≤ 601024) (h2 : slots ≤ 7293000) : JW p l e s m b below meth c D 507 lv [.int (zI 1)] wd cells slots := fun H locs ls hl hP hD hS => by
  rw [show zI 1 = (1 : Int32) by decide +kernel]
  exact va_forget (fun q hq => va_A0 (hS.2.2 q hq)) (W.widen h1 h2 (lw_ret hcd hb hr9 hlocks dL_law_507))
set_option maxHeartbeats 4000000 in
set_option maxRecDepth 100000 in
theorem lw_loop (Cx : LC p l s m c b L xs D cB cI cZ cL) (hs : Sz w h) (hr9 : meth.sig.returnType = ret) (hlocks : meth.locks = false) : ∀ (n i cells slots : Nat), L ≤ i + 4 * n → cells + n ≤ 601024 → slots + 6 * n ≤ 7293000 → i + 4 * n ≤ 100000 → nxt p l e s m b below meth c D cB cI cZ cL w h ad bd o 43 i cells slots := by
  intro n
  induction n with
  | zero =>
    intro i cells slots hn hc9 hs9 hi9 f aG aS G S CB SB DK DR RE PF PK CO rc np nk nc M O CT LB FS TD PR BY th hr
    obtain ⟨C, hX, hbl, hL, hXC, hl9⟩ := Cx
    have hbA : ¬ va_A [] s.heap.size b := fun q => Nat.lt_irrefl _ (Nat.lt_of_lt_of_le hbl (va_A0 q))
    refine j_iload C eL_law_43 4 rfl ?_
    refine j_aload_n C eL_law_45 0 rfl ?_
    refine j_slen C hX hbl hbA eL_law_46 ?_
    refine j_iconst C eL_law_47 ?_
    refine j_isub C eL_law_48 ?_
    refine j_icmp_gt C 506 eL_law_49 (by decide) (by omega) (by omega) (fun c49 => ?_) (fun c49 => ?_)
    ·
      refine j_iconst C eL_law_506 ?_
      exact lw_exit C.1.1 C.1.2.1 hr9 hlocks (by omega) (by omega)
    ·
      exact absurd c49 (by omega)
  | succ n ih =>
    intro i cells slots hn hc9 hs9 hi9 f aG aS G S CB SB DK DR RE PF PK CO rc np nk nc M O CT LB FS TD PR BY th hr
    have K : nxt p l e s m b below meth c D cB cI cZ cL w h ad bd o 500 i (cells + 1) (slots + 6) := by
      intro f aG aS G S CB SB DK DR RE PF PK CO rc np nk nc M O CT LB FS TD PR BY th hr
      have C := Cx.1
      refine j_iinc C eL_law_500 4 rfl rfl (by decide) (lv' := [(0, .ref b), (1, .ref (ad 0)), (2, .ref (bd 0)), (3, .ref o), (4, .int (zI ((i : Int) + 4)))]) rfl ?_
      refine j_goto C 43 eL_law_503 (by decide) ?_
      rw [show ((i : Int) + 4) = ((i + 4 : Nat) : Int) by push_cast; rfl]
      exact ih (i + 4) (cells + 1) (slots + 6) (by omega) (by omega) (by omega) (by omega) _ _ _ _ _ _ _ _ _ _ _ _ _ _ _ _ _ _ _ _ _ _ _ _ _ _ hr
    obtain ⟨C, hX, hbl, hL, hXC, hl9⟩ := id Cx
    have hbA : ¬ va_A [] s.heap.size b := fun q => Nat.lt_irrefl _ (Nat.lt_of_lt_of_le hbl (va_A0 q))
    refine j_iload C eL_law_43 4 rfl ?_
    refine j_aload_n C eL_law_45 0 rfl ?_
    refine j_slen C hX hbl hbA eL_law_46 ?_
    refine j_iconst C eL_law_47 ?_
    refine j_isub C eL_law_48 ?_
    refine j_icmp_gt C 506 eL_law_49 (by decide) (by omega) (by omega) (fun c49 => ?_) (fun c49 => ?_)
    ·
      refine j_iconst C eL_law_506 ?_
      exact lw_exit C.1.1 C.1.2.1 hr9 hlocks (by omega) (by omega)
    ·
      have hi : i + 3 < L := by omega
      generalize h0 : (xs i).toInt = a0
      refine j_aload_n C eL_law_52 0 rfl ?_
      refine j_iload C eL_law_53 4 rfl ?_
      refine j_sld C hX hbl hbA i (by omega) (by omega) hL eL_law_55 ?_
      rw [h0]
      refine j_bipush C eL_law_56 (by decide +kernel) ?_
      refine j_and15 C eL_law_58 ?_
      have hz : 0 ≤ a0 % 16 ∧ a0 % 16 < 16 := by omega
      by_cases q0 : a0 % 16 = 0
      ·
        rw [q0]
        refine j_tsw C 124 eL_law_59 (by omega) (by omega) (by omega) (off := 65) rfl (by decide) ?_
        exact lc_0 Cx hs hi rfl rfl rfl hr (by omega) (by omega) K
      by_cases q1 : a0 % 16 = 1
      ·
        rw [q1]
        refine j_tsw C 186 eL_law_59 (by omega) (by omega) (by omega) (off := 127) rfl (by decide) ?_
        exact lc_1 Cx hs hi rfl rfl rfl hr (by omega) (by omega) K
      by_cases q2 : a0 % 16 = 2
      ·
        rw [q2]
        refine j_tsw C 199 eL_law_59 (by omega) (by omega) (by omega) (off := 140) rfl (by decide) ?_
        exact lc_2 Cx hs hi rfl rfl rfl hr (by omega) (by omega) K
      by_cases q3 : a0 % 16 = 3
      ·
        rw [q3]
        refine j_tsw C 212 eL_law_59 (by omega) (by omega) (by omega) (off := 153) rfl (by decide) ?_
        exact lc_3 Cx hs hi rfl rfl rfl hr (by omega) (by omega) K
      by_cases q4 : a0 % 16 = 4
      ·
        rw [q4]
        refine j_tsw C 249 eL_law_59 (by omega) (by omega) (by omega) (off := 190) rfl (by decide) ?_
        exact lc_4 Cx hs hi rfl rfl rfl hr (by omega) (by omega) K
      by_cases q5 : a0 % 16 = 5
      ·
        rw [q5]
        refine j_tsw C 262 eL_law_59 (by omega) (by omega) (by omega) (off := 203) rfl (by decide) ?_
        exact lc_5 Cx hs hi rfl rfl rfl hr (by omega) (by omega) K
      by_cases q6 : a0 % 16 = 6
      ·
        rw [q6]
        refine j_tsw C 287 eL_law_59 (by omega) (by omega) (by omega) (off := 228) rfl (by decide) ?_
        exact lc_6 Cx hs hi rfl rfl rfl hr (by omega) (by omega) K
      by_cases q7 : a0 % 16 = 7
      ·
        rw [q7]
        refine j_tsw C 300 eL_law_59 (by omega) (by omega) (by omega) (off := 241) rfl (by decide) ?_
        exact lc_7 Cx hs hi rfl rfl rfl hr (by omega) (by omega) K
      by_cases q8 : a0 % 16 = 8
      ·
        rw [q8]
        refine j_tsw C 356 eL_law_59 (by omega) (by omega) (by omega) (off := 297) rfl (by decide) ?_
        exact lc_8 Cx hs hi rfl rfl rfl hr (by omega) (by omega) K
      by_cases q9 : a0 % 16 = 9
      ·
        rw [q9]
        refine j_tsw C 381 eL_law_59 (by omega) (by omega) (by omega) (off := 322) rfl (by decide) ?_
        exact lc_9 Cx hs hi rfl rfl rfl hr (by omega) (by omega) K
      by_cases q10 : a0 % 16 = 10
      ·
        rw [q10]
        refine j_tsw C 394 eL_law_59 (by omega) (by omega) (by omega) (off := 335) rfl (by decide) ?_
        exact lc_10 Cx hs hi rfl rfl rfl hr (by omega) (by omega) K
      by_cases q11 : a0 % 16 = 11
      ·
        rw [q11]
        refine j_tsw C 419 eL_law_59 (by omega) (by omega) (by omega) (off := 360) rfl (by decide) ?_
        exact lc_11 Cx hs hi rfl rfl rfl hr (by omega) (by omega) K
      by_cases q12 : a0 % 16 = 12
      ·
        rw [q12]
        refine j_tsw C 432 eL_law_59 (by omega) (by omega) (by omega) (off := 373) rfl (by decide) ?_
        exact lc_12 Cx hs hi rfl rfl rfl hr (by omega) (by omega) K
      refine j_tswO C 500 eL_law_59 (by omega) (Or.inr (by omega)) (by decide) ?_
      exact j_widen (cells' := cells + 1) (slots' := slots + 6) (by omega) (by omega) (K _ _ _ _ _ _ _ _ _ _ _ _ _ _ _ _ _ _ _ _ _ _ _ _ _ _ hr)
end LLP
