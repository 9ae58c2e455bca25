/-! THE WORLDS: the class's object with its ten arrays; the reference's with its eight. G S .. are what the arrays hold, as functions to Int. -/
abbrev tyl (cB cI cZ cL : ClassId) : List (ClassId × FieldType) := [(cB, .byte), (cI, .int), (cZ, .boolean), (cL, .long)]
def wXf (cB cI cZ : ClassId) (ad : Nat → Nat) (w h : Nat) (fG fS aG aS : Nat) (G S CB SB DK DR RE PF PK CO : Nat → Int) (rc pn kn cn : Int) : va_W :=
  [(ad 0, .inr (1, [.int (zI (w : Int)), .int (zI (h : Int)), .ref fG, .ref fS, .ref (ad 4), .ref (ad 5), .ref (ad 6), .ref (ad 7), .ref (ad 8), .int (zI rc), .ref (ad 10), .int (zI pn), .ref (ad 12), .int (zI kn), .ref (ad 14), .int (zI cn)])),
   (aG, zA cB (w * h) G), (aS, zA cB (w * h) S), (ad 4, zA cI 257 CB), (ad 5, zA cI 257 SB), (ad 6, zA cZ (w * h) DK), (ad 7, zA cI h DR), (ad 8, zA cI (w * h) RE), (ad 10, zA cI (w * h / 3 * 7) PF), (ad 12, zA cB (2 * (w * h)) PK), (ad 14, zA cB 5000 CO)]
abbrev wX (cB cI cZ : ClassId) (ad : Nat → Nat) (w h : Nat) (aG aS : Nat) (G S CB SB DK DR RE PF PK CO : Nat → Int) (rc pn kn cn : Int) : va_W := wXf cB cI cZ ad w h aG aS aG aS G S CB SB DK DR RE PF PK CO rc pn kn cn
def wM (cB cI : ClassId) (bd : Nat → Nat) (w h : Nat) (G O CT LB FS TD PR BY : Nat → Int) (th pn kn cn : Int) : va_W :=
  [(bd 0, .inr (2, [.int (zI th), .int (zI (w : Int)), .int (zI (h : Int)), .int (zI ((w * h : Nat) : Int)), .ref (bd 4), .ref (bd 5), .ref (bd 6), .ref (bd 7), .int (zI pn), .ref (bd 9), .ref (bd 10), .int (zI kn), .ref (bd 12), .int (zI cn), .ref (bd 14)])),
   (bd 4, zA cI 2304 G), (bd 5, zA cI 2304 O), (bd 6, zA cI 256 CT), (bd 7, zA cI 2304 LB), (bd 9, zA cI 2304 FS), (bd 10, zA cI 16128 TD), (bd 12, zA cB 4608 PR), (bd 14, zA cB 5000 BY)]
/-- the sheet's sides -/
def Sz (w h : Nat) : Prop := 1 ≤ w ∧ w ≤ 48 ∧ 1 ≤ h ∧ h ≤ 48
theorem Sz.mul {w h : Nat} (H : Sz w h) : 1 ≤ w * h ∧ w * h ≤ 2304 := by
  obtain ⟨h1, h2, h3, h4⟩ := H
  exact ⟨Nat.mul_pos h1 h3, Nat.mul_le_mul h2 h4⟩
theorem ix_lt {w h x y : Nat} (hx : x < w) (hy : y < h) : y * w + x < w * h := by
  have h1 : (y + 1) * w ≤ h * w := Nat.mul_le_mul_right w hy
  have h2 : (y + 1) * w = y * w + w := Nat.succ_mul y w
  have h3 : h * w = w * h := Nat.mul_comm h w
  omega
