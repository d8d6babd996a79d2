/-! ===== laws of one rule: sets of them as bits of a long ===== -/
theorem u_shr {X s : Nat} (hX : X < 18446744073709551616) (hs : s < 64) : UInt64.ofNat X >>> UInt64.ofNat s = UInt64.ofNat (X / 2 ^ s) := by
  have hle : X / 2 ^ s ≤ X := Nat.div_le_self _ _
  apply UInt64.toNat_inj.mp
  rw [UInt64.toNat_shiftRight, UInt64.toNat_ofNat', UInt64.toNat_ofNat', UInt64.toNat_ofNat', Nat.mod_eq_of_lt (show X < 2 ^ 64 by omega), Nat.mod_eq_of_lt (show s < 2 ^ 64 by omega), Nat.mod_eq_of_lt (show X / 2 ^ s < 2 ^ 64 by omega), Nat.mod_eq_of_lt hs, Nat.shiftRight_eq_div_pow]
theorem j_and (a b : Nat) : Int64.ofNat a &&& Int64.ofNat b = Int64.ofNat (a &&& b) := by
  apply Int64.toBitVec.inj
  show BitVec.ofNat 64 a &&& BitVec.ofNat 64 b = BitVec.ofNat 64 (a &&& b)
  exact BitVec.ofNat_and.symm
theorem j_or (a b : Nat) : Int64.ofNat a ||| Int64.ofNat b = Int64.ofNat (a ||| b) := by
  apply Int64.toBitVec.inj
  show BitVec.ofNat 64 a ||| BitVec.ofNat 64 b = BitVec.ofNat 64 (a ||| b)
  exact BitVec.ofNat_or.symm
theorem j_sub {a b : Nat} (h : b ≤ a) : Int64.ofNat a - Int64.ofNat b = Int64.ofNat (a - b) := by
  have e : Int64.ofNat a = Int64.ofNat b + Int64.ofNat (a - b) := by rw [← Int64.ofNat_add]; congr 1; omega
  rw [e, Int64.add_comm, Int64.add_sub_cancel]
theorem and_split {d m y M : Nat} (hd : d < 256) (hm : m < 256) : (d + 256 * y) &&& (m + 256 * M) = (d &&& m) + 256 * (y &&& M) := by
  have h1 : ((d + 256 * y) &&& (m + 256 * M)) % 2 ^ 8 = d &&& m := by
    rw [Nat.and_mod_two_pow, show (d + 256 * y) % 2 ^ 8 = d by omega, show (m + 256 * M) % 2 ^ 8 = m by omega]
  have h2 : ((d + 256 * y) &&& (m + 256 * M)) / 2 ^ 8 = y &&& M := by
    rw [Nat.and_div_two_pow, show (d + 256 * y) / 2 ^ 8 = y by omega, show (m + 256 * M) / 2 ^ 8 = M by omega]
  omega
/-- the bits of a byte, step by step -/
def s1b (d : Nat) : Nat := d - ((d / 2) &&& 85)
def s2b (d : Nat) : Nat := (d &&& 51) + ((d / 4) &&& 51)
def p8 (d : Nat) : Nat := pcN (d % 32) + pcN (d / 32)
theorem b_1 : ∀ d, d < 256 → ((d / 2) &&& 85) ≤ d ∧ ((d / 2 + 128) &&& 85) = ((d / 2) &&& 85) ∧ s1b d < 256 := by decide +kernel
theorem b_2 : ∀ d, d < 256 → ∀ r, r < 4 → ((d / 4 + 64 * r) &&& 51) = ((d / 4) &&& 51) := by decide +kernel
theorem b_3 : ∀ d, d < 256 → s2b (s1b d) < 256 ∧ s2b (s1b d) % 16 ≤ 4 ∧ s2b (s1b d) / 16 ≤ 4 ∧ (s2b (s1b d) % 16 + s2b (s1b d) / 16) = p8 d := by decide +kernel
theorem b_4 : ∀ d, d < 256 → (d &&& 15) = d % 16 := by decide +kernel
theorem st_1 {d y M : Nat} (hd : d < 256) (hM : ((y / 2) &&& M) ≤ y) : (d + 256 * y) - (((d + 256 * y) / 2) &&& (85 + 256 * M)) = s1b d + 256 * (y - ((y / 2) &&& M)) ∧ (((d + 256 * y) / 2) &&& (85 + 256 * M)) ≤ d + 256 * y := by
  obtain ⟨h1, h2, h3⟩ := b_1 d hd
  have e : (d + 256 * y) / 2 = (d / 2 + 128 * (y % 2)) + 256 * (y / 2) := by omega
  rw [e, and_split (by omega) (by decide)]
  have e2 : ((d / 2 + 128 * (y % 2)) &&& 85) = ((d / 2) &&& 85) := by
    rcases Nat.mod_two_eq_zero_or_one y with q | q
    · rw [q]; rfl
    · rw [q]; exact h2
  rw [e2]
  unfold s1b
  omega
theorem st_2 {d y M : Nat} (hd : d < 256) : ((d + 256 * y) &&& (51 + 256 * M)) + (((d + 256 * y) / 4) &&& (51 + 256 * M)) = s2b d + 256 * ((y &&& M) + ((y / 4) &&& M)) := by
  have e : (d + 256 * y) / 4 = (d / 4 + 64 * (y % 4)) + 256 * (y / 4) := by omega
  rw [e, and_split hd (by decide), and_split (by omega) (by decide), b_2 d hd (y % 4) (by omega)]
  unfold s2b
  omega
theorem st_3 {d y M : Nat} (h1 : d % 16 ≤ 4) (h2 : d / 16 ≤ 4) (h3 : y % 16 ≤ 4) : ((d + 256 * y) + (d + 256 * y) / 16) &&& (15 + 256 * M) = (d % 16 + d / 16) + 256 * ((y + y / 16) &&& M) := by
  have e : (d + 256 * y) + (d + 256 * y) / 16 = (d + d / 16 + 16 * (y % 16)) + 256 * (y + y / 16) := by omega
  rw [e, and_split (by omega) (by decide), b_4 _ (by omega)]
  omega
theorem and_z (M : Nat) : (0 : Nat) &&& M = 0 := Nat.zero_and M
/-- the whole count, for numbers of five bytes -/
def pcW (X : Nat) : Nat :=
  let w1 := X - ((X / 2) &&& 6148914691236517205)
  let w2 := (w1 &&& 3689348814741910323) + ((w1 / 4) &&& 3689348814741910323)
  let w3 := (w2 + w2 / 16) &&& 1085102592571150095
  let w4 := w3 + w3 / 256
  let w5 := w4 + w4 / 65536
  let w6 := w5 + w5 / 4294967296
  w6 &&& 127
theorem pcW_5 {a b c d e : Nat} (ha : a < 256) (hb : b < 256) (hc : c < 256) (hd : d < 256) (he : e < 256) :
    pcW (a + 256 * (b + 256 * (c + 256 * (d + 256 * e)))) = p8 a + p8 b + p8 c + p8 d + p8 e := by
  obtain ⟨a1, a2, a3, a4⟩ := b_3 a ha
  obtain ⟨b1, b2, b3, b4⟩ := b_3 b hb
  obtain ⟨c1, c2, c3, c4⟩ := b_3 c hc
  obtain ⟨d1, d2, d3, d4⟩ := b_3 d hd
  obtain ⟨e1, e2, e3, e4⟩ := b_3 e he
  have z0 : ∀ M, (((0 : Nat) / 2) &&& M) ≤ 0 := fun M => by rw [Nat.zero_div, and_z]; exact Nat.le_refl 0
  have k1 := st_1 (M := 85 + 256 * (85 + 256 * 85)) he (z0 _)
  have k2 := st_1 (M := 85 + 256 * (85 + 256 * (85 + 256 * 85))) hd k1.2
  have k3 := st_1 (M := 85 + 256 * (85 + 256 * (85 + 256 * (85 + 256 * 85)))) hc k2.2
  have k4 := st_1 (M := 85 + 256 * (85 + 256 * (85 + 256 * (85 + 256 * (85 + 256 * 85))))) hb k3.2
  have k5 := st_1 (M := 85 + 256 * (85 + 256 * (85 + 256 * (85 + 256 * (85 + 256 * (85 + 256 * 85)))))) ha k4.2
  rw [Nat.mul_zero, Nat.add_zero] at k1 k2 k3 k4 k5
  have f1 : ∀ x, x < 256 → s1b x < 256 := fun x hx => (b_1 x hx).2.2
  have w1 : (a + 256 * (b + 256 * (c + 256 * (d + 256 * e)))) - (((a + 256 * (b + 256 * (c + 256 * (d + 256 * e)))) / 2) &&& 6148914691236517205) = s1b a + 256 * (s1b b + 256 * (s1b c + 256 * (s1b d + 256 * s1b e))) := by
    rw [show (6148914691236517205 : Nat) = 85 + 256 * (85 + 256 * (85 + 256 * (85 + 256 * (85 + 256 * (85 + 256 * (85 + 256 * 85)))))) from rfl, k5.1, k4.1, k3.1, k2.1, k1.1]
    simp only [Nat.zero_div, and_z, Nat.sub_zero, Nat.mul_zero, Nat.add_zero]
  have w2 : ∀ x, x = s1b a + 256 * (s1b b + 256 * (s1b c + 256 * (s1b d + 256 * s1b e))) → (x &&& 3689348814741910323) + ((x / 4) &&& 3689348814741910323) = s2b (s1b a) + 256 * (s2b (s1b b) + 256 * (s2b (s1b c) + 256 * (s2b (s1b d) + 256 * s2b (s1b e)))) := by
    rintro x rfl
    have q := st_2 (y := 0) (M := 51 + 256 * (51 + 256 * 51)) (f1 e he)
    simp only [Nat.mul_zero, Nat.add_zero, and_z, Nat.zero_div] at q
    rw [show (3689348814741910323 : Nat) = 51 + 256 * (51 + 256 * (51 + 256 * (51 + 256 * (51 + 256 * (51 + 256 * (51 + 256 * 51)))))) from rfl, st_2 (f1 a ha), st_2 (f1 b hb), st_2 (f1 c hc), st_2 (f1 d hd), q]
  have w3 : ∀ x, x = s2b (s1b a) + 256 * (s2b (s1b b) + 256 * (s2b (s1b c) + 256 * (s2b (s1b d) + 256 * s2b (s1b e)))) → (x + x / 16) &&& 1085102592571150095 = p8 a + 256 * (p8 b + 256 * (p8 c + 256 * (p8 d + 256 * p8 e))) := by
    rintro x rfl
    have q := st_3 (y := 0) (M := 15 + 256 * (15 + 256 * 15)) e2 e3 (by decide)
    simp only [Nat.mul_zero, Nat.add_zero, and_z, Nat.zero_div] at q
    rw [show (1085102592571150095 : Nat) = 15 + 256 * (15 + 256 * (15 + 256 * (15 + 256 * (15 + 256 * (15 + 256 * (15 + 256 * 15)))))) from rfl, st_3 a2 a3 (by omega), st_3 b2 b3 (by omega), st_3 c2 c3 (by omega), st_3 d2 d3 (by omega), q, a4, b4, c4, d4, e4]
  have lp8 : ∀ x, p8 x ≤ 10 := fun x => by unfold p8; have := pcN_le (x % 32); have := pcN_le (x / 32); omega
  have g1 := lp8 a
  have g2 := lp8 b
  have g3 := lp8 c
  have g4 := lp8 d
  have g5 := lp8 e
  unfold pcW
  simp only [w1, w2 _ rfl, w3 _ rfl]
  rw [show (127 : Nat) = 2 ^ 7 - 1 from rfl, Nat.and_two_pow_sub_one_eq_mod]
  generalize p8 a = A at *
  generalize p8 b = B at *
  generalize p8 c = C at *
  generalize p8 d = D at *
  generalize p8 e = E at *
  rw [show (A + 256 * (B + 256 * (C + 256 * (D + 256 * E)))) / 256 = B + 256 * (C + 256 * (D + 256 * E)) by omega]
  rw [show (A + 256 * (B + 256 * (C + 256 * (D + 256 * E))) + (B + 256 * (C + 256 * (D + 256 * E)))) / 65536 = C + D + 256 * (D + E) + 65536 * E by omega]
  rw [show (A + 256 * (B + 256 * (C + 256 * (D + 256 * E))) + (B + 256 * (C + 256 * (D + 256 * E))) + (C + D + 256 * (D + E) + 65536 * E)) / 4294967296 = E by omega]
  omega
theorem j_bits64 {h : MH} {X : Nat} (hX : X < 1099511627776) : fJ13_bitCount_95d88 h (Int64.ofNat X) = some (Int32.ofNat (pcW X), h) := by
  have hs : ∀ (Y s : Nat), Y < 18446744073709551616 → s < 64 → (UInt64.ofNat Y >>> UInt64.ofNat s).toInt64 = Int64.ofNat (Y / 2 ^ s) := fun Y s h1 h2 => by rw [u_shr h1 h2]; rfl
  have hx1 : ((X / 2) &&& 6148914691236517205) ≤ X := Nat.le_trans Nat.and_le_left (Nat.div_le_self X 2)
  have hw1 : X - ((X / 2) &&& 6148914691236517205) ≤ X := Nat.sub_le _ _
  unfold fJ13_bitCount_95d88
  simp only [bd_some]
  rw [show ((Int32.toInt64 1).toUInt64 &&& Int64.toUInt64 63) = UInt64.ofNat 1 by decide, show ((Int32.toInt64 2).toUInt64 &&& Int64.toUInt64 63) = UInt64.ofNat 2 by decide, show ((Int32.toInt64 4).toUInt64 &&& Int64.toUInt64 63) = UInt64.ofNat 4 by decide,
    show ((Int32.toInt64 8).toUInt64 &&& Int64.toUInt64 63) = UInt64.ofNat 8 by decide, show ((Int32.toInt64 16).toUInt64 &&& Int64.toUInt64 63) = UInt64.ofNat 16 by decide, show ((Int32.toInt64 32).toUInt64 &&& Int64.toUInt64 63) = UInt64.ofNat 32 by decide,
    show (6148914691236517205 : Int64) = Int64.ofNat 6148914691236517205 from rfl, show (3689348814741910323 : Int64) = Int64.ofNat 3689348814741910323 from rfl, show (1085102592571150095 : Int64) = Int64.ofNat 1085102592571150095 from rfl, show (127 : Int32) = Int32.ofNat 127 from rfl]
  have t0 : ∀ Y, (Int64.ofNat Y).toUInt64 = UInt64.ofNat Y := fun Y => rfl
  rw [t0 X, hs X 1 (by omega) (by decide), j_and, j_sub hx1]
  have e1 : (X / 2 ^ 1 &&& 6148914691236517205) = (X / 2 &&& 6148914691236517205) := rfl
  rw [e1]
  generalize hW1 : X - ((X / 2) &&& 6148914691236517205) = w1 at *
  rw [t0 w1, hs w1 2 (by omega) (by decide), j_and, j_and, ← Int64.ofNat_add]
  have l2 : (w1 &&& 3689348814741910323) ≤ w1 := Nat.and_le_left
  have l2' : (w1 / 2 ^ 2 &&& 3689348814741910323) ≤ w1 := Nat.le_trans Nat.and_le_left (Nat.div_le_self _ _)
  generalize hW2 : (w1 &&& 3689348814741910323) + (w1 / 2 ^ 2 &&& 3689348814741910323) = w2 at *
  rw [t0 w2, hs w2 4 (by omega) (by decide), ← Int64.ofNat_add, j_and]
  have l3 : ((w2 + w2 / 2 ^ 4) &&& 1085102592571150095) ≤ w2 + w2 / 2 ^ 4 := Nat.and_le_left
  have l3' : w2 / 2 ^ 4 ≤ w2 := Nat.div_le_self _ _
  generalize hW3 : ((w2 + w2 / 2 ^ 4) &&& 1085102592571150095) = w3 at *
  rw [t0 w3, hs w3 8 (by omega) (by decide), ← Int64.ofNat_add]
  have l4 : w3 / 2 ^ 8 ≤ w3 := Nat.div_le_self _ _
  generalize hW4 : w3 + w3 / 2 ^ 8 = w4 at *
  rw [t0 w4, hs w4 16 (by omega) (by decide), ← Int64.ofNat_add]
  have l5 : w4 / 2 ^ 16 ≤ w4 := Nat.div_le_self _ _
  generalize hW5 : w4 + w4 / 2 ^ 16 = w5 at *
  rw [t0 w5, hs w5 32 (by omega) (by decide), ← Int64.ofNat_add]
  generalize hW6 : w5 + w5 / 2 ^ 32 = w6 at *
  rw [Int64.toInt32_ofNat']
  have e6 : Int32.ofNat w6 &&& Int32.ofNat 127 = Int32.ofNat (w6 &&& 127) := by
    apply Int32.toBitVec.inj
    show BitVec.ofNat 32 w6 &&& BitVec.ofNat 32 127 = BitVec.ofNat 32 (w6 &&& 127)
    exact BitVec.ofNat_and.symm
  rw [e6]
  unfold pcW
  simp only [hW1]
  rw [show (w1 / 4) = w1 / 2 ^ 2 from rfl, hW2, show (w2 / 16) = w2 / 2 ^ 4 from rfl, hW3, show (w3 / 256) = w3 / 2 ^ 8 from rfl, hW4, show (w4 / 65536) = w4 / 2 ^ 16 from rfl, hW5, show (w5 / 4294967296) = w5 / 2 ^ 32 from rfl, hW6]
/-! sets of laws -/
def LN (fit : Nat → Bool) : Nat → Nat
  | 0 => 0
  | n + 1 => if fit n = true then LN fit n + 2 ^ n else LN fit n
theorem LN_lt (fit : Nat → Bool) : ∀ n, LN fit n < 2 ^ n
  | 0 => by show 0 < 2 ^ 0; decide
  | n + 1 => by
    have := LN_lt fit n
    unfold LN
    rw [Nat.pow_succ]
    split <;> omega
theorem LN_bit (fit : Nat → Bool) : ∀ n k, k < n → LN fit n / 2 ^ k % 2 = if fit k = true then 1 else 0
  | 0, k, hk => by omega
  | n + 1, k, hk => by
    have hl := LN_lt fit n
    unfold LN
    rcases Nat.lt_or_ge k n with q | q
    · have ih := LN_bit fit n k q
      split
      · obtain ⟨d, hd⟩ : ∃ d, n = k + 1 + d := ⟨n - k - 1, by omega⟩
        have e : 2 ^ n = 2 ^ k * (2 * 2 ^ d) := by rw [hd, Nat.pow_add, Nat.pow_add]; simp [Nat.mul_assoc]
        rw [e, Nat.add_mul_div_left _ _ (Nat.two_pow_pos k)]
        omega
      · exact ih
    · have : k = n := by omega
      subst this
      split
      · rw [Nat.add_div_right _ (Nat.two_pow_pos k), Nat.div_eq_of_lt hl]
      · rw [Nat.div_eq_of_lt hl]
def cN (b : Nat → Bool) : Nat → Nat
  | 0 => 0
  | n + 1 => cN b n + if b n = true then 1 else 0
theorem cN_le (b : Nat → Bool) : ∀ n, cN b n ≤ n
  | 0 => Nat.le_refl 0
  | n + 1 => by have := cN_le b n; unfold cN; split <;> omega
theorem stC_N (b : Nat → Bool) (n : Nat) : lp (stC b) n 0 0 = Int32.ofNat (cN b n) := by
  have h := lp_inv (s1 := stC b) (I := fun k a => a = Int32.ofNat (cN b k)) (b := n) (fun k a hk hI => by
    subst hI
    show stC b k (Int32.ofNat (cN b k)) = Int32.ofNat (cN b k + if b k = true then 1 else 0)
    unfold stC
    split
    · exact k_succ _
    · rfl) n 0 0 (by omega) rfl
  exact h
theorem b5 (a : Nat) : a % 256 = a % 2 + 2 * (a / 2 % 2) + 4 * (a / 4 % 2) + 8 * (a / 8 % 2) + 16 * (a / 16 % 2) + 32 * (a / 32 % 2) + 64 * (a / 64 % 2) + 128 * (a / 128 % 2) := by omega
theorem p8_eq (a : Nat) : p8 (a % 256) = a % 2 + a / 2 % 2 + a / 4 % 2 + a / 8 % 2 + a / 16 % 2 + a / 32 % 2 + a / 64 % 2 + a / 128 % 2 := by
  unfold p8 pcN; omega
/-- bits of a number, counted -/
def cB (X : Nat) : Nat → Nat
  | 0 => 0
  | n + 1 => cB X n + X / 2 ^ n % 2
theorem cB_8 (X n : Nat) : cB X (n + 8) = cB X n + p8 (X / 2 ^ n % 256) := by
  have e : ∀ j, X / 2 ^ (n + j) = X / 2 ^ n / 2 ^ j := fun j => by rw [Nat.pow_add, Nat.div_div_eq_div_mul]
  rw [p8_eq]
  show cB X n + X / 2 ^ (n + 0) % 2 + X / 2 ^ (n + 1) % 2 + X / 2 ^ (n + 2) % 2 + X / 2 ^ (n + 3) % 2 + X / 2 ^ (n + 4) % 2 + X / 2 ^ (n + 5) % 2 + X / 2 ^ (n + 6) % 2 + X / 2 ^ (n + 7) % 2 = _
  simp only [e]
  generalize X / 2 ^ n = Y
  generalize cB X n = Z
  simp only [show (2 : Nat) ^ 0 = 1 from rfl, show (2 : Nat) ^ 1 = 2 from rfl, show (2 : Nat) ^ 2 = 4 from rfl, show (2 : Nat) ^ 3 = 8 from rfl, show (2 : Nat) ^ 4 = 16 from rfl, show (2 : Nat) ^ 5 = 32 from rfl, show (2 : Nat) ^ 6 = 64 from rfl, show (2 : Nat) ^ 7 = 128 from rfl, Nat.div_one]
  simp only [Nat.add_assoc]
theorem pcW_cB {X : Nat} (hX : X < 1099511627776) : pcW X = cB X 40 := by
  have e : X = X % 256 + 256 * (X / 256 % 256 + 256 * (X / 65536 % 256 + 256 * (X / 16777216 % 256 + 256 * (X / 4294967296 % 256)))) := by omega
  have h := pcW_5 (a := X % 256) (b := X / 256 % 256) (c := X / 65536 % 256) (d := X / 16777216 % 256) (e := X / 4294967296 % 256) (by omega) (by omega) (by omega) (by omega) (by omega)
  rw [← e] at h
  have q5 := cB_8 X 32
  have q4 := cB_8 X 24
  have q3 := cB_8 X 16
  have q2 := cB_8 X 8
  have q1 := cB_8 X 0
  simp only [show (2 : Nat) ^ 0 = 1 from rfl, show (2 : Nat) ^ 8 = 256 from rfl, show (2 : Nat) ^ 16 = 65536 from rfl, show (2 : Nat) ^ 24 = 16777216 from rfl, show (2 : Nat) ^ 32 = 4294967296 from rfl, Nat.div_one, Nat.zero_add] at q1 q2 q3 q4 q5
  have q0 : cB X 0 = 0 := rfl
  rw [h, show (40 : Nat) = 32 + 8 from rfl, q5, show (32 : Nat) = 24 + 8 from rfl, q4, show (24 : Nat) = 16 + 8 from rfl, q3, show (16 : Nat) = 8 + 8 from rfl, q2, q1, q0, Nat.zero_add]
theorem cB_fit (fit : Nat → Bool) (n : Nat) : ∀ m, m ≤ n → cB (LN fit n) m = cN fit m
  | 0, _ => rfl
  | m + 1, hm => by
    unfold cB cN
    rw [cB_fit fit n m (by omega), LN_bit fit n m (by omega)]
theorem cB_over {X n : Nat} (hX : X < 2 ^ n) : ∀ m, cB X (n + m) = cB X n
  | 0 => rfl
  | m + 1 => by
    show cB X (n + m) + X / 2 ^ (n + m) % 2 = _
    have h1 : 2 ^ n ≤ 2 ^ (n + m) := Nat.pow_le_pow_right (by decide) (by omega)
    rw [cB_over hX m, Nat.div_eq_of_lt (by omega), Nat.zero_mod, Nat.add_zero]
theorem pcW_LN (fit : Nat → Bool) {n : Nat} (hn : n ≤ 33) : pcW (LN fit n) = cN fit n := by
  have hl := LN_lt fit n
  have h1 : 2 ^ n ≤ 2 ^ 33 := Nat.pow_le_pow_right (by decide) hn
  have e := cB_over hl (40 - n)
  rw [show n + (40 - n) = 40 by omega] at e
  rw [pcW_cB (by omega), e, cB_fit fit n n (Nat.le_refl _)]
def stL (fit : Nat → Bool) (k : Nat) (a : Int64) : Int64 := if fit k = true then a ||| (1 <<< (Int32.toInt64 (Int32.ofNat k) &&& 63)) else a
theorem j_shl : ∀ k, k < 33 → (1 : Int64) <<< (Int32.toInt64 (Int32.ofNat k) &&& 63) = Int64.ofNat (2 ^ k) := by decide +kernel
theorem stL_N (fit : Nat → Bool) {n : Nat} (hn : n ≤ 33) : lp (stL fit) n 0 0 = Int64.ofNat (LN fit n) := by
  have h := lp_inv (s1 := stL fit) (I := fun k a => a = Int64.ofNat (LN fit k)) (b := n) (fun k a hk hI => by
    subst hI
    show stL fit k (Int64.ofNat (LN fit k)) = Int64.ofNat (if fit k = true then LN fit k + 2 ^ k else LN fit k)
    unfold stL
    split
    · rw [j_shl k (by omega), j_or]
      have e := Nat.two_pow_add_eq_or_of_lt (LN_lt fit k) 1
      rw [Nat.mul_one] at e
      rw [Nat.or_comm, ← e, Nat.add_comm]
    · rfl) n 0 0 (by omega) rfl
  exact h
theorem j_sarK : ∀ k, k < 33 → ((Int32.toInt64 (Int32.ofNat k) &&& 63 : Int64).toBitVec.smod 64).toNat = k := by decide +kernel
theorem j_sar {X k : Nat} (hX : X < 9223372036854775808) (hk : k < 33) : Int64.ofNat X >>> (Int32.toInt64 (Int32.ofNat k) &&& 63) = Int64.ofNat (X / 2 ^ k) := by
  have hle : X / 2 ^ k ≤ X := Nat.div_le_self _ _
  apply Int64.toBitVec.inj
  show (BitVec.ofNat 64 X).sshiftRight ((Int32.toInt64 (Int32.ofNat k) &&& 63 : Int64).toBitVec.smod 64).toNat = BitVec.ofNat 64 (X / 2 ^ k)
  rw [j_sarK k hk, BitVec.sshiftRight_eq_of_msb_false]
  · apply BitVec.eq_of_toNat_eq
    rw [BitVec.toNat_ushiftRight, BitVec.toNat_ofNat, BitVec.toNat_ofNat, Nat.mod_eq_of_lt (show X < 2 ^ 64 by omega), Nat.mod_eq_of_lt (show X / 2 ^ k < 2 ^ 64 by omega), Nat.shiftRight_eq_div_pow]
  · rw [BitVec.msb_eq_false_iff_two_mul_lt, BitVec.toNat_ofNat, Nat.mod_eq_of_lt (show X < 2 ^ 64 by omega)]
    omega
theorem j_tst (fit : Nat → Bool) {n k : Nat} (hn : n ≤ 33) (hk : k < n) : (lg_cmp ((Int64.ofNat (LN fit n) >>> (Int32.toInt64 (Int32.ofNat k) &&& 63)) &&& 1) 1 = 0) ↔ fit k = true := by
  have hl := LN_lt fit n
  have h1 : 2 ^ n ≤ 2 ^ 33 := Nat.pow_le_pow_right (by decide) hn
  rw [j_sar (by omega) (by omega), show (1 : Int64) = Int64.ofNat 1 from rfl, j_and, Nat.and_one_is_mod, LN_bit fit n k hk]
  cases fit k <;> decide
