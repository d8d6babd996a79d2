/-! ===== the stranger: weights, and parts in lowest terms ===== -/
theorem j_toInt {n : Nat} (h : n < 9223372036854775808) : (Int64.ofNat n).toInt = (n : Int) := Int64.toInt_ofNat_of_lt h
theorem i64_of_toInt {x : Int64} {k : Nat} (hk : k < 9223372036854775808) (h : x.toInt = (k : Int)) : x = Int64.ofNat k := by
  apply Int64.toInt.inj; rw [h, j_toInt hk]
theorem j_div {a b : Nat} (ha : a < 4611686018427387904) (hb : b < 4611686018427387904) : Int64.ofNat a / Int64.ofNat b = Int64.ofNat (a / b) := by
  have hle : a / b ≤ a := Nat.div_le_self a b
  apply i64_of_toInt (by omega)
  rw [Int64.toInt_div, j_toInt (by omega), j_toInt (by omega), ← Int.ofNat_tdiv]
  generalize a / b = q at hle ⊢
  exact Int.bmod_eq_of_le (by omega) (by omega)
theorem j_mod {a b : Nat} (ha : a < 4611686018427387904) (hb : b < 4611686018427387904) : Int64.ofNat a - Int64.ofNat a / Int64.ofNat b * Int64.ofNat b = Int64.ofNat (a % b) := by
  have e : Int64.ofNat a = Int64.ofNat (a / b * b) + Int64.ofNat (a % b) := by
    rw [← Int64.ofNat_add, Nat.div_add_mod']
  rw [j_div ha hb, ← Int64.ofNat_mul]
  rw [show Int64.ofNat a - Int64.ofNat (a / b * b) = Int64.ofNat (a / b * b) + Int64.ofNat (a % b) - Int64.ofNat (a / b * b) by rw [← e]]
  rw [Int64.add_comm, Int64.add_sub_cancel]
theorem k_div {a b : Nat} (ha : a < 2147483648) (hb : b < 2147483648) : Int32.ofNat a / Int32.ofNat b = Int32.ofNat (a / b) := by
  have hle : a / b ≤ a := Nat.div_le_self a b
  apply i32_of_toInt (by omega)
  rw [Int32.toInt_div, k_toInt (by omega), k_toInt (by omega), ← Int.ofNat_tdiv]
  generalize a / b = q at hle ⊢
  exact Int.bmod_eq_of_le (by omega) (by omega)
theorem k_mod {a b : Nat} (ha : a < 2147483648) (hb : b < 2147483648) : Int32.ofNat a - Int32.ofNat a / Int32.ofNat b * Int32.ofNat b = Int32.ofNat (a % b) := by
  have e : Int32.ofNat a = Int32.ofNat (a / b * b) + Int32.ofNat (a % b) := by
    rw [← Int32.ofNat_add, Nat.div_add_mod']
  rw [k_div ha hb, ← Int32.ofNat_mul]
  rw [show Int32.ofNat a - Int32.ofNat (a / b * b) = Int32.ofNat (a / b * b) + Int32.ofNat (a % b) - Int32.ofNat (a / b * b) by rw [← e]]
  rw [Int32.add_comm, Int32.add_sub_cancel]
theorem k_sub {a b : Nat} (h : b ≤ a) : Int32.ofNat a - Int32.ofNat b = Int32.ofNat (a - b) := by
  have e : Int32.ofNat a = Int32.ofNat b + Int32.ofNat (a - b) := by rw [← Int32.ofNat_add]; congr 1; omega
  rw [e, Int32.add_comm, Int32.add_sub_cancel]
theorem k_mul (a b : Nat) : Int32.ofNat a * Int32.ofNat b = Int32.ofNat (a * b) := (Int32.ofNat_mul a b).symm
theorem k_i2l {a : Nat} (h : a < 2147483648) : (Int32.ofNat a).toInt64 = Int64.ofNat a := by
  apply i64_of_toInt (by omega)
  rw [Int32.toInt_toInt64, k_toInt h]
theorem j_eq0 {a : Nat} (h : a < 9223372036854775808) : (Int64.ofNat a = 0) ↔ a = 0 := by
  constructor
  · intro q
    have := congrArg Int64.toInt q
    rw [j_toInt h, Int64.toInt_zero] at this
    omega
  · rintro rfl; rfl
theorem lg0 (y : Int64) : (lg_cmp y 0 = 0) ↔ y = 0 := by
  unfold lg_cmp
  by_cases h1 : y > 0
  · rw [if_pos h1]
    constructor
    · intro q; exact absurd q (by decide)
    · rintro rfl; exact absurd h1 (by decide)
  · rw [if_neg h1]
    by_cases h2 : y = 0
    · rw [if_pos h2]; exact ⟨fun _ => h2, fun _ => rfl⟩
    · rw [if_neg h2]
      exact ⟨fun q => absurd q (by decide), fun q => absurd q h2⟩
theorem lgz : lg_cmp (Int64.ofNat 0) 0 = 0 := by decide
/-! Euclid -/
theorem mod_half {b r : Nat} (hr : 0 < r) (hb : r < b) : 2 * (b % r) < b := by
  have h1 := Nat.mod_lt b hr
  have h2 := Nat.div_add_mod b r
  have h3 : 1 ≤ b / r := (Nat.one_le_div_iff hr).mpr (by omega)
  have h4 : r * 1 ≤ r * (b / r) := Nat.mul_le_mul_left r h3
  omega
theorem m_gcd {h : MH} : ∀ (f a b : Nat), a < 4611686018427387904 → b < 2 ^ f → b < 4611686018427387904 → ∀ n, fX13_common_6 (n + 2 * f + 1) h (Int64.ofNat a) (Int64.ofNat b) = some (Int64.ofNat (Nat.gcd a b), h)
  | 0, a, b, ha, hb, hb', n => by
    have : b = 0 := by omega
    subst this
    show bX13_common_6 _ h (Int64.ofNat a) (Int64.ofNat 0) = _
    rw [Nat.gcd_zero_right]
    unfold bX13_common_6
    rw [if_pos lgz]
  | f + 1, a, b, ha, hb, hb', n => by
    show bX13_common_6 (fX13_common_6 (n + 2 * f + 2)) h (Int64.ofNat a) (Int64.ofNat b) = _
    unfold bX13_common_6
    by_cases h0 : b = 0
    · subst h0
      rw [Nat.gcd_zero_right, if_pos lgz]
    · have hn : ¬ Int64.ofNat b = 0 := fun q => h0 ((j_eq0 (by omega)).mp q)
      rw [if_neg (fun q => hn ((lg0 _).mp q)), nzJ, if_neg hn, bd_some, bd_some, j_mod ha hb']
      have hr := Nat.mod_lt a (show b > 0 by omega)
      show bX13_common_6 (fX13_common_6 (n + 2 * f + 1)) h (Int64.ofNat b) (Int64.ofNat (a % b)) = _
      unfold bX13_common_6
      rw [Nat.gcd_comm a b, Nat.gcd_rec b a]
      by_cases h1 : a % b = 0
      · rw [h1, if_pos lgz, Nat.gcd_zero_left]
      · have hn1 : ¬ Int64.ofNat (a % b) = 0 := fun q => h1 ((j_eq0 (by omega)).mp q)
        rw [if_neg (fun q => hn1 ((lg0 _).mp q)), nzJ, if_neg hn1, bd_some, bd_some, j_mod hb' (by omega)]
        have hh := mod_half (show 0 < a % b by omega) hr
        have hp : 2 ^ (f + 1) = 2 * 2 ^ f := by rw [Nat.pow_succ]; omega
        rw [m_gcd f (a % b) (b % (a % b)) (by omega) (by omega) (by omega) n, Nat.gcd_comm (a % b), ← Nat.gcd_rec]
theorem c_gcd {h : MH} : ∀ (f a b k : Nat), a < 4611686018427387904 → b < 2 ^ f → b < 4611686018427387904 → k + 2 * f < 100 → ∀ n, fX11_commonDivisor_9 (n + 2 * f + 1) h (Int64.ofNat a) (Int64.ofNat b) (Int32.ofNat k) = some (Int64.ofNat (Nat.gcd a b), h)
  | 0, a, b, k, ha, hb, hb', hk, n => by
    have : b = 0 := by omega
    subst this
    show bX11_commonDivisor_9 _ h (Int64.ofNat a) (Int64.ofNat 0) (Int32.ofNat k) = _
    rw [Nat.gcd_zero_right]
    unfold bX11_commonDivisor_9
    rw [if_pos lgz]
    split <;> rfl
  | f + 1, a, b, k, ha, hb, hb', hk, n => by
    have hk1 : ¬ (100 : Int32) ≤ Int32.ofNat k := k_nle (b := 100) (by omega) (by decide)
    have hk2 : ¬ (100 : Int32) ≤ Int32.ofNat (k + 1) := k_nle (b := 100) (by omega) (by decide)
    show bX11_commonDivisor_9 (fX11_commonDivisor_9 (n + 2 * f + 2)) h (Int64.ofNat a) (Int64.ofNat b) (Int32.ofNat k) = _
    unfold bX11_commonDivisor_9
    rw [if_neg hk1]
    by_cases h0 : b = 0
    · subst h0
      rw [Nat.gcd_zero_right, if_pos lgz]
    · have hn : ¬ Int64.ofNat b = 0 := fun q => h0 ((j_eq0 (by omega)).mp q)
      rw [if_neg (fun q => hn ((lg0 _).mp q)), nzJ, if_neg hn, bd_some, bd_some, bd_some, j_mod ha hb', k_succ]
      have hr := Nat.mod_lt a (show b > 0 by omega)
      show bX11_commonDivisor_9 (fX11_commonDivisor_9 (n + 2 * f + 1)) h (Int64.ofNat b) (Int64.ofNat (a % b)) (Int32.ofNat (k + 1)) = _
      unfold bX11_commonDivisor_9
      rw [if_neg hk2, Nat.gcd_comm a b, Nat.gcd_rec b a]
      by_cases h1 : a % b = 0
      · rw [h1, if_pos lgz, Nat.gcd_zero_left]
      · have hn1 : ¬ Int64.ofNat (a % b) = 0 := fun q => h1 ((j_eq0 (by omega)).mp q)
        rw [if_neg (fun q => hn1 ((lg0 _).mp q)), nzJ, if_neg hn1, bd_some, bd_some, bd_some, j_mod hb' (by omega), k_succ]
        have hh := mod_half (show 0 < a % b by omega) hr
        have hp : 2 ^ (f + 1) = 2 * 2 ^ f := by rw [Nat.pow_succ]; omega
        rw [c_gcd f (a % b) (b % (a % b)) (k + 1 + 1) (by omega) (by omega) (by omega) (by omega) n, Nat.gcd_comm (a % b), ← Nat.gcd_rec]
/-- a part in lowest terms -/
def frc (a b : Nat) (x : Int32) : Int64 := if a = 0 ∨ b = 0 then (if x = 0 then 0 else 1) else if x = 0 then Int64.ofNat (a / Nat.gcd a b) else Int64.ofNat (b / Nat.gcd a b)
section STR
variable {p o : Nat} {P : PT} {c : CT} {N : Nat → Int32} {h hf : MH}
theorem c_part (C : CD p P c N h) {a b : Nat} (ha : a < 1099511627776) (hb : b < 1099511627776) (x : Int32) : fX11_answerPart h 0 (Int64.ofNat a) (Int64.ofNat b) x = some (frc a b x, sI h 0 10 0) := by
  simp only [fX11_answerPart, pI_at (C.1.sh 0 rfl : h.2.2.2[0]? = _), bd_some, lg0, j_eq0 (show a < 9223372036854775808 by omega), j_eq0 (show b < 9223372036854775808 by omega), bX11_answerPart_17]
  by_cases h1 : a = 0
  · simp only [frc, if_pos h1, if_pos (Or.inl h1 : a = 0 ∨ b = 0)]; split <;> rfl
  · by_cases h2 : b = 0
    · simp only [frc, if_neg h1, if_pos h2, if_pos (Or.inr h2 : a = 0 ∨ b = 0)]; split <;> rfl
    · have h3 : ¬ (a = 0 ∨ b = 0) := by omega
      have hg : 0 < Nat.gcd a b := Nat.gcd_pos_of_pos_left b (by omega)
      have hgl : Nat.gcd a b ≤ a := Nat.gcd_le_left b (by omega)
      have e := c_gcd (h := sI h 0 10 0) 40 a b 0 (by omega) (by omega) (by omega) (by omega) 999999919
      have e' : fX11_commonDivisor (sI h 0 10 0) (Int64.ofNat a) (Int64.ofNat b) = some (Int64.ofNat (Nat.gcd a b), sI h 0 10 0) := e
      have hn : ¬ Int64.ofNat (Nat.gcd a b) = 0 := fun q => by have := (j_eq0 (by omega)).mp q; omega
      simp only [frc, if_neg h1, if_neg h2, if_neg h3, e', bd2_some, if_neg hn, nzJ, bd_some, j_div (show a < 4611686018427387904 by omega) (show Nat.gcd a b < 4611686018427387904 by omega), j_div (show b < 4611686018427387904 by omega) (show Nat.gcd a b < 4611686018427387904 by omega)]
      split <;> rfl
theorem m_part (hk : ck h 77 13 = some ()) (hg : ∀ v, fX13_good1 h 77 v = some (v, hf)) {a b : Nat} (ha : a < 1099511627776) (hb : b < 1099511627776) (x : Int32) : fX13_fraction h 77 (Int64.ofNat a) (Int64.ofNat b) x = some (frc a b x, hf) := by
  simp only [fX13_fraction, hk, hg, bd_some, bd2_some, lg0, j_eq0 (show b < 9223372036854775808 by omega)]
  by_cases h2 : b = 0
  · simp only [frc, if_pos h2, if_pos (Or.inr h2 : a = 0 ∨ b = 0)]; split <;> rfl
  · have hg : 0 < Nat.gcd a b := Nat.gcd_pos_of_pos_right a (by omega)
    have hgl : Nat.gcd a b ≤ b := Nat.gcd_le_right a (by omega)
    have e := m_gcd (h := hf) 40 a b (by omega) (by omega) (by omega) 999999919
    have e' : fX13_common hf (Int64.ofNat a) (Int64.ofNat b) = some (Int64.ofNat (Nat.gcd a b), hf) := e
    have hn : ¬ Int64.ofNat (Nat.gcd a b) = 0 := fun q => by have := (j_eq0 (by omega)).mp q; omega
    simp only [frc, if_neg h2, e', bd2_some, if_neg hn, nzJ, bd_some, j_div (show a < 4611686018427387904 by omega) (show Nat.gcd a b < 4611686018427387904 by omega), j_div (show b < 4611686018427387904 by omega) (show Nat.gcd a b < 4611686018427387904 by omega)]
    by_cases h1 : a = 0
    · subst h1
      simp only [true_or, if_true, Nat.gcd_zero_left, Nat.zero_div, Nat.div_self (show 0 < b by omega)]
      split <;> rfl
    · have h3 : ¬ (a = 0 ∨ b = 0) := by omega
      simp only [if_neg h3]
      split <;> rfl
/-! of prints -/
def pj (P : PT) (k : Nat) : Nat := (P 9 k).toNatClampNeg
def hj (P : PT) (k : Nat) : Nat := (P 10 k).toNatClampNeg
theorem WP.pp (W : WP P c) (w : WC c) {k : Nat} (hk : k < c 7) : P 9 k = Int32.ofNat (pj P k) ∧ pj P k < c 2 := by
  obtain ⟨j, h1, h2⟩ := W.2.2.2.2.2.2.1 k hk
  have := w.b 2 (by decide)
  unfold pj
  rw [h2, k_clamp (by omega)]
  exact ⟨rfl, h1⟩
theorem WP.ph (W : WP P c) (w : WC c) {k : Nat} (hk : k < c 7) : P 10 k = Int32.ofNat (hj P k) ∧ hj P k < c 5 := by
  obtain ⟨j, h1, h2⟩ := W.2.2.2.2.2.2.2.1 k hk
  have := w.b 5 (by decide)
  unfold hj
  rw [h2, k_clamp (by omega)]
  exact ⟨rfl, h1⟩
/-- of a hundred, as a whole number -/
def hnN (P : PT) (i : Nat) (said v : Int32) : Nat := (if v = 2 then (P 8 i).toNatClampNeg else 0) + (if prK (P 7 i) said = v then 100 - (P 8 i).toNatClampNeg else 0)
theorem hun_N (W : WP P c) {i : Nat} (hi : i < c 5) (said v : Int32) : hun P i said v = Int32.ofNat (hnN P i said v) ∧ hnN P i said v ≤ 100 := by
  obtain ⟨j, h1, h2⟩ := W.2.2.2.2.2.1 i hi
  unfold hun hnN
  rw [h2, k_clamp (by omega), show (100 : Int32) = Int32.ofNat 100 from rfl, k_sub h1]
  constructor
  · rw [← k_add]
    congr 1
    · split <;> rfl
    · split <;> rfl
  · split <;> split <;> omega
theorem sayN_VD (hW : WP P c) (hN : WN c N) {s : Nat} (hs : s < c 3) (i : Nat) : VD (sayN P c N s i) := say_VD hW hN hs (N i)
def stWt (P : PT) (c : CT) (N : Nat → Int32) (s k : Nat) (a : Int64) : Int64 := a * Int32.toInt64 (hun P (hj P k) (sayN P c N s (pj P k)) (P 11 k))
def wt (P : PT) (c : CT) (N : Nat → Int32) (s : Nat) : Int64 := lp (stWt P c N s) (c 7) 0 1
def stAll (P : PT) (c : CT) (N : Nat → Int32) (s : Nat) (a : Int64) : Int64 := a + wt P c N s
def stNx (P : PT) (c : CT) (N : Nat → Int32) (i j : Nat) (v : Int32) (s : Nat) (a : Int64) : Int64 := a + wt P c N s * Int32.toInt64 (hun P j (sayN P c N s i) v)
def stMn (P : PT) (c : CT) (N : Nat → Int32) (s j i : Nat) (a : Int64) : Int64 := a + Int32.toInt64 (P 0 i * hun P j (sayN P c N s i) 1)
def stHv (P : PT) (c : CT) (N : Nat → Int32) (s : Nat) (a : Int32 × Int64) : Int32 × Int64 := if lg_cmp (wt P c N s) a.2 ≤ 0 then a else (Int32.ofNat s, wt P c N s)
theorem c_weight (C : CD p P c N h) (hW : WP P c) {s : Nat} (hs : s < c 3) : fX9_weight h 71 (Int32.ofNat s) = some (wt P c N s, h) :=
  lp0 (F := fun n k a => fX9_weight_5 n h 71 (Int32.ofNat s) a (Int32.ofNat k)) (fin := fun a => some (a, h)) (st := stWt P c N s) (b := c 7) (C.b7)
    (fun n a => by
      show bX9_weight_5 _ h 71 (Int32.ofNat s) a (Int32.ofNat (c 7)) = _
      simp only [bX9_weight_5, C.strD, C.plan, C.c7, bd_some, bd2_some, if_pos (k_rfl _)])
    (fun n k a hk => by
      have h1 := k_nle hk (C.b7)
      obtain ⟨e9, l9⟩ := hW.pp C.2.1 hk
      obtain ⟨e10, l10⟩ := hW.ph C.2.1 hk
      show bX9_weight_5 _ h 71 (Int32.ofNat s) a (Int32.ofNat k) = _
      simp only [bX9_weight_5, C.strD, C.plan, C.c7, C.t9, C.a9 hk, e9, C.k5, c_sayOn C hs l9, C.t10, C.a10 hk, e10, C.t11, C.a11 hk, c_hundredths C l10, bd_some, bd2_some, if_neg h1, k_succ, stWt]) (1)
theorem m_weight (M : MM o P c N h) (hW : WP P c) (hN : WN c N) {s : Nat} (hs : s < c 3) : fX13_fitsPrints h 77 (Int32.ofNat s) = some (wt P c N s, h) :=
  lp0 (F := fun n k a => fX13_fitsPrints_5 n h 77 (Int32.ofNat s) a (Int32.ofNat k)) (fin := fun a => some (a, h)) (st := stWt P c N s) (b := c 7) (M.b7)
    (fun n a => by
      show bX13_fitsPrints_5 _ h 77 (Int32.ofNat s) a (Int32.ofNat (c 7)) = _
      simp only [bX13_fitsPrints_5, M.off, M.c7, bd_some, bd2_some, if_pos (k_rfl _)])
    (fun n k a hk => by
      have h1 := k_nle hk (M.b7)
      obtain ⟨e9, l9⟩ := hW.pp M.2.2.2.1 hk
      obtain ⟨e10, l10⟩ := hW.ph M.2.2.2.1 hk
      show bX13_fitsPrints_5 _ h 77 (Int32.ofNat s) a (Int32.ofNat k) = _
      simp only [bX13_fitsPrints_5, M.off, M.c7, M.t9, M.a9 hk, e9, M.k13, m_saysNow M hW hs l9, M.t10, M.a10 hk, e10, M.t11, M.a11 hk, m_partOf M l10 (sayN_VD hW hN hs (pj P k)), bd_some, bd2_some, if_neg h1, k_succ, stWt]) (1)
theorem c_allW (C : CD p P c N h) (hW : WP P c) : fX9_allWeights h 71 = some ((lp (stAll P c N) (c 3) 0 (0)), h) :=
  lp0 (F := fun n k a => fX9_allWeights_4 n h 71 a (Int32.ofNat k)) (fin := fun a => some (a, h)) (st := stAll P c N) (b := c 3) (C.b3)
    (fun n a => by
      show bX9_allWeights_4 _ h 71 a (Int32.ofNat (c 3)) = _
      simp only [bX9_allWeights_4, C.strD, C.plan, C.c3, bd_some, bd2_some, if_pos (k_rfl _)])
    (fun n k a hk => by
      have h1 := k_nle hk (C.b3)
      show bX9_allWeights_4 _ h 71 a (Int32.ofNat k) = _
      simp only [bX9_allWeights_4, C.strD, C.plan, C.c3, C.strK, c_weight C hW hk, bd_some, bd2_some, if_neg h1, k_succ, stAll]) (0)
theorem m_allW (M : MM o P c N h) (hW : WP P c) (hN : WN c N) : fX13_fitAll h 77 = some ((lp (stAll P c N) (c 3) 0 (0)), h) :=
  lp0 (F := fun n k a => fX13_fitAll_4 n h 77 a (Int32.ofNat k)) (fin := fun a => some (a, h)) (st := stAll P c N) (b := c 3) (M.b3)
    (fun n a => by
      show bX13_fitAll_4 _ h 77 a (Int32.ofNat (c 3)) = _
      simp only [bX13_fitAll_4, M.off, M.c3, bd_some, bd2_some, if_pos (k_rfl _)])
    (fun n k a hk => by
      have h1 := k_nle hk (M.b3)
      show bX13_fitAll_4 _ h 77 a (Int32.ofNat k) = _
      simp only [bX13_fitAll_4, M.off, M.c3, M.k13, m_weight M hW hN hk, bd_some, bd2_some, if_neg h1, k_succ, stAll]) (0)
theorem c_nextW (C : CD p P c N h) (hW : WP P c) {i j : Nat} (hi : i < c 2) (hj' : j < c 5) (v : Int32) : fX9_weightOfPrint h 71 (Int32.ofNat i) (Int32.ofNat j) v = some ((lp (stNx P c N i j v) (c 3) 0 (0)), h) :=
  lp0 (F := fun n k a => fX9_weightOfPrint_6 n h 71 (Int32.ofNat i) (Int32.ofNat j) v a (Int32.ofNat k)) (fin := fun a => some (a, h)) (st := stNx P c N i j v) (b := c 3) (C.b3)
    (fun n a => by
      show bX9_weightOfPrint_6 _ h 71 (Int32.ofNat i) (Int32.ofNat j) v a (Int32.ofNat (c 3)) = _
      simp only [bX9_weightOfPrint_6, C.strD, C.plan, C.c3, bd_some, bd2_some, if_pos (k_rfl _)])
    (fun n k a hk => by
      have h1 := k_nle hk (C.b3)
      show bX9_weightOfPrint_6 _ h 71 (Int32.ofNat i) (Int32.ofNat j) v a (Int32.ofNat k) = _
      simp only [bX9_weightOfPrint_6, C.strD, C.plan, C.c3, C.strK, c_weight C hW hk, C.k5, c_sayOn C hk hi, c_hundredths C hj', bd_some, bd2_some, if_neg h1, k_succ, stNx]) (0)
theorem m_nextL (M : MM o P c N h) (hW : WP P c) (hN : WN c N) {i j : Nat} (hi : i < c 2) (hj' : j < c 5) (v x : Int32) : fX13_next_48 FU h 77 (Int32.ofNat i) (Int32.ofNat j) v x (0) (Int32.ofNat 0) = bd2 (fX13_fraction h 77 (lp (stNx P c N i j v) (c 3) 0 (0)) (100 * lp (stAll P c N) (c 3) 0 0) x) fun w6 h2 => some (w6, h2) :=
  lp0 (F := fun n k a => fX13_next_48 n h 77 (Int32.ofNat i) (Int32.ofNat j) v x a (Int32.ofNat k)) (fin := fun a => bd2 (fX13_fraction h 77 a (100 * lp (stAll P c N) (c 3) 0 0) x) fun w6 h2 => some (w6, h2)) (st := stNx P c N i j v) (b := c 3) (M.b3)
    (fun n a => by
      show bX13_next_48 _ h 77 (Int32.ofNat i) (Int32.ofNat j) v x a (Int32.ofNat (c 3)) = _
      simp only [bX13_next_48, M.off, M.c3, M.k13, m_allW M hW hN, bd_some, bd2_some, if_pos (k_rfl _)])
    (fun n k a hk => by
      have h1 := k_nle hk (M.b3)
      show bX13_next_48 _ h 77 (Int32.ofNat i) (Int32.ofNat j) v x a (Int32.ofNat k) = _
      simp only [bX13_next_48, M.off, M.c3, M.k13, m_weight M hW hN hk, m_saysNow M hW hk hi, m_partOf M hj' (sayN_VD hW hN hk i), bd_some, bd2_some, if_neg h1, k_succ, stNx]) (0)
theorem c_meanW (C : CD p P c N h) {s j : Nat} (hs : s < c 3) (hj' : j < c 5) : fX5_worthOfYes h 26 (Int32.ofNat s) (Int32.ofNat j) = some ((lp (stMn P c N s j) (c 2) 0 (0)), h) :=
  lp0 (F := fun n k a => fX5_worthOfYes_5 n h 26 (Int32.ofNat s) (Int32.ofNat j) a (Int32.ofNat k)) (fin := fun a => some (a, h)) (st := stMn P c N s j) (b := c 2) (C.b2)
    (fun n a => by
      show bX5_worthOfYes_5 _ h 26 (Int32.ofNat s) (Int32.ofNat j) a (Int32.ofNat (c 2)) = _
      simp only [bX5_worthOfYes_5, C.plan, C.c2, bd_some, bd2_some, if_pos (k_rfl _)])
    (fun n k a hk => by
      have h1 := k_nle hk (C.b2)
      show bX5_worthOfYes_5 _ h 26 (Int32.ofNat s) (Int32.ofNat j) a (Int32.ofNat k) = _
      simp only [bX5_worthOfYes_5, C.plan, C.c2, C.t0, C.a0 hk, C.k5, c_sayOn C hs hk, c_hundredths C hj', bd_some, bd2_some, if_neg h1, k_succ, stMn]) (0)
theorem m_meanL (M : MM o P c N h) (hW : WP P c) (hN : WN c N) {s j : Nat} (hs : s < c 3) (hj' : j < c 5) (x : Int32) : fX13_mean_34 FU h 77 (Int32.ofNat s) (Int32.ofNat j) x (0) (Int32.ofNat 0) = bd2 (fX13_fraction h 77 (lp (stMn P c N s j) (c 2) 0 (0)) 100 x) fun w4 h1 => some (w4, h1) :=
  lp0 (F := fun n k a => fX13_mean_34 n h 77 (Int32.ofNat s) (Int32.ofNat j) x a (Int32.ofNat k)) (fin := fun a => bd2 (fX13_fraction h 77 a 100 x) fun w4 h1 => some (w4, h1)) (st := stMn P c N s j) (b := c 2) (M.b2)
    (fun n a => by
      show bX13_mean_34 _ h 77 (Int32.ofNat s) (Int32.ofNat j) x a (Int32.ofNat (c 2)) = _
      simp only [bX13_mean_34, M.off, M.c2, M.k13, bd_some, bd2_some, if_pos (k_rfl _)])
    (fun n k a hk => by
      have h1 := k_nle hk (M.b2)
      show bX13_mean_34 _ h 77 (Int32.ofNat s) (Int32.ofNat j) x a (Int32.ofNat k) = _
      simp only [bX13_mean_34, M.off, M.c2, M.t0, M.a0 hk, M.k13, m_saysNow M hW hs hk, m_partOf M hj' (sayN_VD hW hN hs k), bd_some, bd2_some, if_neg h1, k_succ, stMn]) (0)
theorem c_heavy (C : CD p P c N h) (hW : WP P c) : fX9_heaviest h 71 = some (((lp (stHv P c N) (c 3) 0 ((-2, 0))) : Int32 × Int64).1, h) :=
  lp0 (F := fun n k a => fX9_heaviest_8 n h 71 (a : Int32 × Int64).1 (a : Int32 × Int64).2 (Int32.ofNat k)) (fin := fun a => some ((a : Int32 × Int64).1, h)) (st := stHv P c N) (b := c 3) (C.b3)
    (fun n a => by
      show bX9_heaviest_8 _ h 71 (a : Int32 × Int64).1 (a : Int32 × Int64).2 (Int32.ofNat (c 3)) = _
      simp only [bX9_heaviest_8, C.strD, C.plan, C.c3, bd_some, bd2_some, if_pos (k_rfl _)])
    (fun n k a hk => by
      have h1 := k_nle hk (C.b3)
      show bX9_heaviest_8 _ h 71 (a : Int32 × Int64).1 (a : Int32 × Int64).2 (Int32.ofNat k) = _
      simp only [bX9_heaviest_8, C.strD, C.plan, C.c3, C.strK, c_weight C hW hk, bd_some, bd2_some, if_neg h1, k_succ, stHv]
      by_cases q : lg_cmp (wt P c N k) a.2 ≤ 0
      · simp only [if_pos q]
      · simp only [if_neg q]) ((-2, 0))
theorem m_heavyL (M : MM o P c N h) (hW : WP P c) (hN : WN c N) (hg : ∀ v, fX13_good1 h 77 v = some (v, hf)) : fX13_likeliest_26 FU h 77 (((-2, 0)) : Int32 × Int64).1 (((-2, 0)) : Int32 × Int64).2 (Int32.ofNat 0) = some (((lp (stHv P c N) (c 3) 0 ((-2, 0))) : Int32 × Int64).1, hf) :=
  lp0 (F := fun n k a => fX13_likeliest_26 n h 77 (a : Int32 × Int64).1 (a : Int32 × Int64).2 (Int32.ofNat k)) (fin := fun a => some ((a : Int32 × Int64).1, hf)) (st := stHv P c N) (b := c 3) (M.b3)
    (fun n a => by
      show bX13_likeliest_26 _ h 77 (a : Int32 × Int64).1 (a : Int32 × Int64).2 (Int32.ofNat (c 3)) = _
      simp only [bX13_likeliest_26, M.off, M.c3, M.k13, hg, bd_some, bd2_some, if_pos (k_rfl _)])
    (fun n k a hk => by
      have h1 := k_nle hk (M.b3)
      show bX13_likeliest_26 _ h 77 (a : Int32 × Int64).1 (a : Int32 × Int64).2 (Int32.ofNat k) = _
      simp only [bX13_likeliest_26, M.off, M.c3, M.k13, m_weight M hW hN hk, ← Int32.not_le, ite_not, bd_some, bd2_some, if_neg h1, k_succ, stHv]
      by_cases q : lg_cmp (wt P c N k) a.2 ≤ 0
      · simp only [if_pos q]
      · simp only [if_neg q]) ((-2, 0))
/-! the weights are small -/
theorem wt_N (hW : WP P c) (w : WC c) (s : Nat) : ∃ x, x ≤ 100000000 ∧ wt P c N s = Int64.ofNat x := by
  have h := lp_inv (s1 := stWt P c N s) (I := fun k a => ∃ x, x ≤ 100 ^ k ∧ a = Int64.ofNat x) (b := c 7) (fun k a hk hI => by
    obtain ⟨x, hx, rfl⟩ := hI
    obtain ⟨e10, l10⟩ := hW.ph w hk
    obtain ⟨e, l⟩ := hun_N hW l10 (sayN P c N s (pj P k)) (P 11 k)
    refine ⟨x * hnN P (hj P k) (sayN P c N s (pj P k)) (P 11 k), ?_, ?_⟩
    · rw [Nat.pow_succ]; exact Nat.mul_le_mul hx l
    · unfold stWt
      rw [e, k_i2l (by omega), ← Int64.ofNat_mul]) (c 7) 0 1 (by omega) ⟨1, by decide, rfl⟩
  obtain ⟨x, hx, e⟩ := h
  obtain ⟨-, -, -, -, -, -, -, w7⟩ := w
  exact ⟨x, Nat.le_trans hx (Nat.le_trans (Nat.pow_le_pow_right (by decide) w7) (by decide)), e⟩
theorem all_N (hW : WP P c) (w : WC c) : ∃ x, x ≤ 400000000 ∧ lp (stAll P c N) (c 3) 0 0 = Int64.ofNat x := by
  have h := lp_inv (s1 := stAll P c N) (I := fun k a => ∃ x, x ≤ k * 100000000 ∧ a = Int64.ofNat x) (b := c 3) (fun k a hk hI => by
    obtain ⟨x, hx, rfl⟩ := hI
    obtain ⟨y, hy, e⟩ := wt_N (N := N) hW w k
    refine ⟨x + y, by omega, ?_⟩
    unfold stAll
    rw [e, ← Int64.ofNat_add]) (c 3) 0 0 (by omega) ⟨0, by decide, rfl⟩
  obtain ⟨x, hx, e⟩ := h
  obtain ⟨-, -, -, w3, -⟩ := w
  exact ⟨x, by omega, e⟩
theorem nx_N (hW : WP P c) (w : WC c) {i j : Nat} (hj' : j < c 5) (v : Int32) : ∃ x, x ≤ 40000000000 ∧ lp (stNx P c N i j v) (c 3) 0 0 = Int64.ofNat x := by
  have h := lp_inv (s1 := stNx P c N i j v) (I := fun k a => ∃ x, x ≤ k * 10000000000 ∧ a = Int64.ofNat x) (b := c 3) (fun k a hk hI => by
    obtain ⟨x, hx, rfl⟩ := hI
    obtain ⟨y, hy, e⟩ := wt_N (N := N) hW w k
    obtain ⟨e2, l2⟩ := hun_N hW hj' (sayN P c N k i) v
    have := Nat.mul_le_mul hy l2
    refine ⟨x + y * hnN P j (sayN P c N k i) v, by omega, ?_⟩
    unfold stNx
    rw [e, e2, k_i2l (by omega), ← Int64.ofNat_mul, ← Int64.ofNat_add]) (c 3) 0 0 (by omega) ⟨0, by decide, rfl⟩
  obtain ⟨x, hx, e⟩ := h
  obtain ⟨-, -, -, w3, -⟩ := w
  exact ⟨x, by omega, e⟩
theorem mn_N (hW : WP P c) (w : WC c) {s j : Nat} (hj' : j < c 5) : ∃ x, x ≤ 49500 ∧ lp (stMn P c N s j) (c 2) 0 0 = Int64.ofNat x := by
  have h := lp_inv (s1 := stMn P c N s j) (I := fun k a => ∃ x, x ≤ k * 9900 ∧ a = Int64.ofNat x) (b := c 2) (fun k a hk hI => by
    obtain ⟨x, hx, rfl⟩ := hI
    obtain ⟨y, hy, e⟩ := hW.2.2.2.2.1 k hk
    obtain ⟨e2, l2⟩ := hun_N hW hj' (sayN P c N s k) 1
    have := Nat.mul_le_mul hy l2
    refine ⟨x + y * hnN P j (sayN P c N s k) 1, by omega, ?_⟩
    unfold stMn
    rw [e, e2, k_mul, k_i2l (by omega), ← Int64.ofNat_add]) (c 2) 0 0 (by omega) ⟨0, by decide, rfl⟩
  obtain ⟨x, hx, e⟩ := h
  obtain ⟨-, -, w2, -⟩ := w
  exact ⟨x, by omega, e⟩
end STR
