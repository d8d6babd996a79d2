/-! ===== judgement; a clerk against an applicant ===== -/
section BEN
variable {p o : Nat} {P : PT} {c : CT} {N : Nat → Int32} {h hf : MH}
/-- yes over no: of those good, itself aside -/
def stG (P : PT) (c : CT) (N : Nat → Int32) (set : Int32) (x s : Nat) (a : Int32) : Int32 :=
  if s = x then a else if bt set s = true then (if say P c N s (P 3 x) = 1 then a + 1 else if say P c N s (P 3 x) = 0 then a + (-1) else a) else a
def mg (P : PT) (c : CT) (N : Nat → Int32) (set : Int32) (x : Nat) : Int32 := lp (stG P c N set x) (c 3) 0 0
def bMo (P : PT) (c : CT) (N : Nat → Int32) (set : Int32) (x : Nat) : Bool := decide (0 < mg P c N set x) || (decide (mg P c N set x = 0) && bt set x)
def mo (P : PT) (c : CT) (N : Nat → Int32) (set : Int32) : Int32 := lp (stB (bMo P c N set)) (c 3) 0 0
theorem c_yesOverNo (C : CD p P c N h) (set : Int32) {x : Nat} (hx : x < c 3) : fX0_yesOverNo h 72 set (Int32.ofNat x) = some (mg P c N set x, h) :=
  lp0 (F := fun n k a => fX0_yesOverNo_5 n h 72 set (Int32.ofNat x) a (Int32.ofNat k)) (fin := fun a => some (a, h)) (st := stG P c N set x) (b := c 3) C.b3
    (fun n a => by
      show bX0_yesOverNo_5 _ h 72 _ _ a (Int32.ofNat (c 3)) = _
      simp only [bX0_yesOverNo_5, C.benD, C.plan, C.c3, bd_some, if_pos (k_rfl _)])
    (fun n k a hk => by
      have h1 := k_nle hk C.b3
      have h4 := C.s4
      have e := k_eq (i := k) (n := x) (by omega) (by omega)
      show bX0_yesOverNo_5 _ h 72 _ _ a (Int32.ofNat k) = _
      simp only [bX0_yesOverNo_5, C.benD, C.plan, C.c3, C.t3, C.a3 hx, C.k5, c_sayOf C hk, c_hasBit, e, bd_some, bd2_some, if_neg h1, k_succ, stG, Int32.add_zero]
      by_cases q1 : k = x
      · simp only [if_pos q1]
      · by_cases q2 : bt set k = true
        · by_cases q3 : say P c N k (P 3 x) = 1
          · simp [q1, q2, q3]
          · by_cases q4 : say P c N k (P 3 x) = 0
            · simp [q1, q2, q4]
            · simp [q1, q2, q3, q4]
        · simp [q1, q2]) 0
theorem c_month (C : CD p P c N h) (set : Int32) : fX0_behindMonth h 72 set = some (mo P c N set, h) :=
  lp0 (F := fun n k a => fX0_behindMonth_4 n h 72 set a (Int32.ofNat k)) (fin := fun a => some (a, h)) (st := stB (bMo P c N set)) (b := c 3) C.b3
    (fun n a => by
      show bX0_behindMonth_4 _ h 72 _ a (Int32.ofNat (c 3)) = _
      simp only [bX0_behindMonth_4, C.benD, C.plan, C.c3, bd_some, if_pos (k_rfl _)])
    (fun n k a hk => by
      have h1 := k_nle hk C.b3
      show bX0_behindMonth_4 _ h 72 _ a (Int32.ofNat k) = _
      simp only [bX0_behindMonth_4, C.benD, C.benK, C.plan, C.c3, c_yesOverNo C set hk, c_hasBit, bd_some, bd2_some, if_neg h1, k_succ, stB, bMo]
      by_cases q1 : 0 < mg P c N set k
      · simp [q1]
      · by_cases q2 : mg P c N set k = 0
        · by_cases q3 : bt set k = true
          · simp [q2, q3]
          · simp [q2, q3]
        · simp [q1, q2]) 0
theorem m_monthV (M : MM o P c N h) (hW : WP P c) (set y : Int32) {x : Nat} (hx : x < c 3) (k4 : MH → Nat → Int32 → Int32 → Int32 → Option (Int32 × MH)) :
    fX13_month_21 k4 FU h 77 set y (Int32.ofNat x) 0 (Int32.ofNat 0) = bX13_month_21 k4 (fun _ _ _ _ _ _ _ => none) h 77 set y (Int32.ofNat x) (mg P c N set x) (Int32.ofNat (c 3)) :=
  lp0 (F := fun n k a => fX13_month_21 k4 n h 77 set y (Int32.ofNat x) a (Int32.ofNat k)) (fin := fun a => bX13_month_21 k4 (fun _ _ _ _ _ _ _ => none) h 77 set y (Int32.ofNat x) a (Int32.ofNat (c 3))) (st := stG P c N set x) (b := c 3) M.b3
    (fun n a => by
      show bX13_month_21 k4 _ h 77 _ _ _ a (Int32.ofNat (c 3)) = _
      simp only [bX13_month_21, M.off, M.c3, bd_some, if_pos (k_rfl _)])
    (fun n k a hk => by
      have h1 := k_nle hk M.b3
      have h4 := M.s4
      have e := k_eq (i := k) (n := x) (by omega) (by omega)
      show bX13_month_21 k4 _ h 77 _ _ _ a (Int32.ofNat k) = _
      simp only [bX13_month_21, M.off, M.c3, M.t3, M.a3 hx, M.k13, m_saysBy M hW hk, m_bit, e, bd_some, bd2_some, if_neg h1, k_succ, stG, Int32.add_zero]
      by_cases q1 : k = x
      · simp only [if_pos q1]
      · by_cases q2 : bt set k = true
        · by_cases q3 : say P c N k (P 3 x) = 1
          · simp [q1, q2, q3]
          · by_cases q4 : say P c N k (P 3 x) = 0
            · simp [q1, q2, q4]
            · simp [q1, q2, q3, q4]
        · simp [q1, q2]) 0
theorem m_month (M : MM o P c N h) (hW : WP P c) (set : Int32) : fX13_month h 77 set = some (mo P c N set, h) :=
  lp0 (F := fun n k a => fX13_month_4 n h 77 set a (Int32.ofNat k)) (fin := fun a => some (a, h)) (st := stB (bMo P c N set)) (b := c 3) M.b3
    (fun n a => by
      show bX13_month_4 _ h 77 _ a (Int32.ofNat (c 3)) = _
      simp only [bX13_month_4, M.off, M.c3, bd_some, if_pos (k_rfl _)])
    (fun n k a hk => by
      have h1 := k_nle hk M.b3
      have e := m_monthV M hW set a hk (fX13_month_4 n)
      show bX13_month_4 (fX13_month_4 n) h 77 _ a (Int32.ofNat k) = _
      simp only [bX13_month_4, M.off, M.c3, bd_some, if_neg h1]
      refine Eq.trans e ?_
      simp only [bX13_month_21, M.off, M.c3, m_bit, bd_some, bd2_some, if_pos (k_rfl _), k_succ, stB, bMo]
      by_cases q1 : 0 < mg P c N set k
      · simp [q1]
      · by_cases q2 : mg P c N set k = 0
        · by_cases q3 : bt set k = true
          · simp [q2, q3]
          · simp [q2, q3]
        · simp [q1, q2]) 0
def set0 (c : CT) : Int32 := (1 <<< (Int32.ofNat (c 3) &&& 31)) - 1
theorem c_stampSets (C : CD p P c N h) : fX0_stampSets h 72 = some (Int32.ofNat (2 ^ c 3), h) := by
  have h4 := C.s4
  simp only [fX0_stampSets, C.benD, C.plan, C.c3, bd_some, x_shl (show c 3 ≤ 5 by omega)]
theorem set0_eq (h4 : c 3 ≤ 4) : Int32.ofNat (2 ^ c 3) - 1 = set0 c := by unfold set0; rw [x_shl (show c 3 ≤ 5 by omega)]
theorem m_allStamps (M : MM o P c N h) : fX13_allStamps h 77 = some (set0 c, h) := by
  simp only [fX13_allStamps, M.off, M.c3, bd_some]; rfl
def gdB (P : PT) (c : CT) (N : Nat → Int32) (n : Nat) : Int32 := lp (fun _ a => mo P c N a) n 0 (set0 c)
theorem c_good (C : CD p P c N h) {b : Nat} (hb : b ≤ 20) : fX0_goodBehind h 72 (Int32.ofNat b) = some (gdB P c N b, h) := by
  have e0 : fX0_goodBehind h 72 (Int32.ofNat b) = fX0_goodBehind_9 FU h 72 (Int32.ofNat b) (set0 c) (Int32.ofNat 0) := by
    simp only [fX0_goodBehind, C.benK, c_stampSets C, bd_some, bd2_some, set0_eq C.s4]; rfl
  rw [e0]
  exact lp0 (F := fun n k a => fX0_goodBehind_9 n h 72 (Int32.ofNat b) a (Int32.ofNat k)) (fin := fun a => some (a, h)) (st := fun _ a => mo P c N a) (b := b) (by omega)
    (fun n a => by
      show bX0_goodBehind_9 _ h 72 _ a (Int32.ofNat b) = _
      simp only [bX0_goodBehind_9, if_pos (k_rfl _)])
    (fun n k a hk => by
      have h1 := k_nle hk (show b ≤ 100000 by omega)
      show bX0_goodBehind_9 _ h 72 _ a (Int32.ofNat k) = _
      simp only [bX0_goodBehind_9, C.benK, c_month C, bd_some, bd2_some, if_neg h1, k_succ]) (set0 c)
theorem m_goodL (M : MM o P c N h) (hW : WP P c) (hg : ∀ v, fX13_good1 h 77 v = some (v, hf)) {b : Nat} (hb : b ≤ 20) : fX13_good_41 FU h 77 (Int32.ofNat b) (set0 c) (Int32.ofNat 0) = some (gdB P c N b, hf) :=
  lp0 (F := fun n k a => fX13_good_41 n h 77 (Int32.ofNat b) a (Int32.ofNat k)) (fin := fun a => some (a, hf)) (st := fun _ a => mo P c N a) (b := b) (by omega)
    (fun n a => by
      show bX13_good_41 _ h 77 _ a (Int32.ofNat b) = _
      simp only [bX13_good_41, M.k13, hg, bd_some, bd2_some, if_pos (k_rfl _)])
    (fun n k a hk => by
      have h1 := k_nle hk (show b ≤ 100000 by omega)
      show bX13_good_41 _ h 77 _ a (Int32.ofNat k) = _
      simp only [bX13_good_41, M.k13, m_month M hW, bd_some, bd2_some, if_neg h1, k_succ]) (set0 c)
def stS (P : PT) (c : CT) (N : Nat → Int32) (k : Nat) (a : Int32) : Nat ⊕ Int32 := if mo P c N a = a then .inl k else .inr (mo P c N a)
def fS (q : Nat ⊕ Int32) : Int32 := match q with
  | .inl k => Int32.ofNat k
  | .inr _ => -2
theorem c_settled (C : CD p P c N h) : fX0_monthsToSettle h 72 = some (fS (lx (stS P c N) 21 0 (set0 c)), h) := by
  have e0 : fX0_monthsToSettle h 72 = fX0_monthsToSettle_9 FU h 72 (set0 c) (Int32.ofNat 0) := by
    simp only [fX0_monthsToSettle, C.benK, c_stampSets C, bd_some, bd2_some, set0_eq C.s4]; rfl
  rw [e0]
  exact lx0 (F := fun n k a => fX0_monthsToSettle_9 n h 72 a (Int32.ofNat k)) (fin := fun q => some (fS q, h)) (st := stS P c N) (b := 21) (by decide)
    (fun n a => by
      show bX0_monthsToSettle_9 _ h 72 a (Int32.ofNat 21) = _
      unfold bX0_monthsToSettle_9
      rw [if_pos (show (20 : Int32) < Int32.ofNat 21 by decide)]; rfl)
    (fun n k a hk => by
      have h1 : ¬ (20 : Int32) < Int32.ofNat k := fun q => by have := (k_lt (i := 20) (by decide) (by omega)).mp q; omega
      show bX0_monthsToSettle_9 _ h 72 a (Int32.ofNat k) = _
      simp only [bX0_monthsToSettle_9, C.benK, c_month C, bd_some, bd2_some, if_neg h1, k_succ, stS]
      by_cases q : mo P c N a = a
      · simp only [if_pos q]; rfl
      · simp only [if_neg q]) (set0 c)
theorem m_settledL (M : MM o P c N h) (hW : WP P c) (hg : ∀ v, fX13_good1 h 77 v = some (v, hf)) : fX13_settled_25 FU h 77 (set0 c) (Int32.ofNat 0) = some (fS (lx (stS P c N) 21 0 (set0 c)), hf) :=
  lx0 (F := fun n k a => fX13_settled_25 n h 77 a (Int32.ofNat k)) (fin := fun q => some (fS q, hf)) (st := stS P c N) (b := 21) (by decide)
    (fun n a => by
      show bX13_settled_25 _ h 77 a (Int32.ofNat 21) = _
      unfold bX13_settled_25
      rw [if_pos (show (20 : Int32) < Int32.ofNat 21 by decide), M.k13, bd_some, hg, bd2_some]; rfl)
    (fun n k a hk => by
      have h1 : ¬ (20 : Int32) < Int32.ofNat k := fun q => by have := (k_lt (i := 20) (by decide) (by omega)).mp q; omega
      show bX13_settled_25 _ h 77 a (Int32.ofNat k) = _
      simp only [bX13_settled_25, M.k13, m_month M hW, hg, bd_some, bd2_some, if_neg h1, k_succ, stS]
      by_cases q : mo P c N a = a
      · simp only [if_pos q]; rfl
      · simp only [if_neg q]) (set0 c)
def bSt (P : PT) (c : CT) (N : Nat → Int32) (k : Nat) : Bool := decide (mo P c N (Int32.ofNat k) = Int32.ofNat k)
theorem p16 (h4 : c 3 ≤ 4) : 2 ^ c 3 ≤ 100000 := Nat.le_trans (x_sets (show c 3 ≤ 5 by omega)) (by decide)
theorem c_steady (C : CD p P c N h) : fX0_unchangedSets h 72 = some (lp (stC (bSt P c N)) (2 ^ c 3) 0 0, h) :=
  lp0 (F := fun n k a => fX0_unchangedSets_4 n h 72 a (Int32.ofNat k)) (fin := fun a => some (a, h)) (st := stC (bSt P c N)) (b := 2 ^ c 3) (p16 C.s4)
    (fun n a => by
      show bX0_unchangedSets_4 _ h 72 a (Int32.ofNat (2 ^ c 3)) = _
      simp only [bX0_unchangedSets_4, C.benK, c_stampSets C, bd_some, bd2_some, if_pos (k_rfl _)])
    (fun n k a hk => by
      have h1 := k_nle hk (p16 C.s4)
      show bX0_unchangedSets_4 _ h 72 a (Int32.ofNat k) = _
      simp only [bX0_unchangedSets_4, C.benK, c_stampSets C, c_month C, bd_some, bd2_some, if_neg h1, k_succ, stC, bSt, decide_eq_true_eq]
      by_cases q : mo P c N (Int32.ofNat k) = Int32.ofNat k
      · simp only [if_pos q]
      · simp only [if_neg q]) 0
theorem m_steadyL (M : MM o P c N h) (hW : WP P c) (hg : ∀ v, fX13_good1 h 77 v = some (v, hf)) : fX13_steady_22 FU h 77 0 (Int32.ofNat 0) = some (lp (stC (bSt P c N)) (2 ^ c 3) 0 0, hf) := by
  have hp := x_sets (show c 3 ≤ 5 by have := M.s4; omega)
  have hp0 := Nat.two_pow_pos (c 3)
  have es : set0 c = Int32.ofNat (2 ^ c 3 - 1) := by rw [← set0_eq M.s4]; exact k_sub (b := 1) hp0
  exact lp0 (F := fun n k a => fX13_steady_22 n h 77 a (Int32.ofNat k)) (fin := fun a => some (a, hf)) (st := stC (bSt P c N)) (b := 2 ^ c 3) (p16 M.s4)
    (fun n a => by
      have h1 : Int32.ofNat (2 ^ c 3 - 1) < Int32.ofNat (2 ^ c 3) := (k_lt (by omega) (by omega)).mpr (by omega)
      show bX13_steady_22 _ h 77 a (Int32.ofNat (2 ^ c 3)) = _
      simp only [bX13_steady_22, M.k13, m_allStamps M, es, hg, bd_some, bd2_some, if_pos h1])
    (fun n k a hk => by
      have h1 : ¬ Int32.ofNat (2 ^ c 3 - 1) < Int32.ofNat k := fun q => by have := (k_lt (by omega) (by omega)).mp q; omega
      show bX13_steady_22 _ h 77 a (Int32.ofNat k) = _
      simp only [bX13_steady_22, M.k13, m_allStamps M, es, m_month M hW, bd_some, bd2_some, if_neg h1, k_succ, stC, bSt, decide_eq_true_eq, Int32.add_zero]
      by_cases q : mo P c N (Int32.ofNat k) = Int32.ofNat k
      · simp only [if_pos q]
      · simp only [if_neg q]) 0
/-! the game -/
def gn (P : PT) (c : CT) (N : Nat → Int32) (s i : Nat) : Int32 := if sayN P c N s i = 1 then P 0 i else if sayN P c N s i = 2 then P 0 i / 2 else 0
theorem c_gain (C : CD p P c N h) {s i : Nat} (hs : s < c 3) (hi : i < c 2) : fX2_gain h 73 (Int32.ofNat s) (Int32.ofNat i) = some (gn P c N s i, h) := by
  have h5 := C.p5
  have e : fX5_sayOf h 26 (Int32.ofNat s) (N i) = some (sayN P c N s i, h) := c_sayOf C hs (N i)
  simp only [fX2_gain, C.gamD, C.plan, C.now, C.k4, C.k5, C.t0, C.a0 hi, c_marksOf C (show i < 5 by omega), e, nz2, bd_some, bd2_some, gn]
  by_cases q1 : sayN P c N s i = 1
  · simp only [if_pos q1]
  · by_cases q2 : sayN P c N s i = 2
    · simp only [if_neg q1, if_pos q2]
    · simp only [if_neg q1, if_neg q2]
theorem m_hasBy (M : MM o P c N h) (hW : WP P c) {s i : Nat} (hs : s < c 3) (hi : i < c 2) : fX13_hasBy h 77 (Int32.ofNat s) (Int32.ofNat i) = some (gn P c N s i, h) := by
  simp only [fX13_hasBy, M.off, M.k13, M.t0, M.a0 hi, m_saysNow M hW hs hi, nz2, bd_some, bd2_some, gn]
  by_cases q1 : sayN P c N s i = 1
  · simp only [if_pos q1]
  · by_cases q2 : sayN P c N s i = 2
    · simp only [if_neg q1, if_pos q2]
    · simp only [if_neg q1, if_neg q2]
theorem mMax_le (x y : Int32) : mMax x y = if y ≤ x then x else y := by
  unfold mMax
  by_cases q : x < y
  · rw [if_pos q, if_neg (fun w => absurd q (Int32.not_lt.mpr w))]
  · rw [if_neg q, if_pos (Int32.not_lt.mp q)]
theorem mMin_le (x y : Int32) : mMin x y = if x ≤ y then x else y := by
  unfold mMin
  by_cases q : y < x
  · rw [if_pos q, if_neg (fun w => absurd q (Int32.not_lt.mpr w))]
  · rw [if_neg q, if_pos (Int32.not_lt.mp q)]
theorem mMin_top {y : Int32} (hy : y.toInt ≤ 99) : mMin 99 y = y := by
  unfold mMin
  by_cases q : y < 99
  · rw [if_pos q]
  · rw [if_neg q]
    apply Int32.toInt_inj.mp
    have h2 := Int32.not_lt.mp q
    rw [Int32.le_iff_toInt_le] at h2
    have h3 : (99 : Int32).toInt = 99 := by decide
    rw [h3] at h2 ⊢
    omega
theorem w99 : ∀ j, j < 100 → (Int32.ofNat j).toInt ≤ 99 ∧ (Int32.ofNat j / 2).toInt ≤ 99 := by decide +kernel
theorem gn_le (hW : WP P c) {i : Nat} (hi : i < c 2) (s : Nat) : (gn P c N s i).toInt ≤ 99 := by
  obtain ⟨j, hj, e⟩ := hW.2.2.2.2.1 i hi
  have w := w99 j (by omega)
  unfold gn
  rw [e]
  by_cases q1 : sayN P c N s i = 1
  · rw [if_pos q1]; exact w.1
  · rw [if_neg q1]
    by_cases q2 : sayN P c N s i = 2
    · rw [if_pos q2]; exact w.2
    · rw [if_neg q2]; decide
def mb (P : PT) (c : CT) (N : Nat → Int32) (s : Nat) : Int32 := lp (fun i a => mMax a (gn P c N s i)) (c 2) 0 0
theorem mb_le (hW : WP P c) (s : Nat) : (mb P c N s).toInt ≤ 99 :=
  lp_inv (s1 := fun i a => mMax a (gn P c N s i)) (I := fun _ a => a.toInt ≤ 99) (b := c 2)
    (fun k a hk ha => by
      show (mMax a (gn P c N s k)).toInt ≤ 99
      rw [mMax_le]
      split
      · exact ha
      · exact gn_le hW hk s) (c 2) 0 0 (by omega) (show (0 : Int32).toInt ≤ 99 by decide)
def lfI (P : PT) (c : CT) (N : Nat → Int32) (i : Nat) : Int32 := lp (fun s a => mMin a (gn P c N s i)) (c 3) 0 99
theorem c_mostBy (C : CD p P c N h) {s : Nat} (hs : s < c 3) : fX2_mostBy h 73 (Int32.ofNat s) = some (mb P c N s, h) :=
  lp0 (F := fun n k a => fX2_mostBy_4 n h 73 (Int32.ofNat s) a (Int32.ofNat k)) (fin := fun a => some (a, h)) (st := fun i a => mMax a (gn P c N s i)) (b := c 2) (C.b2)
    (fun n a => by
      show bX2_mostBy_4 _ h 73 (Int32.ofNat s) a (Int32.ofNat (c 2)) = _
      simp only [bX2_mostBy_4, C.gamD, C.plan, C.c2, bd_some, bd2_some, if_pos (k_rfl _)])
    (fun n k a hk => by
      have h1 := k_nle hk (C.b2)
      show bX2_mostBy_4 _ h 73 (Int32.ofNat s) a (Int32.ofNat k) = _
      simp only [bX2_mostBy_4, C.gamD, C.gamK, C.plan, C.c2, c_gain C hs hk, bd_some, bd2_some, if_neg h1, k_succ]) (0)
theorem m_givesMost (M : MM o P c N h) (hW : WP P c) {s : Nat} (hs : s < c 3) : fX13_givesMost h 77 (Int32.ofNat s) = some (mb P c N s, h) :=
  lp0 (F := fun n k a => fX13_givesMost_4 n h 77 (Int32.ofNat s) a (Int32.ofNat k)) (fin := fun a => some (a, h)) (st := fun i a => mMax a (gn P c N s i)) (b := c 2) (M.b2)
    (fun n a => by
      show bX13_givesMost_4 _ h 77 (Int32.ofNat s) a (Int32.ofNat (c 2)) = _
      simp only [bX13_givesMost_4, M.off, M.c2, bd_some, bd2_some, if_pos (k_rfl _)])
    (fun n k a hk => by
      have h1 := k_nle hk (M.b2)
      show bX13_givesMost_4 _ h 77 (Int32.ofNat s) a (Int32.ofNat k) = _
      simp only [bX13_givesMost_4, M.off, M.k13, M.c2, m_hasBy M hW hs hk, mMax_le, bd_some, bd2_some, if_neg h1, k_succ]
      by_cases q : gn P c N s k ≤ a
      · simp only [if_pos q]
      · simp only [if_neg q]) (0)
theorem c_leastFor (C : CD p P c N h) {i : Nat} (hi : i < c 2) : fX2_leastFor h 73 (Int32.ofNat i) = some (lfI P c N i, h) :=
  lp0 (F := fun n k a => fX2_leastFor_5 n h 73 (Int32.ofNat i) a (Int32.ofNat k)) (fin := fun a => some (a, h)) (st := fun s a => mMin a (gn P c N s i)) (b := c 3) (C.b3)
    (fun n a => by
      show bX2_leastFor_5 _ h 73 (Int32.ofNat i) a (Int32.ofNat (c 3)) = _
      simp only [bX2_leastFor_5, C.gamD, C.plan, C.c3, bd_some, bd2_some, if_pos (k_rfl _)])
    (fun n k a hk => by
      have h1 := k_nle hk (C.b3)
      show bX2_leastFor_5 _ h 73 (Int32.ofNat i) a (Int32.ofNat k) = _
      simp only [bX2_leastFor_5, C.gamD, C.gamK, C.plan, C.c3, c_gain C hk hi, bd_some, bd2_some, if_neg h1, k_succ]) (99)
theorem m_hasLeast (M : MM o P c N h) (hW : WP P c) (h3 : 1 ≤ c 3) {i : Nat} (hi : i < c 2) : fX13_hasLeast h 77 (Int32.ofNat i) = some (lfI P c N i, h) := by
  have e0 : fX13_hasLeast h 77 (Int32.ofNat i) = fX13_hasLeast_9 FU h 77 (Int32.ofNat i) (gn P c N 0 i) (Int32.ofNat 1) := by
    simp only [fX13_hasLeast, M.k13, show (0 : Int32) = Int32.ofNat 0 from rfl, m_hasBy M hW (show 0 < c 3 by omega) hi, bd_some, bd2_some]; rfl
  have e1 : lfI P c N i = lp (fun s a => mMin a (gn P c N s i)) (c 3 - 1) 1 (gn P c N 0 i) := by
    unfold lfI
    obtain ⟨m, hm⟩ : ∃ m, c 3 = m + 1 := ⟨c 3 - 1, by omega⟩
    rw [hm]
    show lp (fun s a => mMin a (gn P c N s i)) m 1 (mMin 99 (gn P c N 0 i)) = _
    rw [mMin_top (gn_le hW hi 0)]; rfl
  rw [e0, e1]
  exact lpF1 (F := fun n k a => fX13_hasLeast_9 n h 77 (Int32.ofNat i) a (Int32.ofNat k)) (fin := fun a => some (a, h)) (st := fun s a => mMin a (gn P c N s i)) (b := c 3) M.b3 h3
    (fun n a => by
      show bX13_hasLeast_9 _ h 77 _ a (Int32.ofNat (c 3)) = _
      simp only [bX13_hasLeast_9, M.off, M.c3, bd_some, if_pos (k_rfl _)])
    (fun n k a hk => by
      have h1 := k_nle hk M.b3
      show bX13_hasLeast_9 _ h 77 _ a (Int32.ofNat k) = _
      simp only [bX13_hasLeast_9, M.off, M.k13, M.c3, m_hasBy M hW hk hi, mMin_le, bd_some, bd2_some, if_neg h1, k_succ]
      by_cases q : a ≤ gn P c N k i
      · simp only [if_pos q]
      · simp only [if_neg q]) (gn P c N 0 i)
def lmI (P : PT) (c : CT) (N : Nat → Int32) : Int32 := lp (fun s a => mMin a (mb P c N s)) (c 3) 0 99
def mlI (P : PT) (c : CT) (N : Nat → Int32) : Int32 := lp (fun i a => mMax a (lfI P c N i)) (c 2) 0 0
def pk (P : PT) (c : CT) (N : Nat → Int32) : Nat := lp (fun s f => if mb P c N f ≤ mb P c N s then f else s) (c 3 - 1) 1 0
theorem c_leastOfMost (C : CD p P c N h) : fX2_leastOfMost h 73 = some (lmI P c N, h) :=
  lp0 (F := fun n k a => fX2_leastOfMost_5 n h 73 a (Int32.ofNat k)) (fin := fun a => some (a, h)) (st := fun s a => mMin a (mb P c N s)) (b := c 3) (C.b3)
    (fun n a => by
      show bX2_leastOfMost_5 _ h 73 a (Int32.ofNat (c 3)) = _
      simp only [bX2_leastOfMost_5, C.gamD, C.plan, C.c3, bd_some, bd2_some, if_pos (k_rfl _)])
    (fun n k a hk => by
      have h1 := k_nle hk (C.b3)
      show bX2_leastOfMost_5 _ h 73 a (Int32.ofNat k) = _
      simp only [bX2_leastOfMost_5, C.gamD, C.gamK, C.plan, C.c3, c_mostBy C hk, bd_some, bd2_some, if_neg h1, k_succ]) (99)
theorem c_mostOfLeast (C : CD p P c N h) : fX2_mostOfLeast h 73 = some (mlI P c N, h) :=
  lp0 (F := fun n k a => fX2_mostOfLeast_4 n h 73 a (Int32.ofNat k)) (fin := fun a => some (a, h)) (st := fun i a => mMax a (lfI P c N i)) (b := c 2) (C.b2)
    (fun n a => by
      show bX2_mostOfLeast_4 _ h 73 a (Int32.ofNat (c 2)) = _
      simp only [bX2_mostOfLeast_4, C.gamD, C.plan, C.c2, bd_some, bd2_some, if_pos (k_rfl _)])
    (fun n k a hk => by
      have h1 := k_nle hk (C.b2)
      show bX2_mostOfLeast_4 _ h 73 a (Int32.ofNat k) = _
      simp only [bX2_mostOfLeast_4, C.gamD, C.gamK, C.plan, C.c2, c_leastFor C hk, bd_some, bd2_some, if_neg h1, k_succ]) (0)
theorem m_applicantsL (M : MM o P c N h) (hW : WP P c) (h3 : 1 ≤ c 3) (hg : ∀ v, fX13_good1 h 77 v = some (v, hf)) : fX13_applicants_24 FU h 77 (0) (Int32.ofNat 0) = some ((lp (fun i a => mMax a (lfI P c N i)) (c 2) 0 (0)), hf) :=
  lp0 (F := fun n k a => fX13_applicants_24 n h 77 a (Int32.ofNat k)) (fin := fun a => some (a, hf)) (st := fun i a => mMax a (lfI P c N i)) (b := c 2) (M.b2)
    (fun n a => by
      show bX13_applicants_24 _ h 77 a (Int32.ofNat (c 2)) = _
      simp only [bX13_applicants_24, M.off, M.c2, M.k13, hg, bd_some, bd2_some, if_pos (k_rfl _)])
    (fun n k a hk => by
      have h1 := k_nle hk (M.b2)
      show bX13_applicants_24 _ h 77 a (Int32.ofNat k) = _
      simp only [bX13_applicants_24, M.off, M.k13, M.c2, m_hasLeast M hW h3 hk, mMax_le, bd_some, bd2_some, if_neg h1, k_succ]
      by_cases q : lfI P c N k ≤ a
      · simp only [if_pos q]
      · simp only [if_neg q]) (0)
theorem m_pick (M : MM o P c N h) (hW : WP P c) (h3 : 1 ≤ c 3) : fX13_pick h 77 = some (Int32.ofNat (pk P c N), h) ∧ pk P c N < c 3 := by
  obtain ⟨n, hn⟩ := FU_at (c 3 - 1) (by have := M.b3; omega)
  show fX13_pick_4 FU h 77 (Int32.ofNat 0) (Int32.ofNat 1) = _ ∧ _
  rw [hn]
  exact lp_run (F := fun n k f => fX13_pick_4 n h 77 (Int32.ofNat f) (Int32.ofNat k)) (fin := fun f => some (Int32.ofNat f, h)) (st := fun s f => if mb P c N f ≤ mb P c N s then f else s) (b := c 3) (I := fun _ f => f < c 3)
    (fun n f _ => by
      show bX13_pick_4 _ h 77 _ (Int32.ofNat (c 3)) = _
      simp only [bX13_pick_4, M.off, M.c3, bd_some, if_pos (k_rfl _)])
    (fun n k f hk hf => by
      have h1 := k_nle hk M.b3
      refine ⟨?_, by split <;> assumption⟩
      show bX13_pick_4 _ h 77 _ (Int32.ofNat k) = _
      simp only [bX13_pick_4, M.off, M.k13, M.c3, m_givesMost M hW hk, m_givesMost M hW hf, bd_some, bd2_some, if_neg h1, k_succ]
      by_cases q : mb P c N f ≤ mb P c N k
      · simp only [if_pos q]
      · simp only [if_neg q]) (c 3 - 1) 1 n 0 (by omega) (by omega)
theorem pk_is (hW : WP P c) (h3 : 1 ≤ c 3) : mb P c N (pk P c N) = lmI P c N ∧ ∀ s, s < pk P c N → ¬ mb P c N s = lmI P c N := by
  have e1 : lmI P c N = lp (fun s a => mMin a (mb P c N s)) (c 3 - 1) 1 (mb P c N 0) := by
    unfold lmI
    obtain ⟨m, hm⟩ : ∃ m, c 3 = m + 1 := ⟨c 3 - 1, by omega⟩
    rw [hm]
    show lp (fun s a => mMin a (mb P c N s)) m 1 (mMin 99 (mb P c N 0)) = _
    rw [mMin_top (mb_le hW 0)]; rfl
  have h := lp_rel (s1 := fun s a => mMin a (mb P c N s)) (s2 := fun s f => if mb P c N f ≤ mb P c N s then f else s) (I := fun k a f => f < k ∧ a = mb P c N f ∧ ∀ s, s < k → (mb P c N f).toInt ≤ (mb P c N s).toInt ∧ (s < f → (mb P c N f).toInt < (mb P c N s).toInt)) (b := c 3)
    (fun k a f hk hI => by
      obtain ⟨i1, rfl, i3⟩ := hI
      rw [mMin_le]
      by_cases q : mb P c N f ≤ mb P c N k
      · simp only [if_pos q]
        rw [Int32.le_iff_toInt_le] at q
        refine ⟨by omega, trivial, fun s hs => ?_⟩
        rcases Nat.lt_or_ge s k with w | w
        · exact i3 s w
        · have : s = k := by omega
          subst this
          exact ⟨q, fun z => by omega⟩
      · simp only [if_neg q]
        rw [Int32.le_iff_toInt_le] at q
        refine ⟨by omega, trivial, fun s hs => ?_⟩
        rcases Nat.lt_or_ge s k with w | w
        · have := (i3 s w).1
          exact ⟨by omega, fun _ => by omega⟩
        · have : s = k := by omega
          subst this
          exact ⟨by omega, fun z => by omega⟩) (c 3 - 1) 1 (mb P c N 0) 0 (by omega) ⟨by omega, rfl, fun s hs => by
            have : s = 0 := by omega
            subst this
            exact ⟨by omega, fun z => by omega⟩⟩
  rw [← e1] at h
  obtain ⟨i1, i2, i3⟩ := h
  refine ⟨i2.symm, fun s hs q => ?_⟩
  have e := (i3 s (by have : pk P c N < c 3 := i1; omega)).2 hs
  rw [q, i2] at e
  exact absurd e (Int.lt_irrefl _)
theorem lx_first {b : Nat → Bool} {j : Nat} : ∀ m k, k ≤ j → j < k + m → (∀ s, s < j → b s = false) → b j = true → lx (fun s (_ : Unit) => if b s = true then (.inl s : Nat ⊕ Unit) else .inr ()) m k () = .inl j
  | 0, k, h1, h2, _, _ => by omega
  | m + 1, k, h1, h2, h3, h4 => by
    unfold lx
    rcases Nat.lt_or_ge k j with q | q
    · rw [h3 k q]
      exact lx_first m (k + 1) q (by omega) h3 h4
    · have : k = j := by omega
      subst this
      rw [h4]; rfl
theorem c_clerk (C : CD p P c N h) (hW : WP P c) (h3 : 1 ≤ c 3) (hpk : pk P c N < c 3) : fX2_stampOfClerk h 73 = some (Int32.ofNat (pk P c N), h) := by
  have e0 : fX2_stampOfClerk h 73 = fX2_stampOfClerk_7 FU h 73 (lmI P c N) (Int32.ofNat 0) := by
    simp only [fX2_stampOfClerk, C.gamK, c_leastOfMost C, bd_some, bd2_some]; rfl
  obtain ⟨p1, p2⟩ := pk_is (P := P) (N := N) hW h3
  have e := lx0 (F := fun n s (_ : Unit) => fX2_stampOfClerk_7 n h 73 (lmI P c N) (Int32.ofNat s)) (fin := fun q => match q with | .inl k => some (Int32.ofNat k, h) | .inr _ => some (-1, h)) (st := fun s (_ : Unit) => if decide (mb P c N s = lmI P c N) = true then (.inl s : Nat ⊕ Unit) else .inr ()) (b := c 3) C.b3
    (fun n a => by
      show bX2_stampOfClerk_7 _ h 73 _ (Int32.ofNat (c 3)) = _
      simp only [bX2_stampOfClerk_7, C.gamD, C.plan, C.c3, bd_some, if_pos (k_rfl _)])
    (fun n s a hs => by
      have h1 := k_nle hs C.b3
      show bX2_stampOfClerk_7 _ h 73 _ (Int32.ofNat s) = _
      simp only [bX2_stampOfClerk_7, C.gamD, C.gamK, C.plan, C.c3, c_mostBy C hs, bd_some, bd2_some, if_neg h1, k_succ, decide_eq_true_eq]
      by_cases q : mb P c N s = lmI P c N
      · simp only [if_pos q]
      · simp only [if_neg q]) ()
  rw [lx_first (j := pk P c N) (b := fun s => decide (mb P c N s = lmI P c N)) (c 3) 0 (Nat.zero_le _) (by omega) (fun s hs => by simp [p2 s hs]) (by simp [p1])] at e
  rw [e0]
  exact e
def bEv (P : PT) (c : CT) (N : Nat → Int32) (s i : Nat) : Bool := decide (gn P c N s i = mb P c N s) && decide (gn P c N s i = lfI P c N i)
def stE (P : PT) (c : CT) (N : Nat → Int32) (s : Nat) (a : Int32) : Int32 := lp (stC (bEv P c N s)) (c 2) 0 a
theorem c_evenV (C : CD p P c N h) {s : Nat} (hs : s < c 3) (a : Int32) (k4 : MH → Nat → Int32 → Int32 → Option (Int32 × MH)) : fX2_evenPairs_20 k4 FU h 73 a (Int32.ofNat s) (Int32.ofNat 0) = k4 h 73 (stE P c N s a) (Int32.ofNat (s + 1)) :=
  lp0 (F := fun n k a => fX2_evenPairs_20 k4 n h 73 a (Int32.ofNat s) (Int32.ofNat k)) (fin := fun a => k4 h 73 a (Int32.ofNat (s + 1))) (st := stC (bEv P c N s)) (b := c 2) C.b2
    (fun n a => by
      show bX2_evenPairs_20 k4 _ h 73 a _ (Int32.ofNat (c 2)) = _
      simp only [bX2_evenPairs_20, C.gamD, C.plan, C.c2, bd_some, if_pos (k_rfl _), k_succ])
    (fun n k a hk => by
      have h1 := k_nle hk C.b2
      show bX2_evenPairs_20 k4 _ h 73 a _ (Int32.ofNat k) = _
      simp only [bX2_evenPairs_20, C.gamD, C.gamK, C.plan, C.c2, c_gain C hs hk, c_mostBy C hs, c_leastFor C hk, bd_some, bd2_some, if_neg h1, k_succ, stC, bEv, Bool.and_eq_true, decide_eq_true_eq]
      by_cases q1 : gn P c N s k = mb P c N s
      · by_cases q2 : gn P c N s k = lfI P c N k
        · rw [if_pos q1, if_pos q2, if_pos ⟨q1, q2⟩]
        · rw [if_pos q1, if_neg q2, if_neg (fun w => q2 w.2)]
      · rw [if_neg q1, if_neg (fun w => q1 w.1)]) a
theorem m_evenV (M : MM o P c N h) (hW : WP P c) {s : Nat} (hs : s < c 3) (a : Int32) (k4 : MH → Nat → Int32 → Int32 → Option (Int32 × MH)) : fX13_even_38 k4 FU h 77 a (Int32.ofNat s) (Int32.ofNat 0) = k4 h 77 (stE P c N s a) (Int32.ofNat (s + 1)) :=
  lp0 (F := fun n k a => fX13_even_38 k4 n h 77 a (Int32.ofNat s) (Int32.ofNat k)) (fin := fun a => k4 h 77 a (Int32.ofNat (s + 1))) (st := stC (bEv P c N s)) (b := c 2) M.b2
    (fun n a => by
      show bX13_even_38 k4 _ h 77 a _ (Int32.ofNat (c 2)) = _
      simp only [bX13_even_38, M.off, M.c2, bd_some, if_pos (k_rfl _), k_succ])
    (fun n k a hk => by
      have h1 := k_nle hk M.b2
      show bX13_even_38 k4 _ h 77 a _ (Int32.ofNat k) = _
      simp only [bX13_even_38, M.off, M.k13, M.c2, m_hasBy M hW hs hk, m_givesMost M hW hs, m_hasLeast M hW (show 1 ≤ c 3 by omega) hk, bd_some, bd2_some, if_neg h1, k_succ, stC, bEv, Int32.add_zero, Bool.and_eq_true, decide_eq_true_eq]
      by_cases q2 : gn P c N s k = lfI P c N k
      · by_cases q1 : gn P c N s k = mb P c N s
        · rw [if_pos q2, if_pos q1, if_pos ⟨q1, q2⟩]
        · rw [if_pos q2, if_neg q1, if_neg (fun w => q1 w.1)]
      · rw [if_neg q2, if_neg (fun w => q2 w.2)]) a
theorem c_even (C : CD p P c N h) : fX2_evenPairs h 73 = some ((lp (stE P c N) (c 3) 0 (0)), h) :=
  lp0 (F := fun n k a => fX2_evenPairs_4 n h 73 a (Int32.ofNat k)) (fin := fun a => some (a, h)) (st := stE P c N) (b := c 3) (C.b3)
    (fun n a => by
      show bX2_evenPairs_4 _ h 73 a (Int32.ofNat (c 3)) = _
      simp only [bX2_evenPairs_4, C.gamD, C.plan, C.c3, bd_some, bd2_some, if_pos (k_rfl _)])
    (fun n k a hk => by
      have h1 := k_nle hk (C.b3)
      show bX2_evenPairs_4 _ h 73 a (Int32.ofNat k) = _
      simp only [bX2_evenPairs_4, C.gamD, C.plan, C.c3, bd_some, bd2_some, if_neg h1, k_succ]
      exact c_evenV C hk a _) (0)
theorem m_evenL (M : MM o P c N h) (hW : WP P c) (hg : ∀ v, fX13_good1 h 77 v = some (v, hf)) : fX13_even_24 FU h 77 (0) (Int32.ofNat 0) = some ((lp (stE P c N) (c 3) 0 (0)), hf) :=
  lp0 (F := fun n k a => fX13_even_24 n h 77 a (Int32.ofNat k)) (fin := fun a => some (a, hf)) (st := stE P c N) (b := c 3) (M.b3)
    (fun n a => by
      show bX13_even_24 _ h 77 a (Int32.ofNat (c 3)) = _
      simp only [bX13_even_24, M.off, M.c3, M.k13, hg, bd_some, bd2_some, if_pos (k_rfl _)])
    (fun n k a hk => by
      have h1 := k_nle hk (M.b3)
      show bX13_even_24 _ h 77 a (Int32.ofNat k) = _
      simp only [bX13_even_24, M.off, M.c3, bd_some, bd2_some, if_neg h1, k_succ]
      exact m_evenV M hW hk a _) (0)
end BEN
