/-! ===== laws of one rule: what they say, which fit, how many ===== -/
section LAW
variable {p o : Nat} {P : PT} {c : CT} {N : Nat → Int32} {h hf : MH}
def bt (x : Int32) (k : Nat) : Bool := decide ((x >>> (Int32.ofNat k &&& 31)) &&& 1 = 1)
theorem c_hasBit (x : Int32) (k : Nat) : fX11_hasBit h x (Int32.ofNat k) = some (if bt x k = true then 1 else 0, h) := by
  unfold fX11_hasBit bt
  by_cases q : (x >>> (Int32.ofNat k &&& 31)) &&& 1 = 1 <;> simp [q]
theorem m_bit (x : Int32) (k : Nat) : fX13_bit h x (Int32.ofNat k) = some (if bt x k = true then 1 else 0, h) := by
  unfold fX13_bit bt
  by_cases q : (x >>> (Int32.ofNat k &&& 31)) &&& 1 = 1 <;> simp [q]
def lw (law : Nat) (marks : Int32) : Int32 := if law < 3 then Int32.ofNat law else if bt marks ((law - 3) / 6) = true then Int32.ofNat ((law - 3) % 6 / 2) else Int32.ofNat (((law - 3) % 6 / 2 + 1 + (law - 3) % 6 % 2) % 3)
theorem VD_of {n : Nat} (h : n < 3) : VD (Int32.ofNat n) := by
  rcases (show n = 0 ∨ n = 1 ∨ n = 2 by omega) with rfl | rfl | rfl
  · exact Or.inl rfl
  · exact Or.inr (Or.inl rfl)
  · exact Or.inr (Or.inr rfl)
theorem lw_VD (law : Nat) (marks : Int32) : VD (lw law marks) := by
  unfold lw
  split
  · exact VD_of (by omega)
  · split
    · exact VD_of (by omega)
    · exact VD_of (by omega)
theorem nz6 : nz 6 = some () := by decide
theorem nz2 : nz 2 = some () := by decide
theorem nz3 : nz 3 = some () := by decide
theorem c_sayOfLaw {law : Nat} (hl : law < 33) (a0 : Nat) (marks : Int32) : fX9_sayOfLaw h a0 (Int32.ofNat law) marks = some (lw law marks, h) := by
  unfold fX9_sayOfLaw lw
  by_cases q : law < 3
  · have q1 : ¬ (3 : Int32) ≤ Int32.ofNat law := k_nle (b := 3) q (by decide)
    rw [if_neg q1, if_pos q]
  · have q1 : (3 : Int32) ≤ Int32.ofNat law := (k_le (i := 3) (by decide) (by omega)).mpr (by omega)
    rw [if_pos q1, if_neg q]
    have e1 : Int32.ofNat law - 3 = Int32.ofNat (law - 3) := k_sub (b := 3) (by omega)
    have e2 : Int32.ofNat (law - 3) / 6 = Int32.ofNat ((law - 3) / 6) := k_div (b := 6) (by omega) (by decide)
    have e3 : Int32.ofNat (law - 3) - Int32.ofNat ((law - 3) / 6) * 6 = Int32.ofNat ((law - 3) % 6) := by
      rw [← e2]; exact k_mod (b := 6) (by omega) (by decide)
    have e4 : Int32.ofNat ((law - 3) % 6) / 2 = Int32.ofNat ((law - 3) % 6 / 2) := k_div (b := 2) (by omega) (by decide)
    have e5 : Int32.ofNat ((law - 3) % 6) - Int32.ofNat ((law - 3) % 6 / 2) * 2 = Int32.ofNat ((law - 3) % 6 % 2) := by
      rw [← e4]; exact k_mod (b := 2) (by omega) (by decide)
    have e6 : Int32.ofNat ((law - 3) % 6 / 2) + 1 + Int32.ofNat ((law - 3) % 6 % 2) = Int32.ofNat ((law - 3) % 6 / 2 + 1 + (law - 3) % 6 % 2) := by rw [k_succ, k_add]
    have e7 := k_mod (a := (law - 3) % 6 / 2 + 1 + (law - 3) % 6 % 2) (b := 3) (by omega) (by decide)
    simp only [nz6, nz2, nz3, bd_some, e1, e2, e3, e4, e5, e6, c_hasBit, bd2_some]
    by_cases q2 : bt marks ((law - 3) / 6) = true
    · simp [q2]
    · simp only [if_neg q2, if_true]
      exact congrArg (fun z => some (z, h)) e7
theorem m_lawOf {law : Nat} (hl : law < 33) (a0 : Nat) (marks : Int32) : fX13_lawOf h a0 (Int32.ofNat law) marks = some (lw law marks, h) := by
  unfold fX13_lawOf lw
  by_cases q : law < 3
  · have q1 : ¬ (3 : Int32) ≤ Int32.ofNat law := k_nle (b := 3) q (by decide)
    rw [if_neg q1, if_pos q]
  · have q1 : (3 : Int32) ≤ Int32.ofNat law := (k_le (i := 3) (by decide) (by omega)).mpr (by omega)
    rw [if_pos q1, if_neg q]
    have e1 : Int32.ofNat law - 3 = Int32.ofNat (law - 3) := k_sub (b := 3) (by omega)
    have e2 : Int32.ofNat (law - 3) / 6 = Int32.ofNat ((law - 3) / 6) := k_div (b := 6) (by omega) (by decide)
    have e3 : Int32.ofNat (law - 3) - Int32.ofNat ((law - 3) / 6) * 6 = Int32.ofNat ((law - 3) % 6) := by
      rw [← e2]; exact k_mod (b := 6) (by omega) (by decide)
    have e4 : Int32.ofNat ((law - 3) % 6) / 2 = Int32.ofNat ((law - 3) % 6 / 2) := k_div (b := 2) (by omega) (by decide)
    have e8 : Int32.ofNat (law - 3) / 2 = Int32.ofNat ((law - 3) / 2) := k_div (b := 2) (by omega) (by decide)
    have e5 : Int32.ofNat (law - 3) - Int32.ofNat ((law - 3) / 2) * 2 = Int32.ofNat ((law - 3) % 6 % 2) := by
      rw [← e8, show (law - 3) % 6 % 2 = (law - 3) % 2 by omega]; exact k_mod (b := 2) (by omega) (by decide)
    have e6 : Int32.ofNat ((law - 3) % 6 / 2) + 1 + Int32.ofNat ((law - 3) % 6 % 2) = Int32.ofNat ((law - 3) % 6 / 2 + 1 + (law - 3) % 6 % 2) := by rw [k_succ, k_add]
    have e7 := k_mod (a := (law - 3) % 6 / 2 + 1 + (law - 3) % 6 % 2) (b := 3) (by omega) (by decide)
    simp only [nz6, nz2, nz3, bd_some, e1, e2, e3, e4, e8, e5, e6, m_bit, bd2_some]
    by_cases q2 : bt marks ((law - 3) / 6) = true
    · simp [q2]
    · simp only [if_neg q2, if_true]
      exact congrArg (fun z => some (z, h)) e7
/-- how many laws there are -/
def nl (c : CT) : Nat := 3 + 6 * c 1
theorem nl_33 (hc : c 1 ≤ 5) : nl c ≤ 33 := by unfold nl; omega
theorem CD.nl33 (C : CD p P c N h) : nl c ≤ 33 := nl_33 C.m5
theorem MM.nl33 (C : MM o P c N h) : nl c ≤ 33 := nl_33 C.m5
theorem CD.nlb (C : CD p P c N h) : nl c ≤ 100000 := Nat.le_trans C.nl33 (by decide)
theorem MM.nlb (C : MM o P c N h) : nl c ≤ 100000 := Nat.le_trans C.nl33 (by decide)
theorem k_nl : (3 : Int32) + 6 * Int32.ofNat (c 1) = Int32.ofNat (nl c) := by
  rw [show (3 : Int32) = Int32.ofNat 3 from rfl, show (6 : Int32) = Int32.ofNat 6 from rfl, k_mul, k_add]; rfl
theorem c_lawCount (C : CD p P c N h) : fX9_lawCount h 71 = some (Int32.ofNat (nl c), h) := by
  simp only [fX9_lawCount, C.strD, C.plan, C.c1, bd_some, k_nl]
theorem m_lawsAll (M : MM o P c N h) : fX13_lawsAll h 77 = some (Int32.ofNat (nl c), h) := by
  simp only [fX13_lawsAll, M.off, M.c1, bd_some, k_nl]
def bFit (P : PT) (N : Nat → Int32) (law k : Nat) : Bool := decide (prK (P 7 (hj P k)) (lw law (N (pj P k))) = P 11 k)
def fit (P : PT) (c : CT) (N : Nat → Int32) (law : Nat) : Bool := alB (bFit P N law) (c 7) 0
theorem c_isFitting (C : CD p P c N h) (hW : WP P c) {law : Nat} (hl : law < 33) : fX9_isFitting h 71 (Int32.ofNat law) = some (if fit P c N law = true then 1 else 0, h) := by
  have h5 := C.p5
  have e := lx0 (F := fun n k (_ : Unit) => fX9_isFitting_2 n h 71 (Int32.ofNat law) (Int32.ofNat k)) (fin := fun q => match q with | .inl _ => some ((0 : Int32), h) | .inr _ => some (1, h)) (st := fun k (_ : Unit) => if bFit P N law k = true then (.inr () : Unit ⊕ Unit) else .inl ()) (b := c 7) C.b7
    (fun n a => by
      show bX9_isFitting_2 _ h 71 _ (Int32.ofNat (c 7)) = _
      simp only [bX9_isFitting_2, C.strD, C.plan, C.c7, bd_some, if_pos (k_rfl _)])
    (fun n k a hk => by
      have h1 := k_nle hk C.b7
      obtain ⟨e9, l9⟩ := hW.pp C.2.1 hk
      obtain ⟨e10, l10⟩ := hW.ph C.2.1 hk
      show bX9_isFitting_2 _ h 71 _ (Int32.ofNat k) = _
      simp only [bX9_isFitting_2, C.strD, C.strK, C.plan, C.now, C.k4, C.k5, C.c7, C.t9, C.a9 hk, e9, c_marksOf C (show pj P k < 5 by omega), c_sayOfLaw hl, C.t10, C.a10 hk, e10, c_printBy C l10, C.t11, C.a11 hk, bd_some, bd2_some, if_neg h1, k_succ, bFit, decide_eq_true_eq]
      by_cases q : prK (P 7 (hj P k)) (lw law (N (pj P k))) = P 11 k
      · simp only [if_pos q]
      · simp only [if_neg q]) ()
  rw [lx_al] at e
  refine Eq.trans e ?_
  unfold fit
  cases alB (bFit P N law) (c 7) 0 <;> rfl
theorem m_lawFits (M : MM o P c N h) (hW : WP P c) {law : Nat} (hl : law < 33) : fX13_lawFits h 77 (Int32.ofNat law) = some (if fit P c N law = true then 1 else 0, h) := by
  have h5 := M.p5
  have e := lx0 (F := fun n k (_ : Unit) => fX13_lawFits_2 n h 77 (Int32.ofNat law) (Int32.ofNat k)) (fin := fun q => match q with | .inl _ => some ((0 : Int32), h) | .inr _ => some (1, h)) (st := fun k (_ : Unit) => if bFit P N law k = true then (.inr () : Unit ⊕ Unit) else .inl ()) (b := c 7) M.b7
    (fun n a => by
      show bX13_lawFits_2 _ h 77 _ (Int32.ofNat (c 7)) = _
      simp only [bX13_lawFits_2, M.off, M.c7, bd_some, if_pos (k_rfl _)])
    (fun n k a hk => by
      have h1 := k_nle hk M.b7
      obtain ⟨e9, l9⟩ := hW.pp M.2.2.2.1 hk
      obtain ⟨e10, l10⟩ := hW.ph M.2.2.2.1 hk
      show bX13_lawFits_2 _ h 77 _ (Int32.ofNat k) = _
      simp only [bX13_lawFits_2, M.off, M.c7, M.k13, M.v, M.t9, M.a9 hk, e9, M.marks (show pj P k < 5 by omega), m_lawOf hl, M.t10, M.a10 hk, e10, m_printsBy M l10 (lw_VD _ _), M.t11, M.a11 hk, bd_some, bd2_some, if_neg h1, k_succ, bFit, decide_eq_true_eq]
      by_cases q : prK (P 7 (hj P k)) (lw law (N (pj P k))) = P 11 k
      · simp only [if_pos q]
      · simp only [if_neg q]) ()
  rw [lx_al] at e
  refine Eq.trans e ?_
  unfold fit
  cases alB (bFit P N law) (c 7) 0 <;> rfl
/-- fitting laws, as bits -/
abbrev lL (P : PT) (c : CT) (N : Nat → Int32) : Int64 := Int64.ofNat (LN (fit P c N) (nl c))
theorem c_fitting (C : CD p P c N h) (hW : WP P c) : fX9_fittingLaws h 71 = some (lL P c N, h) := by
  have h33 := C.nl33
  have e := lp0 (F := fun n k a => fX9_fittingLaws_4 n h 71 a (Int32.ofNat k)) (fin := fun a => some (a, h)) (st := stL (fit P c N)) (b := nl c) C.nlb
    (fun n a => by
      show bX9_fittingLaws_4 _ h 71 a (Int32.ofNat (nl c)) = _
      simp only [bX9_fittingLaws_4, C.strK, c_lawCount C, bd_some, bd2_some, if_pos (k_rfl _)])
    (fun n k a hk => by
      have h1 := k_nle hk C.nlb
      show bX9_fittingLaws_4 _ h 71 a (Int32.ofNat k) = _
      simp only [bX9_fittingLaws_4, C.strK, c_lawCount C, c_isFitting C hW (show k < 33 by omega), bd_some, bd2_some, if_neg h1, k_succ, stL]
      by_cases q : fit P c N k = true
      · simp [q]
      · simp [q]) 0
  exact e.trans (by rw [stL_N _ h33])
def bLaw (P : PT) (c : CT) (N : Nat → Int32) (i : Nat) (v : Int32) (law : Nat) : Bool := fit P c N law && decide (lw law (N i) = v)
/-- how many fitting laws say v of paper i -/
def nLw (P : PT) (c : CT) (N : Nat → Int32) (i : Nat) (v : Int32) : Nat := cN (bLaw P c N i v) (nl c)
theorem c_lawsThat (C : CD p P c N h) (hW : WP P c) {i : Nat} (hi : i < c 2) (v : Int32) : fX9_lawsThatSay h 71 (lL P c N) (Int32.ofNat i) v = some (Int32.ofNat (nLw P c N i v), h) := by
  have h33 := C.nl33
  have h5 := C.p5
  have e := lp0 (F := fun n k a => fX9_lawsThatSay_6 n h 71 (lL P c N) (Int32.ofNat i) v a (Int32.ofNat k)) (fin := fun a => some (a, h)) (st := stC (bLaw P c N i v)) (b := nl c) C.nlb
    (fun n a => by
      show bX9_lawsThatSay_6 _ h 71 _ _ v a (Int32.ofNat (nl c)) = _
      simp only [bX9_lawsThatSay_6, C.strK, c_lawCount C, bd_some, bd2_some, if_pos (k_rfl _)])
    (fun n k a hk => by
      have h1 := k_nle hk C.nlb
      have ht := j_tst (fit P c N) h33 hk
      show bX9_lawsThatSay_6 _ h 71 _ _ v a (Int32.ofNat k) = _
      simp only [bX9_lawsThatSay_6, C.strK, C.strD, C.now, C.k4, c_marksOf C (show i < 5 by omega), c_lawCount C, c_sayOfLaw (show k < 33 by omega), ht, bd_some, bd2_some, if_neg h1, k_succ, stC, bLaw]
      by_cases q : fit P c N k = true
      · by_cases q2 : lw k (N i) = v
        · simp [q, q2]
        · simp [q, q2]
      · simp [q]) 0
  exact e.trans (by rw [stC_N]; rfl)
theorem m_lawsFor (M : MM o P c N h) (hW : WP P c) {i : Nat} (hi : i < c 2) {v : Int32} (hv : VD v) : fX13_lawsFor h 77 (Int32.ofNat i) v = some (Int32.ofNat (nLw P c N i v), h) := by
  have h33 := M.nl33
  have h5 := M.p5
  have hv1 : ¬ v = -1 := by rcases hv with rfl | rfl | rfl <;> decide
  have e := lp0 (F := fun n k a => fX13_lawsFor_5 n h 77 (Int32.ofNat i) v a (Int32.ofNat k)) (fin := fun a => some (a, h)) (st := stC (bLaw P c N i v)) (b := nl c) M.nlb
    (fun n a => by
      show bX13_lawsFor_5 _ h 77 _ v a (Int32.ofNat (nl c)) = _
      simp only [bX13_lawsFor_5, M.k13, m_lawsAll M, bd_some, bd2_some, if_pos (k_rfl _)])
    (fun n k a hk => by
      have h1 := k_nle hk M.nlb
      show bX13_lawsFor_5 _ h 77 _ v a (Int32.ofNat k) = _
      simp only [bX13_lawsFor_5, M.k13, M.v, M.marks (show i < 5 by omega), m_lawsAll M, m_lawFits M hW (show k < 33 by omega), m_lawOf (show k < 33 by omega), if_neg hv1, bd_some, bd2_some, if_neg h1, k_succ, stC, bLaw, Int32.add_zero]
      by_cases q : fit P c N k = true
      · by_cases q2 : lw k (N i) = v
        · simp [q, q2]
        · simp [q, q2]
      · simp [q]) 0
  exact e.trans (by rw [stC_N]; rfl)
theorem m_lawsAny (M : MM o P c N h) (hW : WP P c) (x : Int32) : fX13_lawsFor h 77 x (-1) = some (Int32.ofNat (cN (fit P c N) (nl c)), h) := by
  have h33 := M.nl33
  have e := lp0 (F := fun n k a => fX13_lawsFor_5 n h 77 x (-1) a (Int32.ofNat k)) (fin := fun a => some (a, h)) (st := stC (fit P c N)) (b := nl c) M.nlb
    (fun n a => by
      show bX13_lawsFor_5 _ h 77 _ _ a (Int32.ofNat (nl c)) = _
      simp only [bX13_lawsFor_5, M.k13, m_lawsAll M, bd_some, bd2_some, if_pos (k_rfl _)])
    (fun n k a hk => by
      have h1 := k_nle hk M.nlb
      show bX13_lawsFor_5 _ h 77 _ _ a (Int32.ofNat k) = _
      simp only [bX13_lawsFor_5, M.k13, m_lawsAll M, m_lawFits M hW (show k < 33 by omega), if_true, bd_some, bd2_some, if_neg h1, k_succ, stC, Int32.add_zero]
      by_cases q : fit P c N k = true
      · simp [q]
      · simp [q]) 0
  exact e.trans (by rw [stC_N])
theorem c_lawsN (C : CD p P c N h) : fJ13_bitCount_95d88 h (lL P c N) = some (Int32.ofNat (cN (fit P c N) (nl c)), h) := by
  have h33 := C.nl33
  have hl := LN_lt (fit P c N) (nl c)
  have h1 : 2 ^ nl c ≤ 2 ^ 33 := Nat.pow_le_pow_right (by decide) h33
  rw [j_bits64 (by omega), pcW_LN _ h33]
theorem k_le0 {n : Nat} (hn : n < 2147483648) : (Int32.ofNat n ≤ 0) ↔ n = 0 := by
  rw [show (0 : Int32) = Int32.ofNat 0 from rfl, k_le hn (by decide)]; omega
/-- verdicts said of a paper -/
def bVs (P : PT) (c : CT) (N : Nat → Int32) (i v : Nat) : Bool := decide (nLw P c N i (Int32.ofNat v) ≠ 0)
theorem nLw_lt (hc : c 1 ≤ 5) (i : Nat) (v : Int32) : nLw P c N i v ≤ 33 := Nat.le_trans (cN_le _ _) (nl_33 hc)
theorem c_lawSays (C : CD p P c N h) (hW : WP P c) {i : Nat} (hi : i < c 2) : fX9_verdictsByLaws h 71 (Int32.ofNat i) = some (lp (stB (bVs P c N i)) 3 0 0, h) := by
  have e0 : fX9_verdictsByLaws h 71 (Int32.ofNat i) = fX9_verdictsByLaws_11 FU h 71 (Int32.ofNat i) (lL P c N) 0 (Int32.ofNat 0) := by
    simp only [fX9_verdictsByLaws, C.strK, c_fitting C hW, bd_some, bd2_some]; rfl
  rw [e0]
  exact lp0 (F := fun n k a => fX9_verdictsByLaws_11 n h 71 (Int32.ofNat i) (lL P c N) a (Int32.ofNat k)) (fin := fun a => some (a, h)) (st := stB (bVs P c N i)) (b := 3) (by decide)
    (fun n a => by
      show bX9_verdictsByLaws_11 _ h 71 _ _ a (Int32.ofNat 3) = _
      unfold bX9_verdictsByLaws_11
      rw [if_pos (show (3 : Int32) ≤ Int32.ofNat 3 from k_rfl 3)])
    (fun n k a hk => by
      have h1 : ¬ (3 : Int32) ≤ Int32.ofNat k := k_nle (b := 3) hk (by decide)
      have hl := nLw_lt (P := P) (N := N) C.m5 i (Int32.ofNat k)
      show bX9_verdictsByLaws_11 _ h 71 _ _ a (Int32.ofNat k) = _
      simp only [bX9_verdictsByLaws_11, C.strK, c_lawsThat C hW hi, k_le0 (show nLw P c N i (Int32.ofNat k) < 2147483648 by omega), bd_some, bd2_some, if_neg h1, k_succ, stB, bVs, decide_eq_true_eq]
      by_cases q : nLw P c N i (Int32.ofNat k) = 0
      · simp [q]
      · simp [q]) 0
theorem m_lawSaysL (M : MM o P c N h) (hW : WP P c) (hg : ∀ v, fX13_good1 h 77 v = some (v, hf)) {i : Nat} (hi : i < c 2) : fX13_lawSays_23 FU h 77 (Int32.ofNat i) 0 (Int32.ofNat 0) = some (lp (stB (bVs P c N i)) 3 0 0, hf) :=
  lp0 (F := fun n k a => fX13_lawSays_23 n h 77 (Int32.ofNat i) a (Int32.ofNat k)) (fin := fun a => some (a, hf)) (st := stB (bVs P c N i)) (b := 3) (by decide)
    (fun n a => by
      show bX13_lawSays_23 _ h 77 _ a (Int32.ofNat 3) = _
      unfold bX13_lawSays_23
      rw [if_pos (show (3 : Int32) ≤ Int32.ofNat 3 from k_rfl 3), M.k13, bd_some, hg, bd2_some])
    (fun n k a hk => by
      have h1 : ¬ (3 : Int32) ≤ Int32.ofNat k := k_nle (b := 3) hk (by decide)
      have hl := nLw_lt (P := P) (N := N) M.m5 i (Int32.ofNat k)
      show bX13_lawSays_23 _ h 77 _ a (Int32.ofNat k) = _
      simp only [bX13_lawSays_23, M.k13, m_lawsFor M hW hi (VD_of hk), k_le0 (show nLw P c N i (Int32.ofNat k) < 2147483648 by omega), bd_some, bd2_some, if_neg h1, k_succ, stB, bVs, decide_eq_true_eq, Int32.or_zero]
      by_cases q : nLw P c N i (Int32.ofNat k) = 0
      · simp [q]
      · simp [q]) 0
/-! which paper to try -/
def mxN (a b : Nat) : Nat := if a < b then b else a
def mLf (P : PT) (c : CT) (N : Nat → Int32) (i : Nat) : Nat := mxN (mxN (mxN 0 (nLw P c N i (Int32.ofNat 0))) (nLw P c N i (Int32.ofNat 1))) (nLw P c N i (Int32.ofNat 2))
theorem mLf_le (hc : c 1 ≤ 5) (i : Nat) : mLf P c N i ≤ 33 := by
  have h0 := nLw_lt (P := P) (N := N) hc i (Int32.ofNat 0)
  have h1 := nLw_lt (P := P) (N := N) hc i (Int32.ofNat 1)
  have h2 := nLw_lt (P := P) (N := N) hc i (Int32.ofNat 2)
  unfold mLf mxN
  split <;> split <;> split <;> omega
theorem mMax_N {a b : Nat} (ha : a < 2147483648) (hb : b < 2147483648) : mMax (Int32.ofNat a) (Int32.ofNat b) = Int32.ofNat (mxN a b) := by
  unfold mMax mxN
  by_cases q : a < b
  · rw [if_pos q, if_pos ((k_lt ha hb).mpr q)]
  · rw [if_neg q, if_neg (fun w => q ((k_lt ha hb).mp w))]
theorem c_mostLeft (C : CD p P c N h) (hW : WP P c) {i : Nat} (hi : i < c 2) : fX9_mostLeft h 71 (lL P c N) (Int32.ofNat i) = some (Int32.ofNat (mLf P c N i), h) := by
  have hb := fun v => nLw_lt (P := P) (N := N) C.m5 i v
  have hst : ∀ (n k a : Nat), k < 3 → a ≤ 33 → fX9_mostLeft_6 (n + 1) h 71 (lL P c N) (Int32.ofNat i) (Int32.ofNat a) (Int32.ofNat k) = fX9_mostLeft_6 n h 71 (lL P c N) (Int32.ofNat i) (Int32.ofNat (mxN a (nLw P c N i (Int32.ofNat k)))) (Int32.ofNat (k + 1)) := fun n k a hk ha => by
    have h1 : ¬ (3 : Int32) ≤ Int32.ofNat k := k_nle (b := 3) hk (by decide)
    have h2 := hb (Int32.ofNat k)
    show bX9_mostLeft_6 _ h 71 _ _ _ (Int32.ofNat k) = _
    simp only [bX9_mostLeft_6, C.strK, c_lawsThat C hW hi, mMax_N (show a < 2147483648 by omega) (show nLw P c N i (Int32.ofNat k) < 2147483648 by omega), bd_some, bd2_some, if_neg h1, k_succ]
  have hm : ∀ a v, a ≤ 33 → mxN a (nLw P c N i v) ≤ 33 := fun a v ha => by have := hb v; unfold mxN; split <;> omega
  show fX9_mostLeft_6 (999999996 + 1 + 1 + 1 + 1) h 71 (lL P c N) (Int32.ofNat i) (Int32.ofNat 0) (Int32.ofNat 0) = _
  rw [hst _ 0 0 (by decide) (by decide), hst _ 1 _ (by decide) (hm _ _ (by decide)), hst _ 2 _ (by decide) (hm _ _ (hm _ _ (by decide)))]
  show bX9_mostLeft_6 _ h 71 _ _ _ (Int32.ofNat 3) = _
  unfold bX9_mostLeft_6
  rw [if_pos (show (3 : Int32) ≤ Int32.ofNat 3 from k_rfl 3)]
  rfl
theorem cN_zero {b : Nat → Bool} : ∀ n, (∀ k, k < n → b k = false) → cN b n = 0
  | 0, _ => rfl
  | n + 1, hb => by unfold cN; rw [cN_zero n (fun k hk => hb k (by omega)), hb n (by omega)]; rfl
theorem cN_pos {b : Nat → Bool} {j : Nat} : ∀ n, j < n → b j = true → 0 < cN b n
  | 0, hj, _ => by omega
  | n + 1, hj, hb => by
    unfold cN
    rcases Nat.lt_or_ge j n with q | q
    · have := cN_pos n q hb; omega
    · have : j = n := by omega
      subst this
      rw [if_pos hb]; omega
theorem LN_zero {b : Nat → Bool} : ∀ n, (∀ k, k < n → b k = false) → LN b n = 0
  | 0, _ => rfl
  | n + 1, hb => by unfold LN; rw [LN_zero n (fun k hk => hb k (by omega)), hb n (by omega)]; rfl
/-- none fits, or one says something of each paper -/
theorem mLf_0 (hz : ∀ k, k < nl c → fit P c N k = false) (i : Nat) : mLf P c N i = 0 := by
  have e : ∀ v, nLw P c N i v = 0 := fun v => cN_zero _ (fun k hk => by unfold bLaw; rw [hz k hk]; rfl)
  unfold mLf
  rw [e, e, e]; rfl
theorem mLf_pos {k : Nat} (hk : k < nl c) (hz : fit P c N k = true) (i : Nat) : 0 < mLf P c N i := by
  have hp : ∀ v, lw k (N i) = v → 0 < nLw P c N i v := fun v hv => cN_pos _ hk (by unfold bLaw; rw [hz, hv]; simp)
  unfold mLf mxN
  rcases lw_VD k (N i) with q | q | q
  · have := hp (Int32.ofNat 0) q; (repeat' split) <;> omega
  · have := hp (Int32.ofNat 1) q; (repeat' split) <;> omega
  · have := hp (Int32.ofNat 2) q; (repeat' split) <;> omega
theorem fit_or (P : PT) (c : CT) (N : Nat → Int32) : (∀ k, k < nl c → fit P c N k = false) ∨ ∃ k, k < nl c ∧ fit P c N k = true := by
  by_cases q : ∃ k, k < nl c ∧ fit P c N k = true
  · exact Or.inr q
  · left
    intro k hk
    cases hf : fit P c N k with
    | false => rfl
    | true => exact absurd ⟨k, hk, hf⟩ q
/-- papers one behind the other, the one that leaves fewest -/
def stT (P : PT) (c : CT) (N : Nat → Int32) (k : Nat) (a : Option Nat) : Option Nat := match a with
  | none => if mLf P c N k = 0 then none else some k
  | some j => if mLf P c N k = 0 then a else if mLf P c N j ≤ mLf P c N k then a else some k
def tryO (P : PT) (c : CT) (N : Nat → Int32) : Option Nat := lp (stT P c N) (c 2) 0 none
def lefI (P : PT) (c : CT) (N : Nat → Int32) (a : Option Nat) (x : Int32) : Int32 := match a with
  | none => x
  | some j => Int32.ofNat (mLf P c N j)
theorem lp_id {α : Type} {s : Nat → α → α} {a : α} (hs : ∀ k, s k a = a) : ∀ m k, lp s m k a = a
  | 0, _ => rfl
  | m + 1, k => by unfold lp; rw [hs k]; exact lp_id hs m (k + 1)
theorem tryO_lt (a : Option Nat) : ∀ j, lp (stT P c N) (c 2) 0 none = some j → j < c 2 := by
  have h := lp_inv (s1 := stT P c N) (I := fun k a => ∀ j, a = some j → j < k) (b := c 2) (fun k a hk hI j e => by
    unfold stT at e
    cases a with
    | none =>
      simp only at e
      split at e
      · cases e
      · cases e; omega
    | some i =>
      have := hI i rfl
      simp only at e
      split at e
      · cases e; omega
      · split at e
        · cases e; omega
        · cases e; omega) (c 2) 0 none (by omega) (fun j e => by cases e)
  exact h
theorem j_LN0 (hc : c 1 ≤ 5) : (lg_cmp (lL P c N) 0 = 0) ↔ ∀ k, k < nl c → fit P c N k = false := by
  have h33 := nl_33 hc
  have hl := LN_lt (fit P c N) (nl c)
  have h1 : 2 ^ nl c ≤ 2 ^ 33 := Nat.pow_le_pow_right (by decide) h33
  rw [lg0, j_eq0 (by omega)]
  constructor
  · intro h0 k hk
    have := LN_bit (fit P c N) (nl c) k hk
    rw [h0, Nat.zero_div, Nat.zero_mod] at this
    cases hf : fit P c N k with
    | false => rfl
    | true => rw [hf] at this; simp at this
  · exact LN_zero _
theorem oI_neg {a : Option Nat} (ha : ∀ j, a = some j → j < 2147483648) : (oI a < 0) ↔ a = none := by
  cases a with
  | none => exact ⟨fun _ => rfl, fun _ => by decide⟩
  | some j => exact ⟨fun q => absurd q (k_neg (ha j rfl)), fun q => by cases q⟩
theorem c_paperToTry (C : CD p P c N h) (hW : WP P c) : fX9_paperToTryOf h 71 (lL P c N) = some (oI (tryO P c N), h) := by
  rcases fit_or P c N with hz | ⟨k0, hk0, hz⟩
  · have e0 : tryO P c N = none := lp_id (fun k => by unfold stT; rw [mLf_0 hz k]; rfl) _ _
    have hL := (j_LN0 (P := P) (N := N) C.m5).mpr hz
    rw [e0]
    show bX9_paperToTryOf_9 (fX9_paperToTryOf_9 999999999) h 71 _ (-2) 0 (Int32.ofNat 0) = _
    simp only [bX9_paperToTryOf_9, C.strD, C.plan, C.c2, bd_some, hL, if_true]
    split <;> rfl
  · have hL : ¬ lg_cmp (lL P c N) 0 = 0 := fun q => by rw [(j_LN0 (P := P) (N := N) C.m5).mp q k0 hk0] at hz; cases hz
    have hpos := fun i => mLf_pos (P := P) (N := N) hk0 hz i
    have hle := fun i => mLf_le (P := P) (N := N) C.m5 i
    have h5 := C.p5
    refine (lpI (F := fun n k a => fX9_paperToTryOf_9 n h 71 (lL P c N) (oI a) (lefI P c N a 0) (Int32.ofNat k)) (fin := fun a => some (oI a, h)) (st := stT P c N) (b := c 2) (I := fun k a => ∀ j, a = some j → j < k) C.b2 (fun n a _ => ?_) (fun n k a hk ha => ⟨?_, ?_⟩) none (fun j e => by cases e)).1
    · show bX9_paperToTryOf_9 _ h 71 _ _ _ (Int32.ofNat (c 2)) = _
      simp only [bX9_paperToTryOf_9, C.strD, C.plan, C.c2, bd_some, if_pos (k_rfl _)]
    · have h1 := k_nle hk C.b2
      have hp := hpos k
      have hlk := hle k
      show bX9_paperToTryOf_9 _ h 71 _ _ _ (Int32.ofNat k) = _
      simp only [bX9_paperToTryOf_9, C.strD, C.strK, C.plan, C.c2, bd_some, bd2_some, if_neg h1, if_neg hL, c_mostLeft C hW hk, k_succ, oI_neg (fun j e => (by have := ha j e; omega : j < 2147483648))]
      cases a with
      | none => simp [stT, show ¬ mLf P c N k = 0 by omega, oI, lefI]
      | some j =>
        have hlj := hle j
        have e := k_le (i := mLf P c N j) (n := mLf P c N k) (by omega) (by omega)
        simp only [stT, if_neg (show ¬ mLf P c N k = 0 by omega), lefI, e]
        by_cases q : mLf P c N j ≤ mLf P c N k
        · simp [q, oI]
        · simp [q, oI]
    · intro j e
      unfold stT at e
      cases a with
      | none =>
        simp only at e
        split at e
        · cases e
        · cases e; omega
      | some i =>
        have := ha i rfl
        simp only at e
        split at e
        · cases e; omega
        · split at e
          · cases e; omega
          · cases e; omega
theorem sI_sI {a k : Nat} {x y : Int32} : sI (sI h a k x) a k y = sI h a k y := by
  unfold sI up2
  congr 1
  funext b j
  by_cases q : b = a ∧ j = k
  · simp only [if_pos q]
  · simp only [if_neg q]
/-- the model's search -/
theorem m_triesV (M : MM o P c N h) (hW : WP P c) {i : Nat} (hi : i < c 2) (x : Int32) (k11 : MH → Nat → Int32 → Int32 → Option (Int32 × MH)) :
    fX13_tries_27 k11 FU h 77 x (Int32.ofNat i) 0 0 = bX13_tries_27 k11 (fun _ _ _ _ _ _ => none) h 77 x (Int32.ofNat i) (Int32.ofNat (mLf P c N i)) (Int32.ofNat 3) := by
  have hb := fun v => nLw_lt (P := P) (N := N) M.m5 i v
  have hst : ∀ (n k a : Nat), k < 3 → a ≤ 33 → fX13_tries_27 k11 (n + 1) h 77 x (Int32.ofNat i) (Int32.ofNat a) (Int32.ofNat k) = fX13_tries_27 k11 n h 77 x (Int32.ofNat i) (Int32.ofNat (mxN a (nLw P c N i (Int32.ofNat k)))) (Int32.ofNat (k + 1)) := fun n k a hk ha => by
    have h1 : ¬ (3 : Int32) ≤ Int32.ofNat k := k_nle (b := 3) hk (by decide)
    have h2 := hb (Int32.ofNat k)
    have e := k_le (i := nLw P c N i (Int32.ofNat k)) (n := a) (by omega) (by omega)
    show bX13_tries_27 k11 _ h 77 _ _ _ (Int32.ofNat k) = _
    simp only [bX13_tries_27, M.k13, m_lawsFor M hW hi (VD_of hk), bd_some, bd2_some, if_neg h1, k_succ, e, mxN]
    by_cases q : a < nLw P c N i (Int32.ofNat k)
    · rw [if_pos q, if_neg (by omega)]
    · rw [if_neg q, if_pos (by omega)]
  have hm : ∀ a v, a ≤ 33 → mxN a (nLw P c N i v) ≤ 33 := fun a v ha => by have := hb v; unfold mxN; split <;> omega
  show fX13_tries_27 k11 (999999996 + 1 + 1 + 1 + 1) h 77 x (Int32.ofNat i) (Int32.ofNat 0) (Int32.ofNat 0) = _
  rw [hst _ 0 0 (by decide) (by decide), hst _ 1 _ (by decide) (hm _ _ (by decide)), hst _ 2 _ (by decide) (hm _ _ (hm _ _ (by decide)))]
  show bX13_tries_27 k11 _ h 77 _ _ _ (Int32.ofNat 3) = _
  unfold bX13_tries_27
  rw [if_pos (show (3 : Int32) ≤ Int32.ofNat 3 from k_rfl 3), if_pos (show (3 : Int32) ≤ Int32.ofNat 3 from k_rfl 3)]
  rfl
theorem m_tries (M : MM o P c N h) (hW : WP P c) : fX13_tries h 77 = some (oI (tryO P c N), sI h 77 25 (lefI P c N (tryO P c N) (-2))) := by
  have hle := fun i => mLf_le (P := P) (N := N) M.m5 i
  have h5 := M.p5
  have e0 : fX13_tries h 77 = fX13_tries_11 FU (sI h 77 25 (lefI P c N none (-2))) 77 (oI none) (Int32.ofNat 0) := by
    simp only [fX13_tries, pI_at M.s77, bd_some]; rfl
  rw [e0]
  refine (lpI (F := fun n k a => fX13_tries_11 n (sI h 77 25 (lefI P c N a (-2))) 77 (oI a) (Int32.ofNat k)) (fin := fun a => some (oI a, sI h 77 25 (lefI P c N a (-2)))) (st := stT P c N) (b := c 2) (I := fun k a => ∀ j, a = some j → j < k) M.b2 (fun n a _ => ?_) (fun n k a hk ha => ⟨?_, ?_⟩) none (fun j e => by cases e)).1
  · have M' := M.wr (a := 77) (k := 25) (x := lefI P c N a (-2)) (by decide) (by decide)
    show bX13_tries_11 _ _ 77 _ (Int32.ofNat (c 2)) = _
    simp only [bX13_tries_11, M'.off, M'.c2, bd_some, if_pos (k_rfl _)]
  · have M' := M.wr (a := 77) (k := 25) (x := lefI P c N a (-2)) (by decide) (by decide)
    have h1 := k_nle hk M.b2
    have hlk := hle k
    have ek0 : (Int32.ofNat (mLf P c N k) = 0) ↔ mLf P c N k = 0 := by
      rw [show (0 : Int32) = Int32.ofNat 0 from rfl, k_eq (by omega) (by decide)]
    have e2 : (oI a = -2) ↔ a = none := by
      constructor
      · intro q
        exact (oI_neg (fun j e => (by have := ha j e; omega : j < 2147483648))).mp (by rw [q]; decide)
      · rintro rfl; rfl
    show bX13_tries_11 _ _ 77 _ (Int32.ofNat k) = _
    simp only [bX13_tries_11, M'.off, M'.c2, bd_some, if_neg h1, m_triesV M' hW hk]
    unfold bX13_tries_27
    rw [if_pos (show (3 : Int32) ≤ Int32.ofNat 3 from k_rfl 3)]
    simp only [bX13_tries_79, ek0, e2, pI_at M'.s77, gI_at M'.s77, sI_sI, bd_some, k_succ]
    cases a with
    | none =>
      by_cases q : mLf P c N k = 0
      · simp [stT, q]
      · simp [stT, q, oI, lefI]
    | some j =>
      have hlj := hle j
      have e := k_lt (i := mLf P c N k) (n := mLf P c N j) (by omega) (by omega)
      by_cases q : mLf P c N k = 0
      · simp [stT, q]
      · have e3 : (sI h 77 25 (lefI P c N (some j) (-2))).1 77 25 = Int32.ofNat (mLf P c N j) := sI_eq
        simp only [stT, if_neg q, e3, e, reduceCtorEq, if_false]
        by_cases q2 : mLf P c N j ≤ mLf P c N k
        · rw [if_neg (by omega), if_pos q2]
        · rw [if_pos (by omega), if_neg q2]; rfl
  · intro j e
    unfold stT at e
    cases a with
    | none =>
      simp only at e
      split at e
      · cases e
      · cases e; omega
    | some i =>
      have := ha i rfl
      simp only at e
      split at e
      · cases e; omega
      · split at e
        · cases e; omega
        · cases e; omega
theorem c_fewestLeft (C : CD p P c N h) (hW : WP P c) : fX9_fewestLeft h 71 = some (lefI P c N (tryO P c N) (-2), h) := by
  have hlt := tryO_lt (P := P) (c := c) (N := N) none
  have h5 := C.p5
  simp only [fX9_fewestLeft, C.strK, c_fitting C hW, c_paperToTry C hW, bd_some, bd2_some]
  cases ht : tryO P c N with
  | none =>
    rw [if_pos (show oI none < 0 by decide)]; rfl
  | some j =>
    have hj' := hlt j ht
    rw [if_neg (show ¬ oI (some j) < 0 from k_neg (by omega)), show oI (some j) = Int32.ofNat j from rfl, c_mostLeft C hW hj', bd2_some]
    rfl
end LAW
