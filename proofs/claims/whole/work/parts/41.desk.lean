/-! ===== the desk: what the class sees of a plan P (tables by number), counts c, cells N ===== -/
abbrev PT : Type := Nat → Nat → Int32
abbrev CT : Type := Nat → Nat
/-- which count bounds a table -/
def cpt (t : Nat) : Nat := if t < 2 then 2 else if t < 4 then 3 else if t < 7 then 4 else if t < 9 then 5 else 7
def WC (c : CT) : Prop := c 0 ≤ 100 ∧ c 1 ≤ 5 ∧ c 2 ≤ 5 ∧ c 3 ≤ 4 ∧ c 4 ≤ 10 ∧ c 5 ≤ 3 ∧ c 6 ≤ 5 ∧ c 7 ≤ 4
/-- the desk's cells -/
def CD (p : Nat) (P : PT) (c : CT) (N : Nat → Int32) (h : MH) : Prop := CS p h.2.2 ∧ WC c ∧ (∀ t, t < 8 → h.1 p (12 + t) = Int32.ofNat (c t)) ∧ (∀ t i, t < 12 → i < c (cpt t) → h.1 (p + 1 + t) i = P t i) ∧ ∀ i, i < 31 → h.1 28 i = N i
section CDS
variable {p : Nat} {P : PT} {c : CT} {N : Nat → Int32} {h : MH}
theorem CD.cap (C : CD p P c N h) (t : Nat) (ht : t < 12) : c (cpt t) ≤ capL.getD t 0 := by
  obtain ⟨-, w, -⟩ := C
  obtain ⟨-, -, w2, w3, w4, w5, -, w7⟩ := w
  rcases (show t = 0 ∨ t = 1 ∨ t = 2 ∨ t = 3 ∨ t = 4 ∨ t = 5 ∨ t = 6 ∨ t = 7 ∨ t = 8 ∨ t = 9 ∨ t = 10 ∨ t = 11 by omega) with rfl | rfl | rfl | rfl | rfl | rfl | rfl | rfl | rfl | rfl | rfl | rfl <;> first | exact w2 | exact w3 | exact w4 | exact w5 | exact w7
theorem CD.b31 (C : CD p P c N h) (t : Nat) (ht : t < 8) : c t < 2147483648 := by
  obtain ⟨-, w, -⟩ := C
  obtain ⟨w0, w1, w2, w3, w4, w5, w6, w7⟩ := w
  rcases (show t = 0 ∨ t = 1 ∨ t = 2 ∨ t = 3 ∨ t = 4 ∨ t = 5 ∨ t = 6 ∨ t = 7 by omega) with rfl | rfl | rfl | rfl | rfl | rfl | rfl | rfl <;> omega
theorem CD.plan (C : CD p P c N h) : gR h 26 5 1 = some p := gR_at (C.1.sh 26 rfl) C.1.2.2.1
theorem CD.now (C : CD p P c N h) : gR h 26 5 0 = some 27 := gR_at (C.1.sh 26 rfl) (C.1.rf 5 rfl rfl)
theorem CD.k5 (C : CD p P c N h) : ck h 26 5 = some () := ck_at (C.1.sh 26 rfl)
theorem CD.k4 (C : CD p P c N h) : ck h 27 4 = some () := ck_at (C.1.sh 27 rfl)
theorem CD.k7 (C : CD p P c N h) : ck h p 7 = some () := ck_at C.1.pl
theorem CD.k11 (C : CD p P c N h) : ck h 0 11 = some () := ck_at (C.1.sh 0 rfl)
theorem CD.desk (C : CD p P c N h) : gR h 0 11 2 = some 26 := gR_at (C.1.sh 0 rfl) (C.1.rf 0 rfl rfl)
theorem CD.cells (C : CD p P c N h) : gR h 27 4 0 = some 28 := gR_at (C.1.sh 27 rfl) (C.1.rf 6 rfl rfl)
theorem CD.cnt (C : CD p P c N h) (t : Nat) (ht : t < 8) : gI h p 7 (12 + t) = some (Int32.ofNat (c t)) := by rw [gI_at C.1.pl, C.2.2.1 t ht]
theorem CD.tab (C : CD p P c N h) (t : Nat) (ht : t < 12) : gR h p 7 t = some (p + 1 + t) := gR_at C.1.pl (C.1.plA t ht).1
theorem CD.at (C : CD p P c N h) (t : Nat) (ht : t < 12) {i : Nat} (hi : i < c (cpt t)) : lI h (p + 1 + t) (Int32.ofNat i) = some (P t i) := by
  have h1 := C.cap t ht
  have h2 : capL.getD t 0 ≤ 10 := by
    rcases (show t = 0 ∨ t = 1 ∨ t = 2 ∨ t = 3 ∨ t = 4 ∨ t = 5 ∨ t = 6 ∨ t = 7 ∨ t = 8 ∨ t = 9 ∨ t = 10 ∨ t = 11 by omega) with rfl | rfl | rfl | rfl | rfl | rfl | rfl | rfl | rfl | rfl | rfl | rfl <;> decide
  rw [lI_at (C.1.plA t ht).2 (by omega) (by omega), C.2.2.2.1 t i ht hi]
theorem CD.cell (C : CD p P c N h) {i : Nat} (hi : i < 31) : lI h 28 (Int32.ofNat i) = some (N i) := by
  rw [lI_at (C.1.sh 28 rfl) hi (by decide), C.2.2.2.2 i hi]
theorem CD.cellA (C : CD p P c N h) (m : Nat) {i : Nat} (hi : m + i < 31) : lI h 28 (Int32.ofNat m + Int32.ofNat i) = some (N (m + i)) := by
  rw [k_add]; exact C.cell hi
theorem CD.c0 (C : CD p P c N h) : gI h p 7 12 = some (Int32.ofNat (c 0)) := C.cnt 0 (by decide)
theorem CD.c1 (C : CD p P c N h) : gI h p 7 13 = some (Int32.ofNat (c 1)) := C.cnt 1 (by decide)
theorem CD.c2 (C : CD p P c N h) : gI h p 7 14 = some (Int32.ofNat (c 2)) := C.cnt 2 (by decide)
theorem CD.c3 (C : CD p P c N h) : gI h p 7 15 = some (Int32.ofNat (c 3)) := C.cnt 3 (by decide)
theorem CD.c4 (C : CD p P c N h) : gI h p 7 16 = some (Int32.ofNat (c 4)) := C.cnt 4 (by decide)
theorem CD.c5 (C : CD p P c N h) : gI h p 7 17 = some (Int32.ofNat (c 5)) := C.cnt 5 (by decide)
theorem CD.c6 (C : CD p P c N h) : gI h p 7 18 = some (Int32.ofNat (c 6)) := C.cnt 6 (by decide)
theorem CD.c7 (C : CD p P c N h) : gI h p 7 19 = some (Int32.ofNat (c 7)) := C.cnt 7 (by decide)
/-! what is there -/
theorem inB_if {x : Int32} {n : Nat} {α : Type} {a b : α} : (if x < 0 then a else if Int32.ofNat n ≤ x then a else b) = if inB x n = true then b else a := by
  by_cases h1 : x < 0
  · simp [inB, h1]
  · by_cases h2 : x < Int32.ofNat n
    · have h3 : ¬ Int32.ofNat n ≤ x := by rw [Int32.not_le]; exact h2
      simp [inB, h1, h2, h3]
    · have h3 : Int32.ofNat n ≤ x := by rw [Int32.not_lt] at h2; exact h2
      simp [inB, h1, h2, h3]
theorem c_hasMark (C : CD p P c N h) (x : Int32) : fX5_hasMark h 26 x = some (if inB x (c 1) = true then 1 else 0, h) := by
  simp only [fX5_hasMark, C.plan, C.c1, bd_some]
  rw [inB_if]; split <;> rfl
theorem c_hasPaper (C : CD p P c N h) (x : Int32) : fX5_hasPaper h 26 x = some (if inB x (c 2) = true then 1 else 0, h) := by
  simp only [fX5_hasPaper, C.plan, C.c2, bd_some]
  rw [inB_if]; split <;> rfl
theorem c_hasStamp (C : CD p P c N h) (x : Int32) : fX5_hasStamp h 26 x = some (if inB x (c 3) = true then 1 else 0, h) := by
  simp only [fX5_hasStamp, C.plan, C.c3, bd_some]
  rw [inB_if]; split <;> rfl
theorem c_hasHand (C : CD p P c N h) (x : Int32) : fX5_hasHand h 26 x = some (if inB x (c 5) = true then 1 else 0, h) := by
  simp only [fX5_hasHand, C.plan, C.c5, bd_some]
  rw [inB_if]; split <;> rfl
theorem c_hasRule (C : CD p P c N h) (x : Int32) : fX5_hasRule h 26 x = some (if inB x (c 4) = true then 1 else 0, h) := by
  simp only [fX5_hasRule, C.plan, C.c4, bd_some]
  rw [inB_if]; split <;> rfl
/-! now -/
theorem c_marksOf (C : CD p P c N h) {i : Nat} (hi : i < 5) : fX4_marksOf h 27 (Int32.ofNat i) = some (N i, h) := by
  have e := C.cellA 0 (i := i) (by omega)
  rw [Nat.zero_add] at e
  simp only [fX4_marksOf, C.cells, bd_some]
  exact (by rw [show (0 : Int32) + Int32.ofNat i = Int32.ofNat 0 + Int32.ofNat i from rfl, e]; rfl)
/-- the first rule that fires: m left, from k on -/
def frL (P : PT) (s marks : Int32) : Nat → Nat → Option Nat
  | 0, _ => none
  | m + 1, k => if P 4 k = s ∧ ¬ (marks >>> (P 5 k &&& 31)) &&& 1 = P 6 k then some k else frL P s marks m (k + 1)
def frO (P : PT) (c : CT) (s marks : Int32) : Option Nat := frL P s marks (c 4) 0
def oI (o : Option Nat) : Int32 := match o with
  | none => -2
  | some k => Int32.ofNat k
theorem frL_lt {P : PT} {s marks : Int32} : ∀ (m k j : Nat), frL P s marks m k = some j → k ≤ j ∧ j < k + m
  | 0, k, j, e => by cases e
  | m + 1, k, j, e => by
    unfold frL at e
    split at e
    · cases e; omega
    · have := frL_lt m (k + 1) j e; omega
theorem frO_lt {s marks : Int32} {j : Nat} (e : frO P c s marks = some j) : j < c 4 := by have := frL_lt _ _ _ e; omega
theorem FU_at (m : Nat) (hm : m ≤ 100000000) : ∃ n, FU = n + m + 1 := ⟨999999999 - m, by unfold FU; omega⟩
theorem c_frL (C : CD p P c N h) (s marks : Int32) : ∀ (m k n : Nat), k + m = c 4 → fX5_firstRule_2 (n + m + 1) h 26 s marks (Int32.ofNat k) = some (oI (frL P s marks m k), h)
  | 0, k, n, e => by
    have hb := C.b31 4 (by decide)
    have h1 : Int32.ofNat (c 4) ≤ Int32.ofNat k := (k_le hb (by omega)).mpr (by omega)
    show bX5_firstRule_2 _ h 26 s marks (Int32.ofNat k) = _
    simp only [bX5_firstRule_2, C.plan, C.c4, bd_some, if_pos h1, frL, oI]
  | m + 1, k, n, e => by
    have hb := C.b31 4 (by decide)
    have h1 : ¬ Int32.ofNat (c 4) ≤ Int32.ofNat k := fun q => by have := (k_le hb (by omega)).mp q; omega
    have ih := c_frL C s marks m (k + 1) n (by omega)
    have t4 := C.tab 4 (by decide)
    have t5 := C.tab 5 (by decide)
    have t6 := C.tab 6 (by decide)
    have a4 := C.at 4 (by decide) (i := k) (show k < c 4 by omega)
    have a5 := C.at 5 (by decide) (i := k) (show k < c 4 by omega)
    have a6 := C.at 6 (by decide) (i := k) (show k < c 4 by omega)
    show bX5_firstRule_2 (fX5_firstRule_2 (n + m + 1)) h 26 s marks (Int32.ofNat k) = _
    simp only [bX5_firstRule_2, C.plan, C.c4, bd_some, if_neg h1, t4, t5, t6, a4, a5, a6, k_succ, ih]
    by_cases q1 : P 4 k = s
    · by_cases q2 : (marks >>> (P 5 k &&& 31)) &&& 1 = P 6 k
      · simp [frL, q1, q2]
      · simp [frL, q1, q2, oI]
    · simp [frL, q1]
theorem c_firstRule (C : CD p P c N h) (s marks : Int32) : fX5_firstRule h 26 s marks = some (oI (frO P c s marks), h) := by
  have w := C.2.1
  obtain ⟨n, hn⟩ := FU_at (c 4) (by obtain ⟨-, -, -, -, w4, -⟩ := w; omega)
  show fX5_firstRule_2 FU h 26 s marks (Int32.ofNat 0) = _
  rw [hn, c_frL C s marks (c 4) 0 n (by omega)]
  rfl
/-- what a stamp says of marks -/
def say (P : PT) (c : CT) (N : Nat → Int32) (s : Nat) (marks : Int32) : Int32 := match frO P c (Int32.ofNat s) marks with
  | none => P 2 s
  | some k => N (18 + k)
theorem c_verdictOf (C : CD p P c N h) {k : Nat} (hk : k < 10) : fX4_verdictOf h 27 (Int32.ofNat k) = some (N (18 + k), h) := by
  have e := C.cellA 18 (i := k) (by omega)
  simp only [fX4_verdictOf, C.cells, bd_some]
  rw [show (18 : Int32) + Int32.ofNat k = Int32.ofNat 18 + Int32.ofNat k from rfl, e]; rfl
theorem c_sayOf (C : CD p P c N h) {s : Nat} (hs : s < c 3) (marks : Int32) : fX5_sayOf h 26 (Int32.ofNat s) marks = some (say P c N s marks, h) := by
  have hw := C.2.1
  obtain ⟨-, -, -, w3, w4, -⟩ := hw
  simp only [fX5_sayOf, C.k5, bd_some, c_firstRule C, bd2_some, C.plan, C.now, C.k4]
  cases hf : frO P c (Int32.ofNat s) marks with
  | none =>
    have e1 : oI none < 0 := by decide
    have t2 := C.tab 2 (by decide)
    have a2 := C.at 2 (by decide) (i := s) hs
    simp only [if_pos e1, t2, bd_some, a2, say, hf]
  | some k =>
    have hk := frO_lt hf
    have e1 : ¬ oI (some k) < 0 := k_neg (by omega)
    simp only [if_neg e1, say, hf]
    rw [show oI (some k) = Int32.ofNat k from rfl, c_verdictOf C (by omega)]
    rfl
def sayN (P : PT) (c : CT) (N : Nat → Int32) (s i : Nat) : Int32 := say P c N s (N i)
theorem c_sayOn (C : CD p P c N h) {s i : Nat} (hs : s < c 3) (hi : i < c 2) : fX5_sayOn h 26 (Int32.ofNat s) (Int32.ofNat i) = some (sayN P c N s i, h) := by
  have hw := C.2.1
  obtain ⟨-, -, w2, -⟩ := hw
  simp only [fX5_sayOn, C.now, C.k4, bd_some, c_marksOf C (show i < 5 by omega), bd2_some, C.k5, c_sayOf C hs, sayN]
/-- what a hand prints -/
def prK (kind said : Int32) : Int32 := if kind = 1 then (if said = 2 then 1 else said) else if kind = 2 then (if said = 2 then 0 else said) else if kind = 3 then (if said = 2 then 2 else if said = 1 then 0 else 1) else said
theorem c_printBy (C : CD p P c N h) {i : Nat} (hi : i < c 5) (said : Int32) : fX5_printBy h 26 (Int32.ofNat i) said = some (prK (P 7 i) said, h) := by
  have t7 := C.tab 7 (by decide)
  have a7 := C.at 7 (by decide) (i := i) hi
  simp only [fX5_printBy, C.plan, t7, a7, bd_some, prK]
  repeat' split
  all_goals rfl
end CDS
