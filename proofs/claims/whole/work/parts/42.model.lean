/-! ===== the model's office o: what it sees of the same plan, counts, cells ===== -/
def mSh : List (Nat × Nat) := [(15, 5), (15, 5), (15, 5), (15, 4), (15, 4), (15, 4), (15, 10), (15, 10), (15, 10), (15, 10), (15, 3), (15, 3), (15, 4), (15, 4), (15, 4), (16, 17), (15, 17), (15, 17)]
def MO (o : Nat) (q : (Nat → Nat → Option Nat) × List (Nat × Nat)) : Prop := 90 ≤ o ∧ q.2[o]? = some (12, 0) ∧ ∀ j w, mSh[j]? = some w → q.1 o (9 + j) = some (o + 1 + j) ∧ q.2[o + 1 + j]? = some w
/-- where the model keeps a table: behind o -/
def mTL : List Nat := [1, 3, 5, 6, 7, 8, 9, 11, 12, 13, 14, 15]
def mT' (t : Nat) : Nat := mTL.getD t 0
/-- the model's row f is the cells N -/
def vRow (f N : Nat → Int32) : Prop := (∀ i, i < 5 → f (11 + i) = N i) ∧ (∀ i, i < 5 → f (16 + i) = N (5 + i)) ∧ (∀ i, i < 4 → f i = N (10 + i)) ∧ (∀ i, i < 4 → f (4 + i) = N (14 + i)) ∧ (∀ i, i < 10 → f (21 + i) = N (18 + i)) ∧ ∀ i, i < 3 → f (8 + i) = N (28 + i)
def MM (o : Nat) (P : PT) (c : CT) (N : Nat → Int32) (h : MH) : Prop := (∃ p, CS p h.2.2) ∧ MO o h.2.2 ∧ h.2.2.1 77 3 = some o ∧ WC c ∧ (∀ t, t < 8 → h.1 o t = Int32.ofNat (c t)) ∧ (∀ t i, t < 12 → i < c (cpt t) → h.1 (o + mT' t) i = P t i) ∧ vRow (h.1 79) N
def VD (x : Int32) : Prop := x = 0 ∨ x = 1 ∨ x = 2
/-- plans are well formed -/
def WP (P : PT) (c : CT) : Prop := (∀ s, s < c 3 → VD (P 2 s)) ∧ (∀ k, k < c 4 → P 6 k = 0 ∨ P 6 k = 1) ∧ (∀ k, k < c 4 → ∃ j, j < c 1 ∧ P 5 k = Int32.ofNat j) ∧ (∀ i, i < c 2 → P 1 i = -2 ∨ VD (P 1 i)) ∧ (∀ i, i < c 2 → ∃ j, j ≤ 99 ∧ P 0 i = Int32.ofNat j) ∧
  (∀ i, i < c 5 → ∃ j, j ≤ 100 ∧ P 8 i = Int32.ofNat j) ∧ (∀ k, k < c 7 → ∃ j, j < c 2 ∧ P 9 k = Int32.ofNat j) ∧ (∀ k, k < c 7 → ∃ j, j < c 5 ∧ P 10 k = Int32.ofNat j) ∧ (∀ k, k < c 7 → VD (P 11 k))
/-- cells are well formed -/
def WN (c : CT) (N : Nat → Int32) : Prop := (∀ k, k < c 4 → VD (N (18 + k))) ∧ (∀ s, s < 4 → ∃ j, j ≤ 9 ∧ N (10 + s) = Int32.ofNat j) ∧ N 14 + N 15 + N 16 + N 17 = N 28 + N 29 + N 30
section MMS
variable {o : Nat} {P : PT} {c : CT} {N : Nat → Int32} {h : MH}
theorem MM.b31 (C : MM o P c N h) (t : Nat) (ht : t < 8) : c t < 2147483648 := by
  obtain ⟨w0, w1, w2, w3, w4, w5, w6, w7⟩ := C.2.2.2.1
  rcases (show t = 0 ∨ t = 1 ∨ t = 2 ∨ t = 3 ∨ t = 4 ∨ t = 5 ∨ t = 6 ∨ t = 7 by omega) with rfl | rfl | rfl | rfl | rfl | rfl | rfl | rfl <;> omega
theorem MM.s77 (C : MM o P c N h) : h.2.2.2[77]? = some (13, 0) := by obtain ⟨p, q⟩ := C.1; exact q.sh 77 rfl
theorem MM.k13 (C : MM o P c N h) : ck h 77 13 = some () := ck_at C.s77
theorem MM.off (C : MM o P c N h) : gR h 77 13 3 = some o := gR_at C.s77 C.2.2.1
theorem MM.offZ (C : MM o P c N h) : gZ h 77 13 3 = some false := by rw [gZ_at C.s77, C.2.2.1]; rfl
theorem MM.v (C : MM o P c N h) : gR h 77 13 15 = some 79 := by obtain ⟨p, q⟩ := C.1; exact gR_at C.s77 q.2.2.2.2.2.2.1
theorem MM.cnt (C : MM o P c N h) (t : Nat) (ht : t < 8) : gI h o 12 t = some (Int32.ofNat (c t)) := by rw [gI_at C.2.1.2.1, C.2.2.2.2.1 t ht]
theorem MM.c0 (C : MM o P c N h) : gI h o 12 0 = some (Int32.ofNat (c 0)) := C.cnt 0 (by decide)
theorem MM.c1 (C : MM o P c N h) : gI h o 12 1 = some (Int32.ofNat (c 1)) := C.cnt 1 (by decide)
theorem MM.c2 (C : MM o P c N h) : gI h o 12 2 = some (Int32.ofNat (c 2)) := C.cnt 2 (by decide)
theorem MM.c3 (C : MM o P c N h) : gI h o 12 3 = some (Int32.ofNat (c 3)) := C.cnt 3 (by decide)
theorem MM.c4 (C : MM o P c N h) : gI h o 12 4 = some (Int32.ofNat (c 4)) := C.cnt 4 (by decide)
theorem MM.c5 (C : MM o P c N h) : gI h o 12 5 = some (Int32.ofNat (c 5)) := C.cnt 5 (by decide)
theorem MM.c6 (C : MM o P c N h) : gI h o 12 6 = some (Int32.ofNat (c 6)) := C.cnt 6 (by decide)
theorem MM.c7 (C : MM o P c N h) : gI h o 12 7 = some (Int32.ofNat (c 7)) := C.cnt 7 (by decide)
theorem MM.tab (C : MM o P c N h) (t : Nat) (ht : t < 12) : gR h o 12 (8 + mT' t) = some (o + mT' t) := by
  have h1 := C.2.1.2.2
  rcases (show t = 0 ∨ t = 1 ∨ t = 2 ∨ t = 3 ∨ t = 4 ∨ t = 5 ∨ t = 6 ∨ t = 7 ∨ t = 8 ∨ t = 9 ∨ t = 10 ∨ t = 11 by omega) with rfl | rfl | rfl | rfl | rfl | rfl | rfl | rfl | rfl | rfl | rfl | rfl
  · exact gR_at C.2.1.2.1 (h1 0 _ rfl).1
  · exact gR_at C.2.1.2.1 (h1 2 _ rfl).1
  · exact gR_at C.2.1.2.1 (h1 4 _ rfl).1
  · exact gR_at C.2.1.2.1 (h1 5 _ rfl).1
  · exact gR_at C.2.1.2.1 (h1 6 _ rfl).1
  · exact gR_at C.2.1.2.1 (h1 7 _ rfl).1
  · exact gR_at C.2.1.2.1 (h1 8 _ rfl).1
  · exact gR_at C.2.1.2.1 (h1 10 _ rfl).1
  · exact gR_at C.2.1.2.1 (h1 11 _ rfl).1
  · exact gR_at C.2.1.2.1 (h1 12 _ rfl).1
  · exact gR_at C.2.1.2.1 (h1 13 _ rfl).1
  · exact gR_at C.2.1.2.1 (h1 14 _ rfl).1
theorem MM.sh (C : MM o P c N h) (t : Nat) (ht : t < 12) : h.2.2.2[o + mT' t]? = some (15, capL.getD t 0) := by
  have h1 := C.2.1.2.2
  rcases (show t = 0 ∨ t = 1 ∨ t = 2 ∨ t = 3 ∨ t = 4 ∨ t = 5 ∨ t = 6 ∨ t = 7 ∨ t = 8 ∨ t = 9 ∨ t = 10 ∨ t = 11 by omega) with rfl | rfl | rfl | rfl | rfl | rfl | rfl | rfl | rfl | rfl | rfl | rfl
  · exact (h1 0 _ rfl).2
  · exact (h1 2 _ rfl).2
  · exact (h1 4 _ rfl).2
  · exact (h1 5 _ rfl).2
  · exact (h1 6 _ rfl).2
  · exact (h1 7 _ rfl).2
  · exact (h1 8 _ rfl).2
  · exact (h1 10 _ rfl).2
  · exact (h1 11 _ rfl).2
  · exact (h1 12 _ rfl).2
  · exact (h1 13 _ rfl).2
  · exact (h1 14 _ rfl).2
theorem WC.cap (w : WC c) (t : Nat) (ht : t < 12) : c (cpt t) ≤ capL.getD t 0 ∧ capL.getD t 0 ≤ 10 := by
  obtain ⟨-, -, w2, w3, w4, w5, -, w7⟩ := w
  rcases (show t = 0 ∨ t = 1 ∨ t = 2 ∨ t = 3 ∨ t = 4 ∨ t = 5 ∨ t = 6 ∨ t = 7 ∨ t = 8 ∨ t = 9 ∨ t = 10 ∨ t = 11 by omega) with rfl | rfl | rfl | rfl | rfl | rfl | rfl | rfl | rfl | rfl | rfl | rfl <;> first | exact ⟨w2, by decide⟩ | exact ⟨w3, by decide⟩ | exact ⟨w4, by decide⟩ | exact ⟨w5, by decide⟩ | exact ⟨w7, by decide⟩
theorem MM.at (C : MM o P c N h) (t : Nat) (ht : t < 12) {i : Nat} (hi : i < c (cpt t)) : lI h (o + mT' t) (Int32.ofNat i) = some (P t i) := by
  have h1 := C.2.2.2.1.cap t ht
  rw [lI_at (C.sh t ht) (by omega) (by omega), C.2.2.2.2.2.1 t i ht hi]
theorem MM.s79 (C : MM o P c N h) : h.2.2.2[79]? = some (15, 31) := by obtain ⟨p, q⟩ := C.1; exact q.sh 79 rfl
theorem MM.va (C : MM o P c N h) (m : Nat) {i : Nat} (hi : m + i < 31) : lI h 79 (Int32.ofNat m + Int32.ofNat i) = some (h.1 79 (m + i)) := by
  rw [k_add, lI_at C.s79 hi (by decide)]
theorem MM.marks (C : MM o P c N h) {i : Nat} (hi : i < 5) : lI h 79 (11 + Int32.ofNat i) = some (N i) := (C.va 11 (by omega)).trans (congrArg some (C.2.2.2.2.2.2.1 i hi))
theorem MM.latest (C : MM o P c N h) {i : Nat} (hi : i < 5) : lI h 79 (16 + Int32.ofNat i) = some (N (5 + i)) := (C.va 16 (by omega)).trans (congrArg some (C.2.2.2.2.2.2.2.1 i hi))
theorem MM.ink (C : MM o P c N h) {i : Nat} (hi : i < 4) : lI h 79 (0 + Int32.ofNat i) = some (N (10 + i)) := by
  have := C.va 0 (i := i) (by omega)
  rw [Nat.zero_add] at this
  exact this.trans (congrArg some (C.2.2.2.2.2.2.2.2.1 i hi))
theorem MM.pressed (C : MM o P c N h) {i : Nat} (hi : i < 4) : lI h 79 (4 + Int32.ofNat i) = some (N (14 + i)) := (C.va 4 (by omega)).trans (congrArg some (C.2.2.2.2.2.2.2.2.2.1 i hi))
theorem MM.said (C : MM o P c N h) {i : Nat} (hi : i < 10) : lI h 79 (21 + Int32.ofNat i) = some (N (18 + i)) := (C.va 21 (by omega)).trans (congrArg some (C.2.2.2.2.2.2.2.2.2.2.1 i hi))
theorem MM.handed (C : MM o P c N h) {i : Nat} (hi : i < 3) : lI h 79 (8 + Int32.ofNat i) = some (N (28 + i)) := (C.va 8 (by omega)).trans (congrArg some (C.2.2.2.2.2.2.2.2.2.2.2 i hi))
/-- writing elsewhere among the model's own cells -/
theorem MM.wr (C : MM o P c N h) {a k : Nat} {x : Int32} (ha : a < 90) (h79 : a ≠ 79) : MM o P c N (sI h a k x) := by
  obtain ⟨c1, c2, c3, c4, c5, c6, c7⟩ := C
  have ho := c2.1
  have e : ∀ b j, b ≠ a → (sI h a k x).1 b j = h.1 b j := fun b j hb => if_neg (fun q => hb q.1)
  refine ⟨c1, c2, c3, c4, fun t ht => by rw [e _ _ (by omega)]; exact c5 t ht, fun t i ht hi => ?_, ?_⟩
  · rw [e _ _ (by omega)]; exact c6 t i ht hi
  · have e2 : (sI h a k x).1 79 = h.1 79 := funext fun j => e 79 j (Ne.symm h79)
    rw [e2]; exact c7
theorem x_and1 (x : Int32) : x &&& 1 = 0 ∨ x &&& 1 = 1 := by
  have h : ∀ b : BitVec 32, b &&& 1#32 = 0#32 ∨ b &&& 1#32 = 1#32 := by
    intro b
    have h1 : (b &&& 1#32).toNat = b.toNat % 2 := by rw [BitVec.toNat_and]; exact Nat.and_one_is_mod _
    rcases Nat.mod_two_eq_zero_or_one b.toNat with q | q
    · left; apply BitVec.eq_of_toNat_eq; rw [h1, q]; rfl
    · right; apply BitVec.eq_of_toNat_eq; rw [h1, q]; rfl
  rcases h x.toBitVec with q | q
  · left; apply Int32.toBitVec_inj.mp; rw [Int32.toBitVec_and]; exact q
  · right; apply Int32.toBitVec_inj.mp; rw [Int32.toBitVec_and]; exact q
theorem m_isPaper (C : MM o P c N h) (x : Int32) : fX13_isPaper h 77 x = some (if inB x (c 2) = true then 1 else 0, h) := by
  simp only [fX13_isPaper, C.offZ, C.off, C.c2, bd_some, if_neg (Bool.false_ne_true)]
  rw [inB_if]; split <;> rfl
theorem m_isStamp (C : MM o P c N h) (x : Int32) : fX13_isStamp h 77 x = some (if inB x (c 3) = true then 1 else 0, h) := by
  simp only [fX13_isStamp, C.offZ, C.off, C.c3, bd_some, if_neg (Bool.false_ne_true)]
  rw [inB_if]; split <;> rfl
theorem m_isHand (C : MM o P c N h) (x : Int32) : fX13_isHand h 77 x = some (if inB x (c 5) = true then 1 else 0, h) := by
  simp only [fX13_isHand, C.offZ, C.off, C.c5, bd_some, if_neg (Bool.false_ne_true)]
  rw [inB_if]; split <;> rfl
theorem m_isRule (C : MM o P c N h) (x : Int32) : fX13_isRule h 77 x = some (if inB x (c 4) = true then 1 else 0, h) := by
  simp only [fX13_isRule, C.offZ, C.off, C.c4, bd_some, if_neg (Bool.false_ne_true)]
  rw [inB_if]; split <;> rfl
theorem m_frL (C : MM o P c N h) (hW : WP P c) (s marks : Int32) : ∀ (m k n : Nat), k + m = c 4 → fX13_ruleFor_2 (n + m + 1) h 77 s marks (Int32.ofNat k) = some (oI (frL P s marks m k), h)
  | 0, k, n, e => by
    have hb := C.b31 4 (by decide)
    have h1 : Int32.ofNat (c 4) ≤ Int32.ofNat k := (k_le hb (by omega)).mpr (by omega)
    show bX13_ruleFor_2 _ h 77 s marks (Int32.ofNat k) = _
    simp only [bX13_ruleFor_2, C.off, C.c4, bd_some, if_pos h1, frL, oI]
  | m + 1, k, n, e => by
    have hb := C.b31 4 (by decide)
    have h1 : ¬ Int32.ofNat (c 4) ≤ Int32.ofNat k := fun q => by have := (k_le hb (by omega)).mp q; omega
    have ih := m_frL C hW s marks m (k + 1) n (by omega)
    have ih' : fX13_ruleFor_2 (n + m + 1) h 77 s marks (Int32.ofNat k + 1) = some (oI (frL P s marks m (k + 1)), h) := by rw [k_succ]; exact ih
    have t4 : gR h o 12 15 = some (o + 7) := C.tab 4 (by decide)
    have t5 : gR h o 12 16 = some (o + 8) := C.tab 5 (by decide)
    have t6 : gR h o 12 17 = some (o + 9) := C.tab 6 (by decide)
    have a4 : lI h (o + 7) (Int32.ofNat k) = _ := C.at 4 (by decide) (i := k) (show k < c 4 by omega)
    have a5 : lI h (o + 8) (Int32.ofNat k) = _ := C.at 5 (by decide) (i := k) (show k < c 4 by omega)
    have a6 : lI h (o + 9) (Int32.ofNat k) = _ := C.at 6 (by decide) (i := k) (show k < c 4 by omega)
    have r6 := hW.2.1 k (by omega)
    show bX13_ruleFor_2 (fX13_ruleFor_2 (n + m + 1)) h 77 s marks (Int32.ofNat k) = _
    simp only [bX13_ruleFor_2, bX13_ruleFor_56, fX13_bit, C.off, C.c4, bd_some, if_neg h1, t4, t5, t6, a4, a5, a6, k_succ, ih]
    by_cases q1 : P 4 k = s
    · rcases x_and1 (marks >>> (P 5 k &&& 31)) with q2 | q2 <;> rcases r6 with q3 | q3 <;> simp [frL, q1, q2, q3, oI, bd2_some, bd_some, C.off, t6, a6, ih']
    · simp [frL, q1]
theorem m_ruleFor (C : MM o P c N h) (hW : WP P c) (s marks : Int32) : fX13_ruleFor h 77 s marks = some (oI (frO P c s marks), h) := by
  have w := C.2.2.2.1
  obtain ⟨n, hn⟩ := FU_at (c 4) (by obtain ⟨-, -, -, -, w4, -⟩ := w; omega)
  show fX13_ruleFor_2 FU h 77 s marks (Int32.ofNat 0) = _
  rw [hn, m_frL C hW s marks (c 4) 0 n (by omega)]
  rfl
theorem m_saysBy (C : MM o P c N h) (hW : WP P c) {s : Nat} (hs : s < c 3) (marks : Int32) : fX13_saysBy h 77 (Int32.ofNat s) marks = some (say P c N s marks, h) := by
  have hw := C.2.2.2.1
  obtain ⟨-, -, -, w3, w4, -⟩ := hw
  simp only [fX13_saysBy, C.k13, bd_some, m_ruleFor C hW, bd2_some, C.off, C.v]
  cases hf : frO P c (Int32.ofNat s) marks with
  | none =>
    have t2 : gR h o 12 13 = some (o + 5) := C.tab 2 (by decide)
    have a2 : lI h (o + 5) (Int32.ofNat s) = _ := C.at 2 (by decide) (i := s) hs
    have e : oI none = -2 := rfl
    simp only [e, if_true, t2, bd_some, a2, say, hf]
  | some k =>
    have hk := frO_lt hf
    have e1 : ¬ oI (some k) = -2 := fun q => by
      have := k_neg (i := k) (by omega)
      rw [show Int32.ofNat k = -2 from q] at this
      exact this (by decide)
    simp only [if_neg e1, say, hf]
    rw [show oI (some k) = Int32.ofNat k from rfl, C.said (by omega)]
    rfl
theorem m_saysNow (C : MM o P c N h) (hW : WP P c) {s i : Nat} (hs : s < c 3) (hi : i < c 2) : fX13_saysNow h 77 (Int32.ofNat s) (Int32.ofNat i) = some (sayN P c N s i, h) := by
  have hw := C.2.2.2.1
  obtain ⟨-, -, w2, -⟩ := hw
  simp only [fX13_saysNow, C.v, bd_some, C.marks (show i < 5 by omega), C.k13, m_saysBy C hW hs, bd2_some, sayN]
theorem say_VD (hW : WP P c) (hN : WN c N) {s : Nat} (hs : s < c 3) (marks : Int32) : VD (say P c N s marks) := by
  unfold say
  cases hf : frO P c (Int32.ofNat s) marks with
  | none => exact hW.1 s hs
  | some k => exact hN.1 k (frO_lt hf)
theorem m_printsBy (C : MM o P c N h) {i : Nat} (hi : i < c 5) {said : Int32} (hv : VD said) : fX13_printsBy h 77 (Int32.ofNat i) said = some (prK (P 7 i) said, h) := by
  have t7 : gR h o 12 19 = some (o + 11) := C.tab 7 (by decide)
  have a7 : lI h (o + 11) (Int32.ofNat i) = _ := C.at 7 (by decide) (i := i) hi
  simp only [fX13_printsBy, C.off, t7, a7, bd_some, prK]
  by_cases k1 : P 7 i = 1
  · rcases hv with rfl | rfl | rfl <;> simp [k1]
  · by_cases k2 : P 7 i = 2
    · rcases hv with rfl | rfl | rfl <;> simp [k2]
    · by_cases k3 : P 7 i = 3
      · rcases hv with rfl | rfl | rfl <;> simp [k3]
      · rcases hv with rfl | rfl | rfl <;> simp [k1, k2, k3]
theorem prK_VD {k x : Int32} (h : VD x) : VD (prK k x) := by
  unfold prK VD
  rcases h with rfl | rfl | rfl <;> (repeat' split) <;> simp
/-- of a hundred -/
def hun (P : PT) (i : Nat) (said verdict : Int32) : Int32 := (if verdict = 2 then P 8 i else 0) + (if prK (P 7 i) said = verdict then 100 - P 8 i else 0)
theorem m_partOf (C : MM o P c N h) {i : Nat} (hi : i < c 5) {said : Int32} (hv : VD said) (verdict : Int32) : fX13_partOf h 77 (Int32.ofNat i) said verdict = some (hun P i said verdict, h) := by
  have t8 : gR h o 12 20 = some (o + 12) := C.tab 8 (by decide)
  have a8 : lI h (o + 12) (Int32.ofNat i) = _ := C.at 8 (by decide) (i := i) hi
  simp only [fX13_partOf, bX13_partOf_26, C.k13, C.off, m_printsBy C hi hv, bd2_some, t8, a8, bd_some, hun]
  by_cases q2 : verdict = 2
  · subst q2
    by_cases q1 : prK (P 7 i) said = 2 <;> simp [q1, Int32.add_comm]
  · by_cases q1 : prK (P 7 i) said = verdict <;> simp [q1, q2]
end MMS
theorem c_hundredths {p : Nat} {P : PT} {c : CT} {N : Nat → Int32} {h : MH} (C : CD p P c N h) {i : Nat} (hi : i < c 5) (said verdict : Int32) : fX5_hundredths h 26 (Int32.ofNat i) said verdict = some (hun P i said verdict, h) := by
  have t8 := C.tab 8 (by decide)
  have a8 := C.at 8 (by decide) (i := i) hi
  simp only [fX5_hundredths, bX5_hundredths_22, C.k5, C.plan, c_printBy C hi, bd2_some, t8, a8, bd_some, hun]
  by_cases q2 : verdict = 2
  · subst q2
    by_cases q1 : prK (P 7 i) said = 2 <;> simp [q1]
  · by_cases q1 : prK (P 7 i) said = verdict <;> simp [q1, q2]
