/-! ===== THE PURE PART: small numbers, the heap's primitives where they are good ===== -/
theorem k_toInt {i : Nat} (hi : i < 2147483648) : (Int32.ofNat i).toInt = (i : Int) := Int32.toInt_ofNat_of_lt hi
theorem k_lt {i n : Nat} (hi : i < 2147483648) (hn : n < 2147483648) : (Int32.ofNat i < Int32.ofNat n) ↔ i < n := by
  rw [Int32.lt_iff_toInt_lt, k_toInt hi, k_toInt hn]; omega
theorem k_le {i n : Nat} (hi : i < 2147483648) (hn : n < 2147483648) : (Int32.ofNat i ≤ Int32.ofNat n) ↔ i ≤ n := by
  rw [Int32.le_iff_toInt_le, k_toInt hi, k_toInt hn]; omega
theorem k_eq {i n : Nat} (hi : i < 2147483648) (hn : n < 2147483648) : (Int32.ofNat i = Int32.ofNat n) ↔ i = n := by
  rw [← Int32.toInt_inj, k_toInt hi, k_toInt hn]; omega
theorem k_neg {i : Nat} (hi : i < 2147483648) : ¬ Int32.ofNat i < 0 := by
  rw [Int32.lt_iff_toInt_lt, k_toInt hi, Int32.toInt_zero]; omega
theorem k_add (a b : Nat) : Int32.ofNat a + Int32.ofNat b = Int32.ofNat (a + b) := (Int32.ofNat_add a b).symm
theorem k_succ (i : Nat) : Int32.ofNat i + 1 = Int32.ofNat (i + 1) := k_add i 1
theorem k_clamp {i : Nat} (hi : i < 2147483648) : (Int32.ofNat i).toNatClampNeg = i := by
  show (Int32.ofNat i).toInt.toNat = i
  rw [k_toInt hi]; simp
/-- a number that is one of n -/
def inB (x : Int32) (n : Nat) : Bool := decide (¬ x < 0) && decide (x < Int32.ofNat n)
theorem inB_at {x : Int32} {n : Nat} (hn : n < 2147483648) (h : inB x n = true) : ∃ i, i < n ∧ x = Int32.ofNat i := by
  simp only [inB, Bool.and_eq_true, decide_eq_true_eq] at h
  obtain ⟨h1, h2⟩ := h
  rw [Int32.lt_iff_toInt_lt, Int32.toInt_zero] at h1
  rw [Int32.lt_iff_toInt_lt, k_toInt hn] at h2
  refine ⟨x.toInt.toNat, by omega, i32_of_toInt (by omega) (by omega)⟩
theorem inB_of {i n : Nat} (hn : n < 2147483648) (h : i < n) : inB (Int32.ofNat i) n = true := by
  simp only [inB, Bool.and_eq_true, decide_eq_true_eq]
  exact ⟨k_neg (by omega), (k_lt (by omega) hn).mpr h⟩
theorem inB_0 {x : Int32} : inB x 0 = false := by
  cases h : inB x 0 with
  | false => rfl
  | true => obtain ⟨i, hi, -⟩ := inB_at (by decide) h; omega
section PRIM
variable {h : MH} {a ci n k i : Nat}
theorem isK_of (hS : h.2.2.2[a]? = some (ci, n)) : isK h a ci = true := by unfold isK; rw [hS]; simp
theorem inA_of {kd : Nat} (hS : h.2.2.2[a]? = some (kd, n)) (hi : i < n) (hn : n < 2147483648) : inA h a kd (Int32.ofNat i) = true := by
  unfold inA
  rw [hS]
  simp only [beq_self_eq_true, Bool.true_and, Bool.and_eq_true, decide_eq_true_eq]
  exact ⟨k_neg (by omega), by rw [k_clamp (by omega)]; exact hi⟩
theorem gI_at (hS : h.2.2.2[a]? = some (ci, n)) : gI h a ci k = some (h.1 a k) := if_pos (isK_of hS)
theorem gJ_at (hS : h.2.2.2[a]? = some (ci, n)) : gJ h a ci k = some (h.2.1 a k) := if_pos (isK_of hS)
theorem gR_at {b : Nat} (hS : h.2.2.2[a]? = some (ci, n)) (hA : h.2.2.1 a k = some b) : gR h a ci k = some b := (if_pos (isK_of hS)).trans hA
theorem gZ_at (hS : h.2.2.2[a]? = some (ci, n)) : gZ h a ci k = some (h.2.2.1 a k).isNone := if_pos (isK_of hS)
theorem pI_at {x : Int32} (hS : h.2.2.2[a]? = some (ci, n)) : pI h a ci k x = some (sI h a k x) := if_pos (isK_of hS)
theorem pB_at {x : Int32} (hS : h.2.2.2[a]? = some (ci, n)) (hx : x = 0 ∨ x = 1) : pB h a ci k x = some (sI h a k x) := if_pos ⟨isK_of hS, hx⟩
theorem pJ_at {x : Int64} (hS : h.2.2.2[a]? = some (ci, n)) : pJ h a ci k x = some (sJ h a k x) := if_pos (isK_of hS)
theorem pR_at {x : Nat} (hS : h.2.2.2[a]? = some (ci, n)) : pR h a ci k x = some (sR h a k (some x)) := if_pos (isK_of hS)
theorem ck_at (hS : h.2.2.2[a]? = some (ci, n)) : ck h a ci = some () := if_pos (isK_of hS)
theorem lI_at (hS : h.2.2.2[a]? = some (15, n)) (hi : i < n) (hn : n < 2147483648) : lI h a (Int32.ofNat i) = some (h.1 a i) := by
  rw [lI, if_pos (inA_of hS hi hn), k_clamp (by omega)]
theorem lB_at (hS : h.2.2.2[a]? = some (14, n)) (hi : i < n) (hn : n < 2147483648) : lB h a (Int32.ofNat i) = some (h.1 a i) := by
  rw [lB, if_pos (inA_of hS hi hn), k_clamp (by omega)]
theorem lJ_at (hS : h.2.2.2[a]? = some (16, n)) (hi : i < n) (hn : n < 2147483648) : lJ h a (Int32.ofNat i) = some (h.2.1 a i) := by
  rw [lJ, if_pos (inA_of hS hi hn), k_clamp (by omega)]
theorem lR_at {b : Nat} (hS : h.2.2.2[a]? = some (17, n)) (hi : i < n) (hn : n < 2147483648) (hA : h.2.2.1 a i = some b) : lR h a (Int32.ofNat i) = some b := by
  rw [lR, if_pos (inA_of hS hi hn), k_clamp (by omega)]; exact hA
theorem tI_at {x : Int32} (hS : h.2.2.2[a]? = some (15, n)) (hi : i < n) (hn : n < 2147483648) : tI h a (Int32.ofNat i) x = some (sI h a i x) := by
  rw [tI, if_pos (inA_of hS hi hn), k_clamp (by omega)]
theorem tB_at {x : Int32} (hS : h.2.2.2[a]? = some (14, n)) (hi : i < n) (hn : n < 2147483648) : tB h a (Int32.ofNat i) x = some (sI h a i (vp_nar .byte x)) := by
  rw [tB, if_pos (inA_of hS hi hn), k_clamp (by omega)]
theorem tJ_at {x : Int64} (hS : h.2.2.2[a]? = some (16, n)) (hi : i < n) (hn : n < 2147483648) : tJ h a (Int32.ofNat i) x = some (sJ h a i x) := by
  rw [tJ, if_pos (inA_of hS hi hn), k_clamp (by omega)]
end PRIM
/-! the objects, by their numbers: the class's 0..76, the model's 77..88, the law's long[1] 89 -/
def shp0 : List (Nat × Nat) := [(11, 0), (10, 0), (14, 900), (8, 0), (16, 9), (16, 5), (16, 3), (16, 4), (4, 0), (15, 31), (16, 17), (15, 17), (15, 17),
  (7, 0), (15, 5), (15, 5), (15, 4), (15, 4), (15, 10), (15, 10), (15, 10), (15, 3), (15, 3), (15, 4), (15, 4), (15, 4),
  (5, 0), (4, 0), (15, 31), (7, 0), (15, 5), (15, 5), (15, 4), (15, 4), (15, 10), (15, 10), (15, 10), (15, 3), (15, 3), (15, 4), (15, 4), (15, 4),
  (6, 0), (17, 16), (15, 31), (15, 31), (15, 31), (15, 31), (15, 31), (15, 31), (15, 31), (15, 31), (15, 31), (15, 31), (15, 31), (15, 31), (15, 31), (15, 31), (15, 31), (15, 31), (17, 3), (15, 31), (15, 31), (15, 31),
  (3, 0), (15, 5), (15, 6), (15, 4), (15, 3), (15, 5), (15, 5), (9, 0), (0, 0), (2, 0), (1, 0), (15, 3), (15, 5),
  (13, 0), (14, 900), (15, 31), (15, 496), (15, 93), (15, 5), (15, 5), (15, 4), (15, 3), (15, 4), (15, 3), (15, 5), (16, 1)]
/-- the references that stay -/
def ref0 : List (Nat × List Nat) := [(0, [1, 3, 26, 42, 64, 71, 72, 73, 74]), (1, [2]), (3, [1, 4, 5, 6, 7, 8, 10, 11, 12]), (8, [9]), (13, [14, 15, 16, 17, 18, 19, 20, 21, 22, 23, 24, 25]), (26, [27]), (27, [28]), (29, [30, 31, 32, 33, 34, 35, 36, 37, 38, 39, 40, 41]),
  (42, [43, 60]), (43, [44, 45, 46, 47, 48, 49, 50, 51, 52, 53, 54, 55, 56, 57, 58, 59]), (60, [61, 62, 63]), (64, [26, 65, 66, 67, 68, 69, 70]), (71, [26]), (72, [26]), (73, [26]), (74, [26, 75, 76])]
/-- shapes and references: p the desk's plan, 42 - p the reader's -/
def CS (p : Nat) (q : (Nat → Nat → Option Nat) × List (Nat × Nat)) : Prop := (p = 13 ∨ p = 29) ∧ (∃ t, q.2 = shp0 ++ t) ∧ q.1 26 1 = some p ∧ q.1 3 9 = some (42 - p) ∧
  (∀ r ∈ ref0, ∀ (i b : Nat), r.2[i]? = some b → q.1 r.1 i = some b) ∧
  q.1 77 5 = some 78 ∧ q.1 77 15 = some 79 ∧ q.1 77 16 = some 80 ∧ q.1 77 17 = some 81 ∧ q.1 77 20 = some 82 ∧ q.1 77 21 = some 83 ∧ q.1 77 22 = some 84 ∧ q.1 77 23 = some 85 ∧ q.1 77 24 = some 86 ∧ q.1 77 28 = some 87 ∧ q.1 77 29 = some 88
theorem CS.sh {p : Nat} {q : (Nat → Nat → Option Nat) × List (Nat × Nat)} (C : CS p q) (k : Nat) {w : Nat × Nat} (hk : shp0[k]? = some w) : q.2[k]? = some w := by
  obtain ⟨t, ht⟩ := C.2.1
  rw [ht, List.getElem?_append_left (List.getElem?_eq_some_iff.mp hk).1]; exact hk
theorem CS.rf {p : Nat} {q : (Nat → Nat → Option Nat) × List (Nat × Nat)} (C : CS p q) (r : Nat) {w : Nat × List Nat} (hr : ref0[r]? = some w) {i b : Nat} (hi : w.2[i]? = some b) : q.1 w.1 i = some b :=
  C.2.2.2.2.1 w (List.mem_of_getElem? hr) i b hi
/-- plans' arrays -/
def capL : List Nat := [5, 5, 4, 4, 10, 10, 10, 3, 3, 4, 4, 4]
theorem CS.pl {p : Nat} {q : (Nat → Nat → Option Nat) × List (Nat × Nat)} (C : CS p q) : q.2[p]? = some (7, 0) := by
  rcases C.1 with rfl | rfl
  · exact C.sh 13 rfl
  · exact C.sh 29 rfl
theorem CS.plA {p : Nat} {q : (Nat → Nat → Option Nat) × List (Nat × Nat)} (C : CS p q) (t : Nat) (ht : t < 12) : q.1 p t = some (p + 1 + t) ∧ q.2[p + 1 + t]? = some (15, capL.getD t 0) := by
  rcases C.1 with rfl | rfl
  · rcases (show t = 0 ∨ t = 1 ∨ t = 2 ∨ t = 3 ∨ t = 4 ∨ t = 5 ∨ t = 6 ∨ t = 7 ∨ t = 8 ∨ t = 9 ∨ t = 10 ∨ t = 11 by omega) with rfl | rfl | rfl | rfl | rfl | rfl | rfl | rfl | rfl | rfl | rfl | rfl <;> exact ⟨C.rf 4 rfl rfl, C.sh _ rfl⟩
  · rcases (show t = 0 ∨ t = 1 ∨ t = 2 ∨ t = 3 ∨ t = 4 ∨ t = 5 ∨ t = 6 ∨ t = 7 ∨ t = 8 ∨ t = 9 ∨ t = 10 ∨ t = 11 by omega) with rfl | rfl | rfl | rfl | rfl | rfl | rfl | rfl | rfl | rfl | rfl | rfl <;> exact ⟨C.rf 7 rfl rfl, C.sh _ rfl⟩
