/-! ===== the questions, one behind the other ===== -/
section QUE
variable {p : Nat} {P : PT} {c : CT} {N : Nat → Int32} {f a m w : Nat} {h h1 h2 : MH} {t : Int32}
theorem c_isVerdictY {x : Int32} (g : inB x 3 = true) : fX11_isVerdict h x = some (1, h) := by rw [c_isVerdict, if_pos g]
theorem c_isVerdictN {x : Int32} (g : ¬ inB x 3 = true) : fX11_isVerdict h x = some (0, h) := by rw [c_isVerdict, if_neg g]
theorem m_isVerdictY {x : Int32} (g : inB x 3 = true) : fX13_isVerdict h x = some (1, h) := by rw [m_isVerdict, if_pos g]
theorem m_isVerdictN {x : Int32} (g : ¬ inB x 3 = true) : fX13_isVerdict h x = some (0, h) := by rw [m_isVerdict, if_neg g]
theorem c_deny (C : CD p P c N h) (v : Int32) : fX11_deny h 0 v = some (0, sI h 0 10 v) := by simp only [fX11_deny, pI_at (C.1.sh 0 rfl : h.2.2.2[0]? = _), bd_some]
theorem c_allow (C : CD p P c N h) : fX11_allow h 0 = some (1, sI h 0 10 0) := by simp only [fX11_allow, pI_at (C.1.sh 0 rfl : h.2.2.2[0]? = _), bd_some]
theorem c_latestOn (C : CD p P c N h) {i : Nat} (hi : i < 5) : fX4_latestOn h 27 (Int32.ofNat i) = some (N (5 + i), h) := by
  have e := C.cellA 5 (i := i) (by omega)
  simp only [fX4_latestOn, C.cells, bd_some]
  rw [show (5 : Int32) + Int32.ofNat i = Int32.ofNat 5 + Int32.ofNat i from rfl, e]; rfl
theorem c_inkOf (C : CD p P c N h) {i : Nat} (hi : i < 4) : fX4_inkOf h 27 (Int32.ofNat i) = some (N (10 + i), h) := by
  have e := C.cellA 10 (i := i) (by omega)
  simp only [fX4_inkOf, C.cells, bd_some]
  rw [show (10 : Int32) + Int32.ofNat i = Int32.ofNat 10 + Int32.ofNat i from rfl, e]; rfl
theorem c_byStamp (C : CD p P c N h) {i : Nat} (hi : i < 4) : fX4_pressesOfStamp h 27 (Int32.ofNat i) = some (N (14 + i), h) := by
  have e := C.cellA 14 (i := i) (by omega)
  simp only [fX4_pressesOfStamp, C.cells, bd_some]
  rw [show (14 : Int32) + Int32.ofNat i = Int32.ofNat 14 + Int32.ofNat i from rfl, e]; rfl
theorem c_byHand (C : CD p P c N h) {i : Nat} (hi : i < 3) : fX4_pressesOfHand h 27 (Int32.ofNat i) = some (N (28 + i), h) := by
  have e := C.cellA 28 (i := i) (by omega)
  simp only [fX4_pressesOfHand, C.cells, bd_some]
  rw [show (28 : Int32) + Int32.ofNat i = Int32.ofNat 28 + Int32.ofNat i from rfl, e]; rfl
theorem RR.of (R : RR p P c N f a m w h) (hs : h2.2 = h.2) (he : ∀ b k, (b < 64 ∨ (77 ≤ b ∧ b < 82) ∨ 89 ≤ b) → ¬ (b = 77 ∧ (k = 0 ∨ k = 25 ∨ k = 26 ∨ k = 27)) → h2.1 b k = h.1 b k) : RR p P c N f a m w h2 := by
  obtain ⟨r1, r2, r3, r4, r5, r6, r7, r8, r9, r10, r11, r12⟩ := R
  have e0 : ∀ b, b ≠ 77 → (b < 64 ∨ (77 ≤ b ∧ b < 82) ∨ 89 ≤ b) → h2.1 b = h.1 b := fun b q q1 => funext fun k => he b k q1 (by omega)
  have e22 : h2.2.2 = h.2.2 := by rw [hs]
  have t9 : h2.1 0 9 = h.1 0 9 := he 0 9 (by omega) (by omega)
  refine ⟨r1.same e22 (fun b k q1 q2 => he b k (by omega) (by omega)), r2, r3, r4.same e22 (fun b k q => he b k (by omega) (by omega)) t9, by rw [t9]; exact r5, ?_, ?_, ?_, ?_, ?_, by rw [t9]; exact r11, by rw [hs]; exact r12⟩
  · obtain ⟨p1, p2, p3, p4, p5, p6, p7, p8, p9, p10⟩ := r6
    refine ⟨p1, p2, p3, by rw [e0 42 (by omega) (by omega)]; exact p4, by rw [e0 42 (by omega) (by omega)]; exact p5, by rw [e0 42 (by omega) (by omega)]; exact p6,
      by rw [he 77 18 (by omega) (by omega)]; exact p7, by rw [he 77 19 (by omega) (by omega)]; exact p8, fun j hj => ?_, fun j hj => ?_⟩
    · rw [e0 80 (by omega) (by omega), e0 (44 + (f + 16 - a + j) % 16) (by omega) (by omega)]; exact p9 j hj
    · rw [e0 81 (by omega) (by omega), e0 (61 + j) (by omega) (by omega)]; exact p10 j hj
  · obtain ⟨p1, p2, p3, p4⟩ := r7
    refine ⟨p1, by rw [e0 1 (by omega) (by omega)]; exact p2, by rw [he 77 6 (by omega) (by omega)]; exact p3, fun i hi => ?_⟩
    rw [e0 2 (by omega) (by omega), e0 78 (by omega) (by omega)]; exact p4 i hi
  · rw [he 77 1 (by omega) (by omega), e0 0 (by omega) (by omega)]; exact r8
  · rw [he 77 2 (by omega) (by omega), e0 0 (by omega) (by omega)]; exact r9
  · rw [he 77 12 (by omega) (by omega), e0 0 (by omega) (by omega)]; exact r10
theorem RR.thr (R : RR p P c N f a m w h) (x : Int32) : RR p P c N f a m w (sI h 77 0 x) := R.of rfl (fun b k _ q => sI_ne (by omega))
theorem RR.ob0 (R : RR p P c N f a m w h) {α : Type} {F : Option (α × MH)} {G : MH → Option (α × MH)} (r : α) (e1 : F = some (r, h)) (e2 : G h = some (r, sI h 77 0 0)) : OB p P c N f a m w h F G :=
  ⟨r, _, _, e1, e2, R.thr 0, rfl⟩
theorem o_fault (R : RR p P c N f a m w h) : OB p P c N f a m w h (fX11_fault h 0) (fun h => fX13_fault h 77) := by
  have hs : h.2.2.2[77]? = some (13, 0) := R.cs.sh 77 rfl
  refine R.ob0 (h.1 0 11) ?_ ?_
  · simp only [fX11_fault, gI_at (R.cs.sh 0 rfl : h.2.2.2[0]? = _), bd_some]
  · simp only [fX13_fault, pI_at hs, gI_at (show (sI h 77 0 0).2.2.2[77]? = some (13, 0) from hs), bd_some]
    rw [sI_ne (by omega), R.2.2.2.2.2.2.2.2.2.1]
theorem o_trouble (R : RR p P c N f a m w h) : OB p P c N f a m w h (fX11_trouble h 0) (fun h => fX13_trouble h 77) := by
  have hs : h.2.2.2[77]? = some (13, 0) := R.cs.sh 77 rfl
  refine R.ob0 (h.1 0 10) ?_ ?_
  · simp only [fX11_trouble, gI_at (R.cs.sh 0 rfl : h.2.2.2[0]? = _), bd_some]
  · simp only [fX13_trouble, pI_at hs, gI_at (show (sI h 77 0 0).2.2.2[77]? = some (13, 0) from hs), bd_some]
    rw [sI_ne (by omega), R.2.2.2.2.2.2.2.1]
theorem o_where (R : RR p P c N f a m w h) : OB p P c N f a m w h (fX11_where h 0) (fun h => fX13_where h 77) := by
  have hs : h.2.2.2[77]? = some (13, 0) := R.cs.sh 77 rfl
  refine R.ob0 (if h.1 0 10 = 4 then h.1 0 12 else -1) ?_ ?_
  · simp only [fX11_where, gI_at (R.cs.sh 0 rfl : h.2.2.2[0]? = _), bd_some]
    by_cases q : h.1 0 10 = 4
    · simp only [if_pos q]
    · simp only [if_neg q]
  · simp only [fX13_where, pI_at hs, gI_at (show (sI h 77 0 0).2.2.2[77]? = some (13, 0) from hs), bd_some]
    rw [sI_ne (by omega), R.2.2.2.2.2.2.2.2.1]
theorem c_pressesSoFar (C : CD p P c N h) : fX4_pressesSoFar h 27 = some (0 + N 28 + N 29 + N 30, h) := by
  have e := lp0 (F := fun n k a => fX4_pressesSoFar_4 n h 27 a (Int32.ofNat k)) (fin := fun a => some (a, h)) (st := fun k a => a + N (28 + k)) (b := 3) (by decide)
    (fun n a => by
      show bX4_pressesSoFar_4 _ h 27 a (Int32.ofNat 3) = _
      unfold bX4_pressesSoFar_4
      rw [if_pos (show (3 : Int32) ≤ Int32.ofNat 3 from k_rfl 3)])
    (fun n k a hk => by
      have h1 : ¬ (3 : Int32) ≤ Int32.ofNat k := k_nle (b := 3) hk (by decide)
      show bX4_pressesSoFar_4 _ h 27 a (Int32.ofNat k) = _
      simp only [bX4_pressesSoFar_4, C.k4, c_byHand C hk, bd_some, bd2_some, if_neg h1, k_succ]) 0
  exact e
theorem m_pressedAll {o : Nat} (M : MM o P c N h) : fX13_pressedAll h 77 = some (0 + N 14 + N 15 + N 16 + N 17, h) := by
  have e := lp0 (F := fun n k a => fX13_pressedAll_4 n h 77 a (Int32.ofNat k)) (fin := fun a => some (a, h)) (st := fun k a => a + N (14 + k)) (b := 4) (by decide)
    (fun n a => by
      show bX13_pressedAll_4 _ h 77 a (Int32.ofNat 4) = _
      unfold bX13_pressedAll_4
      rw [if_pos (show (4 : Int32) ≤ Int32.ofNat 4 from k_rfl 4)])
    (fun n k a hk => by
      have h1 : ¬ (4 : Int32) ≤ Int32.ofNat k := k_nle (b := 4) hk (by decide)
      show bX13_pressedAll_4 _ h 77 a (Int32.ofNat k) = _
      simp only [bX13_pressedAll_4, M.v, M.pressed hk, bd_some, if_neg h1, k_succ]) 0
  exact e
theorem RR.m0 (R : RR p P c N f a m w h) : (∃ o, MM o P c N (sI h 77 0 0)) ∨ (h.2.2.1 77 3 = none ∧ (∀ t, c t = 0) ∧ N 28 + N 29 + N 30 = 0 ∧ a = 0 ∧ m = 0) := by
  rcases R.2.2.2.1 with ⟨q1, o, q2⟩ | ⟨q1, q2, q3, q4⟩
  · exact Or.inl ⟨o, q2.wr (by decide) (by decide)⟩
  · obtain ⟨q5, q6⟩ := R.2.2.2.2.1 q1
    exact Or.inr ⟨q2, q3, q4, q5, q6⟩
theorem o_size (R : RR p P c N f a m w h) (x : Int32) : OB p P c N f a m w h (fX11_size h 0 x) (fun h => fX13_size h 77 x) := by
  have C := R.1
  have hs : h.2.2.2[77]? = some (13, 0) := R.cs.sh 77 rfl
  have hs1 : (sI h 77 0 0).2.2.2[77]? = some (13, 0) := hs
  obtain ⟨p1, p2, p3, p4, p5, p6, p7, p8, p9, p10⟩ := R.2.2.2.2.2.1
  obtain ⟨w1, w2, w3, w4⟩ := R.2.2.2.2.2.2.1
  have hp : gI h 42 6 3 = some (Int32.ofNat a) := by rw [gI_at (C.1.sh 42 rfl), p5]
  have hm : gI h 42 6 4 = some (Int32.ofNat m) := by rw [gI_at (C.1.sh 42 rfl), p6]
  have ht : gI h 1 10 1 = some (Int32.ofNat w) := by rw [gI_at (C.1.sh 1 rfl), w2]
  have gp : gI (sI h 77 0 0) 77 13 18 = some (Int32.ofNat a) := by rw [gI_at hs1, sI_ne (by omega), p7]
  have gm : gI (sI h 77 0 0) 77 13 19 = some (Int32.ofNat m) := by rw [gI_at hs1, sI_ne (by omega), p8]
  have gt : gI (sI h 77 0 0) 77 13 6 = some (Int32.ofNat w) := by rw [gI_at hs1, sI_ne (by omega), w3]
  have hN := R.2.2.1
  have hsum : (0 : Int32) + N 28 + N 29 + N 30 = 0 + N 14 + N 15 + N 16 + N 17 := by rw [Int32.zero_add, Int32.zero_add]; exact hN.2.2.symm
  by_cases w11 : x = 11
  · subst w11
    refine R.ob0 (Int32.ofNat w) ?_ ?_
    · simp only [fX11_size, C.tap, ht, bd_some, if_true, show ((11 : Int32) = 0) = False by decide, show ((11 : Int32) = 1) = False by decide, show ((11 : Int32) = 2) = False by decide, show ((11 : Int32) = 3) = False by decide, show ((11 : Int32) = 4) = False by decide, show ((11 : Int32) = 5) = False by decide, show ((11 : Int32) = 6) = False by decide, show ((11 : Int32) = 7) = False by decide, show ((11 : Int32) = 8) = False by decide, show ((11 : Int32) = 9) = False by decide, show ((11 : Int32) = 10) = False by decide, if_false]
    · simp only [fX13_size, pI_at hs, gt, bd_some, if_true]
  by_cases wr : inB x 11 = true
  · obtain ⟨i, hi, rfl⟩ := inB_at (by decide) wr
    have r1 : ¬ Int32.ofNat i < 0 := k_neg (by omega)
    have r2 : ¬ (10 : Int32) < Int32.ofNat i := fun q => by have := (k_lt (i := 10) (by decide) (by omega)).mp q; omega
    rcases R.m0 with ⟨o, M⟩ | ⟨z1, z2, z3, z4, z5⟩
    · rcases (show i = 0 ∨ i = 1 ∨ i = 2 ∨ i = 3 ∨ i = 4 ∨ i = 5 ∨ i = 6 ∨ i = 7 ∨ i = 8 ∨ i = 9 ∨ i = 10 by omega) with rfl | rfl | rfl | rfl | rfl | rfl | rfl | rfl | rfl | rfl | rfl
      · refine R.ob0 (Int32.ofNat (c 0)) ?_ ?_
        · simp only [fX11_size, C.desk, C.plan, C.c0, bd_some, bd2_some, show ((Int32.ofNat 0 : Int32) = 0) = True from by decide, show ((Int32.ofNat 0 : Int32) = 1) = False from by decide, show ((Int32.ofNat 0 : Int32) = 2) = False from by decide, show ((Int32.ofNat 0 : Int32) = 3) = False from by decide, show ((Int32.ofNat 0 : Int32) = 4) = False from by decide, show ((Int32.ofNat 0 : Int32) = 5) = False from by decide, show ((Int32.ofNat 0 : Int32) = 6) = False from by decide, show ((Int32.ofNat 0 : Int32) = 7) = False from by decide, show ((Int32.ofNat 0 : Int32) = 8) = False from by decide, show ((Int32.ofNat 0 : Int32) = 9) = False from by decide, show ((Int32.ofNat 0 : Int32) = 10) = False from by decide, show ((Int32.ofNat 0 : Int32) = 11) = False from by decide, if_true, if_false]
        · simp only [fX13_size, pI_at hs, fX13_in, if_neg r1, if_neg r2, M.offZ, M.off, M.c0, bd_some, bd2_some, i10, bft, show ((Int32.ofNat 0 : Int32) = 0) = True from by decide, show ((Int32.ofNat 0 : Int32) = 1) = False from by decide, show ((Int32.ofNat 0 : Int32) = 2) = False from by decide, show ((Int32.ofNat 0 : Int32) = 3) = False from by decide, show ((Int32.ofNat 0 : Int32) = 4) = False from by decide, show ((Int32.ofNat 0 : Int32) = 5) = False from by decide, show ((Int32.ofNat 0 : Int32) = 6) = False from by decide, show ((Int32.ofNat 0 : Int32) = 7) = False from by decide, show ((Int32.ofNat 0 : Int32) = 8) = False from by decide, show ((Int32.ofNat 0 : Int32) = 9) = False from by decide, show ((Int32.ofNat 0 : Int32) = 10) = False from by decide, show ((Int32.ofNat 0 : Int32) = 11) = False from by decide, if_true, if_false]
      · refine R.ob0 (Int32.ofNat (c 1)) ?_ ?_
        · simp only [fX11_size, C.desk, C.plan, C.c1, bd_some, bd2_some, show ((Int32.ofNat 1 : Int32) = 0) = False from by decide, show ((Int32.ofNat 1 : Int32) = 1) = True from by decide, show ((Int32.ofNat 1 : Int32) = 2) = False from by decide, show ((Int32.ofNat 1 : Int32) = 3) = False from by decide, show ((Int32.ofNat 1 : Int32) = 4) = False from by decide, show ((Int32.ofNat 1 : Int32) = 5) = False from by decide, show ((Int32.ofNat 1 : Int32) = 6) = False from by decide, show ((Int32.ofNat 1 : Int32) = 7) = False from by decide, show ((Int32.ofNat 1 : Int32) = 8) = False from by decide, show ((Int32.ofNat 1 : Int32) = 9) = False from by decide, show ((Int32.ofNat 1 : Int32) = 10) = False from by decide, show ((Int32.ofNat 1 : Int32) = 11) = False from by decide, if_true, if_false]
        · simp only [fX13_size, pI_at hs, fX13_in, if_neg r1, if_neg r2, M.offZ, M.off, M.c1, bd_some, bd2_some, i10, bft, show ((Int32.ofNat 1 : Int32) = 0) = False from by decide, show ((Int32.ofNat 1 : Int32) = 1) = True from by decide, show ((Int32.ofNat 1 : Int32) = 2) = False from by decide, show ((Int32.ofNat 1 : Int32) = 3) = False from by decide, show ((Int32.ofNat 1 : Int32) = 4) = False from by decide, show ((Int32.ofNat 1 : Int32) = 5) = False from by decide, show ((Int32.ofNat 1 : Int32) = 6) = False from by decide, show ((Int32.ofNat 1 : Int32) = 7) = False from by decide, show ((Int32.ofNat 1 : Int32) = 8) = False from by decide, show ((Int32.ofNat 1 : Int32) = 9) = False from by decide, show ((Int32.ofNat 1 : Int32) = 10) = False from by decide, show ((Int32.ofNat 1 : Int32) = 11) = False from by decide, if_true, if_false]
      · refine R.ob0 (Int32.ofNat (c 2)) ?_ ?_
        · simp only [fX11_size, C.desk, C.plan, C.c2, bd_some, bd2_some, show ((Int32.ofNat 2 : Int32) = 0) = False from by decide, show ((Int32.ofNat 2 : Int32) = 1) = False from by decide, show ((Int32.ofNat 2 : Int32) = 2) = True from by decide, show ((Int32.ofNat 2 : Int32) = 3) = False from by decide, show ((Int32.ofNat 2 : Int32) = 4) = False from by decide, show ((Int32.ofNat 2 : Int32) = 5) = False from by decide, show ((Int32.ofNat 2 : Int32) = 6) = False from by decide, show ((Int32.ofNat 2 : Int32) = 7) = False from by decide, show ((Int32.ofNat 2 : Int32) = 8) = False from by decide, show ((Int32.ofNat 2 : Int32) = 9) = False from by decide, show ((Int32.ofNat 2 : Int32) = 10) = False from by decide, show ((Int32.ofNat 2 : Int32) = 11) = False from by decide, if_true, if_false]
        · simp only [fX13_size, pI_at hs, fX13_in, if_neg r1, if_neg r2, M.offZ, M.off, M.c2, bd_some, bd2_some, i10, bft, show ((Int32.ofNat 2 : Int32) = 0) = False from by decide, show ((Int32.ofNat 2 : Int32) = 1) = False from by decide, show ((Int32.ofNat 2 : Int32) = 2) = True from by decide, show ((Int32.ofNat 2 : Int32) = 3) = False from by decide, show ((Int32.ofNat 2 : Int32) = 4) = False from by decide, show ((Int32.ofNat 2 : Int32) = 5) = False from by decide, show ((Int32.ofNat 2 : Int32) = 6) = False from by decide, show ((Int32.ofNat 2 : Int32) = 7) = False from by decide, show ((Int32.ofNat 2 : Int32) = 8) = False from by decide, show ((Int32.ofNat 2 : Int32) = 9) = False from by decide, show ((Int32.ofNat 2 : Int32) = 10) = False from by decide, show ((Int32.ofNat 2 : Int32) = 11) = False from by decide, if_true, if_false]
      · refine R.ob0 (Int32.ofNat (c 3)) ?_ ?_
        · simp only [fX11_size, C.desk, C.plan, C.c3, bd_some, bd2_some, show ((Int32.ofNat 3 : Int32) = 0) = False from by decide, show ((Int32.ofNat 3 : Int32) = 1) = False from by decide, show ((Int32.ofNat 3 : Int32) = 2) = False from by decide, show ((Int32.ofNat 3 : Int32) = 3) = True from by decide, show ((Int32.ofNat 3 : Int32) = 4) = False from by decide, show ((Int32.ofNat 3 : Int32) = 5) = False from by decide, show ((Int32.ofNat 3 : Int32) = 6) = False from by decide, show ((Int32.ofNat 3 : Int32) = 7) = False from by decide, show ((Int32.ofNat 3 : Int32) = 8) = False from by decide, show ((Int32.ofNat 3 : Int32) = 9) = False from by decide, show ((Int32.ofNat 3 : Int32) = 10) = False from by decide, show ((Int32.ofNat 3 : Int32) = 11) = False from by decide, if_true, if_false]
        · simp only [fX13_size, pI_at hs, fX13_in, if_neg r1, if_neg r2, M.offZ, M.off, M.c3, bd_some, bd2_some, i10, bft, show ((Int32.ofNat 3 : Int32) = 0) = False from by decide, show ((Int32.ofNat 3 : Int32) = 1) = False from by decide, show ((Int32.ofNat 3 : Int32) = 2) = False from by decide, show ((Int32.ofNat 3 : Int32) = 3) = True from by decide, show ((Int32.ofNat 3 : Int32) = 4) = False from by decide, show ((Int32.ofNat 3 : Int32) = 5) = False from by decide, show ((Int32.ofNat 3 : Int32) = 6) = False from by decide, show ((Int32.ofNat 3 : Int32) = 7) = False from by decide, show ((Int32.ofNat 3 : Int32) = 8) = False from by decide, show ((Int32.ofNat 3 : Int32) = 9) = False from by decide, show ((Int32.ofNat 3 : Int32) = 10) = False from by decide, show ((Int32.ofNat 3 : Int32) = 11) = False from by decide, if_true, if_false]
      · refine R.ob0 (Int32.ofNat (c 4)) ?_ ?_
        · simp only [fX11_size, C.desk, C.plan, C.c4, bd_some, bd2_some, show ((Int32.ofNat 4 : Int32) = 0) = False from by decide, show ((Int32.ofNat 4 : Int32) = 1) = False from by decide, show ((Int32.ofNat 4 : Int32) = 2) = False from by decide, show ((Int32.ofNat 4 : Int32) = 3) = False from by decide, show ((Int32.ofNat 4 : Int32) = 4) = True from by decide, show ((Int32.ofNat 4 : Int32) = 5) = False from by decide, show ((Int32.ofNat 4 : Int32) = 6) = False from by decide, show ((Int32.ofNat 4 : Int32) = 7) = False from by decide, show ((Int32.ofNat 4 : Int32) = 8) = False from by decide, show ((Int32.ofNat 4 : Int32) = 9) = False from by decide, show ((Int32.ofNat 4 : Int32) = 10) = False from by decide, show ((Int32.ofNat 4 : Int32) = 11) = False from by decide, if_true, if_false]
        · simp only [fX13_size, pI_at hs, fX13_in, if_neg r1, if_neg r2, M.offZ, M.off, M.c4, bd_some, bd2_some, i10, bft, show ((Int32.ofNat 4 : Int32) = 0) = False from by decide, show ((Int32.ofNat 4 : Int32) = 1) = False from by decide, show ((Int32.ofNat 4 : Int32) = 2) = False from by decide, show ((Int32.ofNat 4 : Int32) = 3) = False from by decide, show ((Int32.ofNat 4 : Int32) = 4) = True from by decide, show ((Int32.ofNat 4 : Int32) = 5) = False from by decide, show ((Int32.ofNat 4 : Int32) = 6) = False from by decide, show ((Int32.ofNat 4 : Int32) = 7) = False from by decide, show ((Int32.ofNat 4 : Int32) = 8) = False from by decide, show ((Int32.ofNat 4 : Int32) = 9) = False from by decide, show ((Int32.ofNat 4 : Int32) = 10) = False from by decide, show ((Int32.ofNat 4 : Int32) = 11) = False from by decide, if_true, if_false]
      · refine R.ob0 (Int32.ofNat (c 5)) ?_ ?_
        · simp only [fX11_size, C.desk, C.plan, C.c5, bd_some, bd2_some, show ((Int32.ofNat 5 : Int32) = 0) = False from by decide, show ((Int32.ofNat 5 : Int32) = 1) = False from by decide, show ((Int32.ofNat 5 : Int32) = 2) = False from by decide, show ((Int32.ofNat 5 : Int32) = 3) = False from by decide, show ((Int32.ofNat 5 : Int32) = 4) = False from by decide, show ((Int32.ofNat 5 : Int32) = 5) = True from by decide, show ((Int32.ofNat 5 : Int32) = 6) = False from by decide, show ((Int32.ofNat 5 : Int32) = 7) = False from by decide, show ((Int32.ofNat 5 : Int32) = 8) = False from by decide, show ((Int32.ofNat 5 : Int32) = 9) = False from by decide, show ((Int32.ofNat 5 : Int32) = 10) = False from by decide, show ((Int32.ofNat 5 : Int32) = 11) = False from by decide, if_true, if_false]
        · simp only [fX13_size, pI_at hs, fX13_in, if_neg r1, if_neg r2, M.offZ, M.off, M.c5, bd_some, bd2_some, i10, bft, show ((Int32.ofNat 5 : Int32) = 0) = False from by decide, show ((Int32.ofNat 5 : Int32) = 1) = False from by decide, show ((Int32.ofNat 5 : Int32) = 2) = False from by decide, show ((Int32.ofNat 5 : Int32) = 3) = False from by decide, show ((Int32.ofNat 5 : Int32) = 4) = False from by decide, show ((Int32.ofNat 5 : Int32) = 5) = True from by decide, show ((Int32.ofNat 5 : Int32) = 6) = False from by decide, show ((Int32.ofNat 5 : Int32) = 7) = False from by decide, show ((Int32.ofNat 5 : Int32) = 8) = False from by decide, show ((Int32.ofNat 5 : Int32) = 9) = False from by decide, show ((Int32.ofNat 5 : Int32) = 10) = False from by decide, show ((Int32.ofNat 5 : Int32) = 11) = False from by decide, if_true, if_false]
      · refine R.ob0 (Int32.ofNat (c 6)) ?_ ?_
        · simp only [fX11_size, C.desk, C.plan, C.c6, bd_some, bd2_some, show ((Int32.ofNat 6 : Int32) = 0) = False from by decide, show ((Int32.ofNat 6 : Int32) = 1) = False from by decide, show ((Int32.ofNat 6 : Int32) = 2) = False from by decide, show ((Int32.ofNat 6 : Int32) = 3) = False from by decide, show ((Int32.ofNat 6 : Int32) = 4) = False from by decide, show ((Int32.ofNat 6 : Int32) = 5) = False from by decide, show ((Int32.ofNat 6 : Int32) = 6) = True from by decide, show ((Int32.ofNat 6 : Int32) = 7) = False from by decide, show ((Int32.ofNat 6 : Int32) = 8) = False from by decide, show ((Int32.ofNat 6 : Int32) = 9) = False from by decide, show ((Int32.ofNat 6 : Int32) = 10) = False from by decide, show ((Int32.ofNat 6 : Int32) = 11) = False from by decide, if_true, if_false]
        · simp only [fX13_size, pI_at hs, fX13_in, if_neg r1, if_neg r2, M.offZ, M.off, M.c6, bd_some, bd2_some, i10, bft, show ((Int32.ofNat 6 : Int32) = 0) = False from by decide, show ((Int32.ofNat 6 : Int32) = 1) = False from by decide, show ((Int32.ofNat 6 : Int32) = 2) = False from by decide, show ((Int32.ofNat 6 : Int32) = 3) = False from by decide, show ((Int32.ofNat 6 : Int32) = 4) = False from by decide, show ((Int32.ofNat 6 : Int32) = 5) = False from by decide, show ((Int32.ofNat 6 : Int32) = 6) = True from by decide, show ((Int32.ofNat 6 : Int32) = 7) = False from by decide, show ((Int32.ofNat 6 : Int32) = 8) = False from by decide, show ((Int32.ofNat 6 : Int32) = 9) = False from by decide, show ((Int32.ofNat 6 : Int32) = 10) = False from by decide, show ((Int32.ofNat 6 : Int32) = 11) = False from by decide, if_true, if_false]
      · refine R.ob0 (Int32.ofNat (c 7)) ?_ ?_
        · simp only [fX11_size, C.desk, C.plan, C.c7, bd_some, bd2_some, show ((Int32.ofNat 7 : Int32) = 0) = False from by decide, show ((Int32.ofNat 7 : Int32) = 1) = False from by decide, show ((Int32.ofNat 7 : Int32) = 2) = False from by decide, show ((Int32.ofNat 7 : Int32) = 3) = False from by decide, show ((Int32.ofNat 7 : Int32) = 4) = False from by decide, show ((Int32.ofNat 7 : Int32) = 5) = False from by decide, show ((Int32.ofNat 7 : Int32) = 6) = False from by decide, show ((Int32.ofNat 7 : Int32) = 7) = True from by decide, show ((Int32.ofNat 7 : Int32) = 8) = False from by decide, show ((Int32.ofNat 7 : Int32) = 9) = False from by decide, show ((Int32.ofNat 7 : Int32) = 10) = False from by decide, show ((Int32.ofNat 7 : Int32) = 11) = False from by decide, if_true, if_false]
        · simp only [fX13_size, pI_at hs, fX13_in, if_neg r1, if_neg r2, M.offZ, M.off, M.c7, bd_some, bd2_some, i10, bft, show ((Int32.ofNat 7 : Int32) = 0) = False from by decide, show ((Int32.ofNat 7 : Int32) = 1) = False from by decide, show ((Int32.ofNat 7 : Int32) = 2) = False from by decide, show ((Int32.ofNat 7 : Int32) = 3) = False from by decide, show ((Int32.ofNat 7 : Int32) = 4) = False from by decide, show ((Int32.ofNat 7 : Int32) = 5) = False from by decide, show ((Int32.ofNat 7 : Int32) = 6) = False from by decide, show ((Int32.ofNat 7 : Int32) = 7) = True from by decide, show ((Int32.ofNat 7 : Int32) = 8) = False from by decide, show ((Int32.ofNat 7 : Int32) = 9) = False from by decide, show ((Int32.ofNat 7 : Int32) = 10) = False from by decide, show ((Int32.ofNat 7 : Int32) = 11) = False from by decide, if_true, if_false]
      · refine R.ob0 (0 + N 28 + N 29 + N 30) ?_ ?_
        · simp only [fX11_size, C.desk, C.now, C.k4, c_pressesSoFar C, bd_some, bd2_some, show ((Int32.ofNat 8 : Int32) = 0) = False from by decide, show ((Int32.ofNat 8 : Int32) = 1) = False from by decide, show ((Int32.ofNat 8 : Int32) = 2) = False from by decide, show ((Int32.ofNat 8 : Int32) = 3) = False from by decide, show ((Int32.ofNat 8 : Int32) = 4) = False from by decide, show ((Int32.ofNat 8 : Int32) = 5) = False from by decide, show ((Int32.ofNat 8 : Int32) = 6) = False from by decide, show ((Int32.ofNat 8 : Int32) = 7) = False from by decide, show ((Int32.ofNat 8 : Int32) = 8) = True from by decide, show ((Int32.ofNat 8 : Int32) = 9) = False from by decide, show ((Int32.ofNat 8 : Int32) = 10) = False from by decide, show ((Int32.ofNat 8 : Int32) = 11) = False from by decide, if_true, if_false]
        · simp only [fX13_size, pI_at hs, fX13_in, if_neg r1, if_neg r2, M.offZ, M.k13, m_pressedAll M, hsum, bd_some, bd2_some, i10, bft, show ((Int32.ofNat 8 : Int32) = 0) = False from by decide, show ((Int32.ofNat 8 : Int32) = 1) = False from by decide, show ((Int32.ofNat 8 : Int32) = 2) = False from by decide, show ((Int32.ofNat 8 : Int32) = 3) = False from by decide, show ((Int32.ofNat 8 : Int32) = 4) = False from by decide, show ((Int32.ofNat 8 : Int32) = 5) = False from by decide, show ((Int32.ofNat 8 : Int32) = 6) = False from by decide, show ((Int32.ofNat 8 : Int32) = 7) = False from by decide, show ((Int32.ofNat 8 : Int32) = 8) = True from by decide, show ((Int32.ofNat 8 : Int32) = 9) = False from by decide, show ((Int32.ofNat 8 : Int32) = 10) = False from by decide, show ((Int32.ofNat 8 : Int32) = 11) = False from by decide, if_true, if_false]
      · refine R.ob0 (Int32.ofNat a) ?_ ?_
        · simp only [fX11_size, C.pst, hp, bd_some, bd2_some, show ((Int32.ofNat 9 : Int32) = 0) = False from by decide, show ((Int32.ofNat 9 : Int32) = 1) = False from by decide, show ((Int32.ofNat 9 : Int32) = 2) = False from by decide, show ((Int32.ofNat 9 : Int32) = 3) = False from by decide, show ((Int32.ofNat 9 : Int32) = 4) = False from by decide, show ((Int32.ofNat 9 : Int32) = 5) = False from by decide, show ((Int32.ofNat 9 : Int32) = 6) = False from by decide, show ((Int32.ofNat 9 : Int32) = 7) = False from by decide, show ((Int32.ofNat 9 : Int32) = 8) = False from by decide, show ((Int32.ofNat 9 : Int32) = 9) = True from by decide, show ((Int32.ofNat 9 : Int32) = 10) = False from by decide, show ((Int32.ofNat 9 : Int32) = 11) = False from by decide, if_true, if_false]
        · simp only [fX13_size, pI_at hs, fX13_in, if_neg r1, if_neg r2, M.offZ, gp, bd_some, bd2_some, i10, bft, show ((Int32.ofNat 9 : Int32) = 0) = False from by decide, show ((Int32.ofNat 9 : Int32) = 1) = False from by decide, show ((Int32.ofNat 9 : Int32) = 2) = False from by decide, show ((Int32.ofNat 9 : Int32) = 3) = False from by decide, show ((Int32.ofNat 9 : Int32) = 4) = False from by decide, show ((Int32.ofNat 9 : Int32) = 5) = False from by decide, show ((Int32.ofNat 9 : Int32) = 6) = False from by decide, show ((Int32.ofNat 9 : Int32) = 7) = False from by decide, show ((Int32.ofNat 9 : Int32) = 8) = False from by decide, show ((Int32.ofNat 9 : Int32) = 9) = True from by decide, show ((Int32.ofNat 9 : Int32) = 10) = False from by decide, show ((Int32.ofNat 9 : Int32) = 11) = False from by decide, if_true, if_false]
      · refine R.ob0 (Int32.ofNat m) ?_ ?_
        · simp only [fX11_size, C.pst, hm, bd_some, bd2_some, show ((Int32.ofNat 10 : Int32) = 0) = False from by decide, show ((Int32.ofNat 10 : Int32) = 1) = False from by decide, show ((Int32.ofNat 10 : Int32) = 2) = False from by decide, show ((Int32.ofNat 10 : Int32) = 3) = False from by decide, show ((Int32.ofNat 10 : Int32) = 4) = False from by decide, show ((Int32.ofNat 10 : Int32) = 5) = False from by decide, show ((Int32.ofNat 10 : Int32) = 6) = False from by decide, show ((Int32.ofNat 10 : Int32) = 7) = False from by decide, show ((Int32.ofNat 10 : Int32) = 8) = False from by decide, show ((Int32.ofNat 10 : Int32) = 9) = False from by decide, show ((Int32.ofNat 10 : Int32) = 10) = True from by decide, show ((Int32.ofNat 10 : Int32) = 11) = False from by decide, if_true, if_false]
        · simp only [fX13_size, pI_at hs, fX13_in, if_neg r1, if_neg r2, M.offZ, gm, bd_some, bd2_some, i10, bft, show ((Int32.ofNat 10 : Int32) = 0) = False from by decide, show ((Int32.ofNat 10 : Int32) = 1) = False from by decide, show ((Int32.ofNat 10 : Int32) = 2) = False from by decide, show ((Int32.ofNat 10 : Int32) = 3) = False from by decide, show ((Int32.ofNat 10 : Int32) = 4) = False from by decide, show ((Int32.ofNat 10 : Int32) = 5) = False from by decide, show ((Int32.ofNat 10 : Int32) = 6) = False from by decide, show ((Int32.ofNat 10 : Int32) = 7) = False from by decide, show ((Int32.ofNat 10 : Int32) = 8) = False from by decide, show ((Int32.ofNat 10 : Int32) = 9) = False from by decide, show ((Int32.ofNat 10 : Int32) = 10) = True from by decide, show ((Int32.ofNat 10 : Int32) = 11) = False from by decide, if_true, if_false]
    · have zs : gZ (sI h 77 0 0) 77 13 3 = some true := by rw [gZ_at hs1]; exact congrArg (fun q => some (Option.isNone q)) z1
      have z6 : ∀ t, Int32.ofNat (c t) = 0 := fun t => by rw [z2 t]; rfl
      refine R.ob0 0 ?_ ?_
      · rcases (show i = 0 ∨ i = 1 ∨ i = 2 ∨ i = 3 ∨ i = 4 ∨ i = 5 ∨ i = 6 ∨ i = 7 ∨ i = 8 ∨ i = 9 ∨ i = 10 by omega) with rfl | rfl | rfl | rfl | rfl | rfl | rfl | rfl | rfl | rfl | rfl
        · simp only [fX11_size, bd_some, bd2_some, show ((Int32.ofNat 0 : Int32) = 0) = True from by decide, show ((Int32.ofNat 0 : Int32) = 1) = False from by decide, show ((Int32.ofNat 0 : Int32) = 2) = False from by decide, show ((Int32.ofNat 0 : Int32) = 3) = False from by decide, show ((Int32.ofNat 0 : Int32) = 4) = False from by decide, show ((Int32.ofNat 0 : Int32) = 5) = False from by decide, show ((Int32.ofNat 0 : Int32) = 6) = False from by decide, show ((Int32.ofNat 0 : Int32) = 7) = False from by decide, show ((Int32.ofNat 0 : Int32) = 8) = False from by decide, show ((Int32.ofNat 0 : Int32) = 9) = False from by decide, show ((Int32.ofNat 0 : Int32) = 10) = False from by decide, show ((Int32.ofNat 0 : Int32) = 11) = False from by decide, if_true, if_false, C.desk, C.plan, C.c0, z6]
        · simp only [fX11_size, bd_some, bd2_some, show ((Int32.ofNat 1 : Int32) = 0) = False from by decide, show ((Int32.ofNat 1 : Int32) = 1) = True from by decide, show ((Int32.ofNat 1 : Int32) = 2) = False from by decide, show ((Int32.ofNat 1 : Int32) = 3) = False from by decide, show ((Int32.ofNat 1 : Int32) = 4) = False from by decide, show ((Int32.ofNat 1 : Int32) = 5) = False from by decide, show ((Int32.ofNat 1 : Int32) = 6) = False from by decide, show ((Int32.ofNat 1 : Int32) = 7) = False from by decide, show ((Int32.ofNat 1 : Int32) = 8) = False from by decide, show ((Int32.ofNat 1 : Int32) = 9) = False from by decide, show ((Int32.ofNat 1 : Int32) = 10) = False from by decide, show ((Int32.ofNat 1 : Int32) = 11) = False from by decide, if_true, if_false, C.desk, C.plan, C.c1, z6]
        · simp only [fX11_size, bd_some, bd2_some, show ((Int32.ofNat 2 : Int32) = 0) = False from by decide, show ((Int32.ofNat 2 : Int32) = 1) = False from by decide, show ((Int32.ofNat 2 : Int32) = 2) = True from by decide, show ((Int32.ofNat 2 : Int32) = 3) = False from by decide, show ((Int32.ofNat 2 : Int32) = 4) = False from by decide, show ((Int32.ofNat 2 : Int32) = 5) = False from by decide, show ((Int32.ofNat 2 : Int32) = 6) = False from by decide, show ((Int32.ofNat 2 : Int32) = 7) = False from by decide, show ((Int32.ofNat 2 : Int32) = 8) = False from by decide, show ((Int32.ofNat 2 : Int32) = 9) = False from by decide, show ((Int32.ofNat 2 : Int32) = 10) = False from by decide, show ((Int32.ofNat 2 : Int32) = 11) = False from by decide, if_true, if_false, C.desk, C.plan, C.c2, z6]
        · simp only [fX11_size, bd_some, bd2_some, show ((Int32.ofNat 3 : Int32) = 0) = False from by decide, show ((Int32.ofNat 3 : Int32) = 1) = False from by decide, show ((Int32.ofNat 3 : Int32) = 2) = False from by decide, show ((Int32.ofNat 3 : Int32) = 3) = True from by decide, show ((Int32.ofNat 3 : Int32) = 4) = False from by decide, show ((Int32.ofNat 3 : Int32) = 5) = False from by decide, show ((Int32.ofNat 3 : Int32) = 6) = False from by decide, show ((Int32.ofNat 3 : Int32) = 7) = False from by decide, show ((Int32.ofNat 3 : Int32) = 8) = False from by decide, show ((Int32.ofNat 3 : Int32) = 9) = False from by decide, show ((Int32.ofNat 3 : Int32) = 10) = False from by decide, show ((Int32.ofNat 3 : Int32) = 11) = False from by decide, if_true, if_false, C.desk, C.plan, C.c3, z6]
        · simp only [fX11_size, bd_some, bd2_some, show ((Int32.ofNat 4 : Int32) = 0) = False from by decide, show ((Int32.ofNat 4 : Int32) = 1) = False from by decide, show ((Int32.ofNat 4 : Int32) = 2) = False from by decide, show ((Int32.ofNat 4 : Int32) = 3) = False from by decide, show ((Int32.ofNat 4 : Int32) = 4) = True from by decide, show ((Int32.ofNat 4 : Int32) = 5) = False from by decide, show ((Int32.ofNat 4 : Int32) = 6) = False from by decide, show ((Int32.ofNat 4 : Int32) = 7) = False from by decide, show ((Int32.ofNat 4 : Int32) = 8) = False from by decide, show ((Int32.ofNat 4 : Int32) = 9) = False from by decide, show ((Int32.ofNat 4 : Int32) = 10) = False from by decide, show ((Int32.ofNat 4 : Int32) = 11) = False from by decide, if_true, if_false, C.desk, C.plan, C.c4, z6]
        · simp only [fX11_size, bd_some, bd2_some, show ((Int32.ofNat 5 : Int32) = 0) = False from by decide, show ((Int32.ofNat 5 : Int32) = 1) = False from by decide, show ((Int32.ofNat 5 : Int32) = 2) = False from by decide, show ((Int32.ofNat 5 : Int32) = 3) = False from by decide, show ((Int32.ofNat 5 : Int32) = 4) = False from by decide, show ((Int32.ofNat 5 : Int32) = 5) = True from by decide, show ((Int32.ofNat 5 : Int32) = 6) = False from by decide, show ((Int32.ofNat 5 : Int32) = 7) = False from by decide, show ((Int32.ofNat 5 : Int32) = 8) = False from by decide, show ((Int32.ofNat 5 : Int32) = 9) = False from by decide, show ((Int32.ofNat 5 : Int32) = 10) = False from by decide, show ((Int32.ofNat 5 : Int32) = 11) = False from by decide, if_true, if_false, C.desk, C.plan, C.c5, z6]
        · simp only [fX11_size, bd_some, bd2_some, show ((Int32.ofNat 6 : Int32) = 0) = False from by decide, show ((Int32.ofNat 6 : Int32) = 1) = False from by decide, show ((Int32.ofNat 6 : Int32) = 2) = False from by decide, show ((Int32.ofNat 6 : Int32) = 3) = False from by decide, show ((Int32.ofNat 6 : Int32) = 4) = False from by decide, show ((Int32.ofNat 6 : Int32) = 5) = False from by decide, show ((Int32.ofNat 6 : Int32) = 6) = True from by decide, show ((Int32.ofNat 6 : Int32) = 7) = False from by decide, show ((Int32.ofNat 6 : Int32) = 8) = False from by decide, show ((Int32.ofNat 6 : Int32) = 9) = False from by decide, show ((Int32.ofNat 6 : Int32) = 10) = False from by decide, show ((Int32.ofNat 6 : Int32) = 11) = False from by decide, if_true, if_false, C.desk, C.plan, C.c6, z6]
        · simp only [fX11_size, bd_some, bd2_some, show ((Int32.ofNat 7 : Int32) = 0) = False from by decide, show ((Int32.ofNat 7 : Int32) = 1) = False from by decide, show ((Int32.ofNat 7 : Int32) = 2) = False from by decide, show ((Int32.ofNat 7 : Int32) = 3) = False from by decide, show ((Int32.ofNat 7 : Int32) = 4) = False from by decide, show ((Int32.ofNat 7 : Int32) = 5) = False from by decide, show ((Int32.ofNat 7 : Int32) = 6) = False from by decide, show ((Int32.ofNat 7 : Int32) = 7) = True from by decide, show ((Int32.ofNat 7 : Int32) = 8) = False from by decide, show ((Int32.ofNat 7 : Int32) = 9) = False from by decide, show ((Int32.ofNat 7 : Int32) = 10) = False from by decide, show ((Int32.ofNat 7 : Int32) = 11) = False from by decide, if_true, if_false, C.desk, C.plan, C.c7, z6]
        · simp only [fX11_size, bd_some, bd2_some, show ((Int32.ofNat 8 : Int32) = 0) = False from by decide, show ((Int32.ofNat 8 : Int32) = 1) = False from by decide, show ((Int32.ofNat 8 : Int32) = 2) = False from by decide, show ((Int32.ofNat 8 : Int32) = 3) = False from by decide, show ((Int32.ofNat 8 : Int32) = 4) = False from by decide, show ((Int32.ofNat 8 : Int32) = 5) = False from by decide, show ((Int32.ofNat 8 : Int32) = 6) = False from by decide, show ((Int32.ofNat 8 : Int32) = 7) = False from by decide, show ((Int32.ofNat 8 : Int32) = 8) = True from by decide, show ((Int32.ofNat 8 : Int32) = 9) = False from by decide, show ((Int32.ofNat 8 : Int32) = 10) = False from by decide, show ((Int32.ofNat 8 : Int32) = 11) = False from by decide, if_true, if_false, C.desk, C.now, C.k4, c_pressesSoFar C, Int32.zero_add, z3]
        · simp only [fX11_size, bd_some, bd2_some, show ((Int32.ofNat 9 : Int32) = 0) = False from by decide, show ((Int32.ofNat 9 : Int32) = 1) = False from by decide, show ((Int32.ofNat 9 : Int32) = 2) = False from by decide, show ((Int32.ofNat 9 : Int32) = 3) = False from by decide, show ((Int32.ofNat 9 : Int32) = 4) = False from by decide, show ((Int32.ofNat 9 : Int32) = 5) = False from by decide, show ((Int32.ofNat 9 : Int32) = 6) = False from by decide, show ((Int32.ofNat 9 : Int32) = 7) = False from by decide, show ((Int32.ofNat 9 : Int32) = 8) = False from by decide, show ((Int32.ofNat 9 : Int32) = 9) = True from by decide, show ((Int32.ofNat 9 : Int32) = 10) = False from by decide, show ((Int32.ofNat 9 : Int32) = 11) = False from by decide, if_true, if_false, C.pst, hp, z4, show Int32.ofNat 0 = 0 from rfl]
        · simp only [fX11_size, bd_some, bd2_some, show ((Int32.ofNat 10 : Int32) = 0) = False from by decide, show ((Int32.ofNat 10 : Int32) = 1) = False from by decide, show ((Int32.ofNat 10 : Int32) = 2) = False from by decide, show ((Int32.ofNat 10 : Int32) = 3) = False from by decide, show ((Int32.ofNat 10 : Int32) = 4) = False from by decide, show ((Int32.ofNat 10 : Int32) = 5) = False from by decide, show ((Int32.ofNat 10 : Int32) = 6) = False from by decide, show ((Int32.ofNat 10 : Int32) = 7) = False from by decide, show ((Int32.ofNat 10 : Int32) = 8) = False from by decide, show ((Int32.ofNat 10 : Int32) = 9) = False from by decide, show ((Int32.ofNat 10 : Int32) = 10) = True from by decide, show ((Int32.ofNat 10 : Int32) = 11) = False from by decide, if_true, if_false, C.pst, hm, z5, show Int32.ofNat 0 = 0 from rfl]
      · simp only [fX13_size, pI_at hs, fX13_in, if_neg r1, if_neg r2, if_neg w11, zs, bd_some, bd2_some, i10, if_true, if_false]
  · refine R.ob0 (-1) ?_ ?_
    · have hx : ∀ j, j < 11 → ¬ x = Int32.ofNat j := fun j hj e => by
        subst e
        exact wr (inB_of (by decide) hj)
      have x0 : ¬ x = 0 := hx 0 (by decide)
      have x1 : ¬ x = 1 := hx 1 (by decide)
      have x2 : ¬ x = 2 := hx 2 (by decide)
      have x3 : ¬ x = 3 := hx 3 (by decide)
      have x4 : ¬ x = 4 := hx 4 (by decide)
      have x5 : ¬ x = 5 := hx 5 (by decide)
      have x6 : ¬ x = 6 := hx 6 (by decide)
      have x7 : ¬ x = 7 := hx 7 (by decide)
      have x8 : ¬ x = 8 := hx 8 (by decide)
      have x9 : ¬ x = 9 := hx 9 (by decide)
      have x10 : ¬ x = 10 := hx 10 (by decide)
      simp only [fX11_size, if_neg w11, if_neg x0, if_neg x1, if_neg x2, if_neg x3, if_neg x4, if_neg x5, if_neg x6, if_neg x7, if_neg x8, if_neg x9, if_neg x10]
    · have e : fX13_in (sI h 77 0 0) x 0 10 = some (0, sI h 77 0 0) := by
        unfold fX13_in
        by_cases q1 : x < 0
        · rw [if_pos q1]
        · by_cases q2 : (10 : Int32) < x
          · rw [if_neg q1, if_pos q2]
          · exfalso
            apply wr
            simp only [inB, Bool.and_eq_true, decide_eq_true_eq]
            refine ⟨q1, ?_⟩
            rw [Int32.lt_iff_toInt_lt] at q2 ⊢
            have e1 : (10 : Int32).toInt = 10 := by decide
            have e2 : (Int32.ofNat 11).toInt = 11 := by decide
            rw [e1] at q2
            rw [e2]
            omega
      simp only [fX13_size, pI_at hs, if_neg w11, e, bd_some, bd2_some, if_true]
theorem o_paper (R : RR p P c N f a m w h) (x y : Int32) : OB p P c N f a m w h (fX11_paper h 0 x y) (fun h => fX13_paper h 77 x y) := by
  have C := R.1
  have hq : ∀ t, ∃ p, CS p (sI (sI h 0 10 t) 77 0 0).2.2 := fun t => ⟨p, R.cs⟩
  have hk : ∀ t, ck (sI (sI h 0 10 t) 77 0 0) 77 13 = some () := fun t => ck_at (show (sI (sI h 0 10 t) 77 0 0).2.2.2[77]? = some (13, 0) from R.s1 t)
  by_cases g0 : inB x (c 2) = true
  rotate_left
  · refine R.ob1 (-1) 1 (by decide) ?_ ?_
    · simp only [fX11_paper, C.desk, C.k5, C.k11, C.plan, C.now, C.k4, C.k7, c_hasPaperN C g0, c_refuse C, bd_some, bd2_some, i10, i00, if_false, if_true]
    · simp only [fX13_paper, pI_at (R.s1 1), hk 1, q_isPaperN (R.q1 1) (hq 1) g0, m_refused (R.s1 1), bd_some, bd2_some, i10, i00, if_false, if_true]
  by_cases g1a : y < 0
  · refine R.ob1 (-1) 1 (by decide) ?_ ?_
    · simp only [fX11_paper, C.desk, C.k5, C.k11, C.plan, C.now, C.k4, C.k7, c_hasPaperY C g0, if_pos g1a, c_refuse C, bd_some, bd2_some, i10, i00, if_false, if_true]
    · simp only [fX13_paper, pI_at (R.s1 1), hk 1, q_isPaperY (R.q1 1) (hq 1) g0, fX13_in, if_pos g1a, m_refused (R.s1 1), bd_some, bd2_some, i10, i00, if_false, if_true]
  by_cases g1b : y ≤ 3
  rotate_left
  · refine R.ob1 (-1) 1 (by decide) ?_ ?_
    · simp only [fX11_paper, C.desk, C.k5, C.k11, C.plan, C.now, C.k4, C.k7, c_hasPaperY C g0, if_neg g1a, if_neg g1b, c_refuse C, bd_some, bd2_some, i10, i00, if_false, if_true]
    · simp only [fX13_paper, pI_at (R.s1 1), hk 1, q_isPaperY (R.q1 1) (hq 1) g0, fX13_in, if_neg g1a, if_pos (Int32.not_le.mp g1b), m_refused (R.s1 1), bd_some, bd2_some, i10, i00, if_false, if_true]
  obtain ⟨i, hi, rfl⟩ := inB_at (C.b31 2 (by decide)) g0
  obtain ⟨o, M⟩ := R.m1 0 (k := 2) (by omega)
  have hp5 := C.p5
  have hs4 := C.s4
  have hr10 := C.r10
  have hh3 := C.h3
  have hW := R.2.1
  have hN := R.2.2.1
  have hg := m_good1 (R.s1 0)
  by_cases w0 : y = 0
  · refine R.ob1 (P 0 i) 0 (by decide) ?_ ?_
    · simp only [fX11_paper, C.desk, C.k5, C.k11, C.plan, C.now, C.k4, C.k7, c_hasPaperY C g0, if_neg g1a, if_pos g1b, if_pos w0, C.t0, C.a0 hi, c_answer C, bd_some, bd2_some, i10, i00, if_false, if_true]
    · simp only [fX13_paper, pI_at (R.s1 0), hk 0, q_isPaperY (R.q1 0) (hq 0) g0, fX13_in, if_neg g1a, if_neg (Int32.not_lt.mpr g1b), if_pos w0, M.off, M.t0, M.a0 hi, hg, bd_some, bd2_some, i10, i00, if_false, if_true]
  by_cases w1 : y = 1
  · refine R.ob1 (N i) 0 (by decide) ?_ ?_
    · simp only [fX11_paper, C.desk, C.k5, C.k11, C.plan, C.now, C.k4, C.k7, c_hasPaperY C g0, if_neg g1a, if_pos g1b, if_neg w0, if_pos w1, c_marksOf C (show i < 5 by omega), c_answer C, bd_some, bd2_some, i10, i00, if_false, if_true]
    · simp only [fX13_paper, pI_at (R.s1 0), hk 0, q_isPaperY (R.q1 0) (hq 0) g0, fX13_in, if_neg g1a, if_neg (Int32.not_lt.mpr g1b), if_neg w0, if_pos w1, M.v, M.marks (show i < 5 by omega), hg, bd_some, bd2_some, i10, i00, if_false, if_true]
  by_cases w2 : y = 2
  · refine R.ob1 (P 1 i) 0 (by decide) ?_ ?_
    · simp only [fX11_paper, C.desk, C.k5, C.k11, C.plan, C.now, C.k4, C.k7, c_hasPaperY C g0, if_neg g1a, if_pos g1b, if_neg w0, if_neg w1, if_pos w2, C.t1, C.a1 hi, c_answer C, bd_some, bd2_some, i10, i00, if_false, if_true]
    · simp only [fX13_paper, pI_at (R.s1 0), hk 0, q_isPaperY (R.q1 0) (hq 0) g0, fX13_in, if_neg g1a, if_neg (Int32.not_lt.mpr g1b), if_neg w0, if_neg w1, if_pos w2, M.off, M.t1, M.a1 hi, hg, bd_some, bd2_some, i10, i00, if_false, if_true]
  refine R.ob1 (N (5 + i)) 0 (by decide) ?_ ?_
  · simp only [fX11_paper, C.desk, C.k5, C.k11, C.plan, C.now, C.k4, C.k7, c_hasPaperY C g0, if_neg g1a, if_pos g1b, if_neg w0, if_neg w1, if_neg w2, c_latestOn C (show i < 5 by omega), c_answer C, bd_some, bd2_some, i10, i00, if_false, if_true]
  · simp only [fX13_paper, pI_at (R.s1 0), hk 0, q_isPaperY (R.q1 0) (hq 0) g0, fX13_in, if_neg g1a, if_neg (Int32.not_lt.mpr g1b), if_neg w0, if_neg w1, if_neg w2, M.v, M.latest (show i < 5 by omega), hg, bd_some, bd2_some, i10, i00, if_false, if_true]
theorem m_stampL' {o : Nat} (M : MM o P c N h) (s x : Int32) : fX13_stamp_33 FU h 77 s x 0 0 = bX13_stamp_33 (fun _ _ _ _ _ _ => none) h 77 s x (lp (stC (bRul P s)) (c 4) 0 0) (Int32.ofNat (c 4)) := m_stampL M s x
theorem o_stamp (R : RR p P c N f a m w h) (x y : Int32) : OB p P c N f a m w h (fX11_stamp h 0 x y) (fun h => fX13_stamp h 77 x y) := by
  have C := R.1
  have hq : ∀ t, ∃ p, CS p (sI (sI h 0 10 t) 77 0 0).2.2 := fun t => ⟨p, R.cs⟩
  have hk : ∀ t, ck (sI (sI h 0 10 t) 77 0 0) 77 13 = some () := fun t => ck_at (show (sI (sI h 0 10 t) 77 0 0).2.2.2[77]? = some (13, 0) from R.s1 t)
  by_cases g0 : inB x (c 3) = true
  rotate_left
  · refine R.ob1 (-1) 1 (by decide) ?_ ?_
    · simp only [fX11_stamp, C.desk, C.k5, C.k11, C.plan, C.now, C.k4, C.k7, c_hasStampN C g0, c_refuse C, bd_some, bd2_some, i10, i00, if_false, if_true]
    · simp only [fX13_stamp, pI_at (R.s1 1), hk 1, q_isStampN (R.q1 1) (hq 1) g0, m_refused (R.s1 1), bd_some, bd2_some, i10, i00, if_false, if_true]
  by_cases g1a : y < 0
  · refine R.ob1 (-1) 1 (by decide) ?_ ?_
    · simp only [fX11_stamp, C.desk, C.k5, C.k11, C.plan, C.now, C.k4, C.k7, c_hasStampY C g0, if_pos g1a, c_refuse C, bd_some, bd2_some, i10, i00, if_false, if_true]
    · simp only [fX13_stamp, pI_at (R.s1 1), hk 1, q_isStampY (R.q1 1) (hq 1) g0, fX13_in, if_pos g1a, m_refused (R.s1 1), bd_some, bd2_some, i10, i00, if_false, if_true]
  by_cases g1b : y ≤ 4
  rotate_left
  · refine R.ob1 (-1) 1 (by decide) ?_ ?_
    · simp only [fX11_stamp, C.desk, C.k5, C.k11, C.plan, C.now, C.k4, C.k7, c_hasStampY C g0, if_neg g1a, if_neg g1b, c_refuse C, bd_some, bd2_some, i10, i00, if_false, if_true]
    · simp only [fX13_stamp, pI_at (R.s1 1), hk 1, q_isStampY (R.q1 1) (hq 1) g0, fX13_in, if_neg g1a, if_pos (Int32.not_le.mp g1b), m_refused (R.s1 1), bd_some, bd2_some, i10, i00, if_false, if_true]
  obtain ⟨i, hi, rfl⟩ := inB_at (C.b31 3 (by decide)) g0
  obtain ⟨o, M⟩ := R.m1 0 (k := 3) (by omega)
  have hp5 := C.p5
  have hs4 := C.s4
  have hr10 := C.r10
  have hh3 := C.h3
  have hW := R.2.1
  have hN := R.2.2.1
  have hg := m_good1 (R.s1 0)
  by_cases w0 : y = 0
  · refine R.ob1 (N (10 + i)) 0 (by decide) ?_ ?_
    · simp only [fX11_stamp, C.desk, C.k5, C.k11, C.plan, C.now, C.k4, C.k7, c_hasStampY C g0, if_neg g1a, if_pos g1b, if_pos w0, c_inkOf C (show i < 4 by omega), c_answer C, bd_some, bd2_some, i10, i00, if_false, if_true]
    · simp only [fX13_stamp, pI_at (R.s1 0), hk 0, q_isStampY (R.q1 0) (hq 0) g0, fX13_in, if_neg g1a, if_neg (Int32.not_lt.mpr g1b), if_pos w0, m_stampL' M, M.off, M.c4, if_pos (k_rfl _), bX13_stamp_33, M.v, M.ink (show i < 4 by omega), hg, bd_some, bd2_some, i10, i00, if_false, if_true]
  by_cases w1 : y = 1
  · refine R.ob1 (P 2 i) 0 (by decide) ?_ ?_
    · simp only [fX11_stamp, C.desk, C.k5, C.k11, C.plan, C.now, C.k4, C.k7, c_hasStampY C g0, if_neg g1a, if_pos g1b, if_neg w0, if_pos w1, C.t2, C.a2 hi, c_answer C, bd_some, bd2_some, i10, i00, if_false, if_true]
    · simp only [fX13_stamp, pI_at (R.s1 0), hk 0, q_isStampY (R.q1 0) (hq 0) g0, fX13_in, if_neg g1a, if_neg (Int32.not_lt.mpr g1b), if_neg w0, if_pos w1, m_stampL' M, M.off, M.c4, if_pos (k_rfl _), bX13_stamp_33, M.t2, M.a2 hi, hg, bd_some, bd2_some, i10, i00, if_false, if_true]
  by_cases w2 : y = 2
  · refine R.ob1 (P 3 i) 0 (by decide) ?_ ?_
    · simp only [fX11_stamp, C.desk, C.k5, C.k11, C.plan, C.now, C.k4, C.k7, c_hasStampY C g0, if_neg g1a, if_pos g1b, if_neg w0, if_neg w1, if_pos w2, C.t3, C.a3 hi, c_answer C, bd_some, bd2_some, i10, i00, if_false, if_true]
    · simp only [fX13_stamp, pI_at (R.s1 0), hk 0, q_isStampY (R.q1 0) (hq 0) g0, fX13_in, if_neg g1a, if_neg (Int32.not_lt.mpr g1b), if_neg w0, if_neg w1, if_pos w2, m_stampL' M, M.off, M.c4, if_pos (k_rfl _), bX13_stamp_33, M.t3, M.a3 hi, hg, bd_some, bd2_some, i10, i00, if_false, if_true]
  by_cases w3 : y = 3
  · refine R.ob1 (lp (stC (bRul P (Int32.ofNat i))) (c 4) 0 0) 0 (by decide) ?_ ?_
    · simp only [fX11_stamp, C.desk, C.k5, C.k11, C.plan, C.now, C.k4, C.k7, c_hasStampY C g0, if_neg g1a, if_pos g1b, if_neg w0, if_neg w1, if_neg w2, if_pos w3, c_rulesOf C, c_answer C, bd_some, bd2_some, i10, i00, if_false, if_true]
    · simp only [fX13_stamp, pI_at (R.s1 0), hk 0, q_isStampY (R.q1 0) (hq 0) g0, fX13_in, if_neg g1a, if_neg (Int32.not_lt.mpr g1b), if_neg w0, if_neg w1, if_neg w2, if_pos w3, m_stampL' M, M.off, M.c4, if_pos (k_rfl _), bX13_stamp_33, hg, bd_some, bd2_some, i10, i00, if_false, if_true]
  refine R.ob1 (N (14 + i)) 0 (by decide) ?_ ?_
  · simp only [fX11_stamp, C.desk, C.k5, C.k11, C.plan, C.now, C.k4, C.k7, c_hasStampY C g0, if_neg g1a, if_pos g1b, if_neg w0, if_neg w1, if_neg w2, if_neg w3, c_byStamp C (show i < 4 by omega), c_answer C, bd_some, bd2_some, i10, i00, if_false, if_true]
  · simp only [fX13_stamp, pI_at (R.s1 0), hk 0, q_isStampY (R.q1 0) (hq 0) g0, fX13_in, if_neg g1a, if_neg (Int32.not_lt.mpr g1b), if_neg w0, if_neg w1, if_neg w2, if_neg w3, m_stampL' M, M.off, M.c4, if_pos (k_rfl _), bX13_stamp_33, M.v, M.pressed (show i < 4 by omega), hg, bd_some, bd2_some, i10, i00, if_false, if_true]
theorem o_hand (R : RR p P c N f a m w h) (x y : Int32) : OB p P c N f a m w h (fX11_hand h 0 x y) (fun h => fX13_hand h 77 x y) := by
  have C := R.1
  have hq : ∀ t, ∃ p, CS p (sI (sI h 0 10 t) 77 0 0).2.2 := fun t => ⟨p, R.cs⟩
  have hk : ∀ t, ck (sI (sI h 0 10 t) 77 0 0) 77 13 = some () := fun t => ck_at (show (sI (sI h 0 10 t) 77 0 0).2.2.2[77]? = some (13, 0) from R.s1 t)
  by_cases g0 : inB x (c 5) = true
  rotate_left
  · refine R.ob1 (-1) 1 (by decide) ?_ ?_
    · simp only [fX11_hand, C.desk, C.k5, C.k11, C.plan, C.now, C.k4, C.k7, c_hasHandN C g0, c_refuse C, bd_some, bd2_some, i10, i00, if_false, if_true]
    · simp only [fX13_hand, pI_at (R.s1 1), hk 1, q_isHandN (R.q1 1) (hq 1) g0, m_refused (R.s1 1), bd_some, bd2_some, i10, i00, if_false, if_true]
  by_cases g1a : y < 0
  · refine R.ob1 (-1) 1 (by decide) ?_ ?_
    · simp only [fX11_hand, C.desk, C.k5, C.k11, C.plan, C.now, C.k4, C.k7, c_hasHandY C g0, if_pos g1a, c_refuse C, bd_some, bd2_some, i10, i00, if_false, if_true]
    · simp only [fX13_hand, pI_at (R.s1 1), hk 1, q_isHandY (R.q1 1) (hq 1) g0, fX13_in, if_pos g1a, m_refused (R.s1 1), bd_some, bd2_some, i10, i00, if_false, if_true]
  by_cases g1b : y ≤ 2
  rotate_left
  · refine R.ob1 (-1) 1 (by decide) ?_ ?_
    · simp only [fX11_hand, C.desk, C.k5, C.k11, C.plan, C.now, C.k4, C.k7, c_hasHandY C g0, if_neg g1a, if_neg g1b, c_refuse C, bd_some, bd2_some, i10, i00, if_false, if_true]
    · simp only [fX13_hand, pI_at (R.s1 1), hk 1, q_isHandY (R.q1 1) (hq 1) g0, fX13_in, if_neg g1a, if_pos (Int32.not_le.mp g1b), m_refused (R.s1 1), bd_some, bd2_some, i10, i00, if_false, if_true]
  obtain ⟨i, hi, rfl⟩ := inB_at (C.b31 5 (by decide)) g0
  obtain ⟨o, M⟩ := R.m1 0 (k := 5) (by omega)
  have hp5 := C.p5
  have hs4 := C.s4
  have hr10 := C.r10
  have hh3 := C.h3
  have hW := R.2.1
  have hN := R.2.2.1
  have hg := m_good1 (R.s1 0)
  by_cases w0 : y = 0
  · refine R.ob1 (P 7 i) 0 (by decide) ?_ ?_
    · simp only [fX11_hand, C.desk, C.k5, C.k11, C.plan, C.now, C.k4, C.k7, c_hasHandY C g0, if_neg g1a, if_pos g1b, if_pos w0, C.t7, C.a7 hi, c_answer C, bd_some, bd2_some, i10, i00, if_false, if_true]
    · simp only [fX13_hand, pI_at (R.s1 0), hk 0, q_isHandY (R.q1 0) (hq 0) g0, fX13_in, if_neg g1a, if_neg (Int32.not_lt.mpr g1b), if_pos w0, M.off, M.t7, M.a7 hi, hg, bd_some, bd2_some, i10, i00, if_false, if_true]
  by_cases w1 : y = 1
  · refine R.ob1 (P 8 i) 0 (by decide) ?_ ?_
    · simp only [fX11_hand, C.desk, C.k5, C.k11, C.plan, C.now, C.k4, C.k7, c_hasHandY C g0, if_neg g1a, if_pos g1b, if_neg w0, if_pos w1, C.t8, C.a8 hi, c_answer C, bd_some, bd2_some, i10, i00, if_false, if_true]
    · simp only [fX13_hand, pI_at (R.s1 0), hk 0, q_isHandY (R.q1 0) (hq 0) g0, fX13_in, if_neg g1a, if_neg (Int32.not_lt.mpr g1b), if_neg w0, if_pos w1, M.off, M.t8, M.a8 hi, hg, bd_some, bd2_some, i10, i00, if_false, if_true]
  refine R.ob1 (N (28 + i)) 0 (by decide) ?_ ?_
  · simp only [fX11_hand, C.desk, C.k5, C.k11, C.plan, C.now, C.k4, C.k7, c_hasHandY C g0, if_neg g1a, if_pos g1b, if_neg w0, if_neg w1, c_byHand C (show i < 3 by omega), c_answer C, bd_some, bd2_some, i10, i00, if_false, if_true]
  · simp only [fX13_hand, pI_at (R.s1 0), hk 0, q_isHandY (R.q1 0) (hq 0) g0, fX13_in, if_neg g1a, if_neg (Int32.not_lt.mpr g1b), if_neg w0, if_neg w1, M.v, M.handed (show i < 3 by omega), hg, bd_some, bd2_some, i10, i00, if_false, if_true]
theorem o_rule (R : RR p P c N f a m w h) (x y : Int32) : OB p P c N f a m w h (fX11_rule h 0 x y) (fun h => fX13_rule h 77 x y) := by
  have C := R.1
  have hq : ∀ t, ∃ p, CS p (sI (sI h 0 10 t) 77 0 0).2.2 := fun t => ⟨p, R.cs⟩
  have hk : ∀ t, ck (sI (sI h 0 10 t) 77 0 0) 77 13 = some () := fun t => ck_at (show (sI (sI h 0 10 t) 77 0 0).2.2.2[77]? = some (13, 0) from R.s1 t)
  by_cases g0 : inB x (c 4) = true
  rotate_left
  · refine R.ob1 (-1) 1 (by decide) ?_ ?_
    · simp only [fX11_rule, C.desk, C.k5, C.k11, C.plan, C.now, C.k4, C.k7, c_hasRuleN C g0, c_refuse C, bd_some, bd2_some, i10, i00, if_false, if_true]
    · simp only [fX13_rule, pI_at (R.s1 1), hk 1, q_isRuleN (R.q1 1) (hq 1) g0, m_refused (R.s1 1), bd_some, bd2_some, i10, i00, if_false, if_true]
  by_cases g1a : y < 0
  · refine R.ob1 (-1) 1 (by decide) ?_ ?_
    · simp only [fX11_rule, C.desk, C.k5, C.k11, C.plan, C.now, C.k4, C.k7, c_hasRuleY C g0, if_pos g1a, c_refuse C, bd_some, bd2_some, i10, i00, if_false, if_true]
    · simp only [fX13_rule, pI_at (R.s1 1), hk 1, q_isRuleY (R.q1 1) (hq 1) g0, fX13_in, if_pos g1a, m_refused (R.s1 1), bd_some, bd2_some, i10, i00, if_false, if_true]
  by_cases g1b : y ≤ 3
  rotate_left
  · refine R.ob1 (-1) 1 (by decide) ?_ ?_
    · simp only [fX11_rule, C.desk, C.k5, C.k11, C.plan, C.now, C.k4, C.k7, c_hasRuleY C g0, if_neg g1a, if_neg g1b, c_refuse C, bd_some, bd2_some, i10, i00, if_false, if_true]
    · simp only [fX13_rule, pI_at (R.s1 1), hk 1, q_isRuleY (R.q1 1) (hq 1) g0, fX13_in, if_neg g1a, if_pos (Int32.not_le.mp g1b), m_refused (R.s1 1), bd_some, bd2_some, i10, i00, if_false, if_true]
  obtain ⟨i, hi, rfl⟩ := inB_at (C.b31 4 (by decide)) g0
  obtain ⟨o, M⟩ := R.m1 0 (k := 4) (by omega)
  have hp5 := C.p5
  have hs4 := C.s4
  have hr10 := C.r10
  have hh3 := C.h3
  have hW := R.2.1
  have hN := R.2.2.1
  have hg := m_good1 (R.s1 0)
  by_cases w0 : y = 0
  · refine R.ob1 (P 4 i) 0 (by decide) ?_ ?_
    · simp only [fX11_rule, C.desk, C.k5, C.k11, C.plan, C.now, C.k4, C.k7, c_hasRuleY C g0, if_neg g1a, if_pos g1b, if_pos w0, C.t4, C.a4 hi, c_answer C, bd_some, bd2_some, i10, i00, if_false, if_true]
    · simp only [fX13_rule, pI_at (R.s1 0), hk 0, q_isRuleY (R.q1 0) (hq 0) g0, fX13_in, if_neg g1a, if_neg (Int32.not_lt.mpr g1b), if_pos w0, M.off, M.t4, M.a4 hi, hg, bd_some, bd2_some, i10, i00, if_false, if_true]
  by_cases w1 : y = 1
  · refine R.ob1 (P 5 i) 0 (by decide) ?_ ?_
    · simp only [fX11_rule, C.desk, C.k5, C.k11, C.plan, C.now, C.k4, C.k7, c_hasRuleY C g0, if_neg g1a, if_pos g1b, if_neg w0, if_pos w1, C.t5, C.a5 hi, c_answer C, bd_some, bd2_some, i10, i00, if_false, if_true]
    · simp only [fX13_rule, pI_at (R.s1 0), hk 0, q_isRuleY (R.q1 0) (hq 0) g0, fX13_in, if_neg g1a, if_neg (Int32.not_lt.mpr g1b), if_neg w0, if_pos w1, M.off, M.t5, M.a5 hi, hg, bd_some, bd2_some, i10, i00, if_false, if_true]
  by_cases w2 : y = 2
  · refine R.ob1 (P 6 i) 0 (by decide) ?_ ?_
    · simp only [fX11_rule, C.desk, C.k5, C.k11, C.plan, C.now, C.k4, C.k7, c_hasRuleY C g0, if_neg g1a, if_pos g1b, if_neg w0, if_neg w1, if_pos w2, C.t6, C.a6 hi, c_answer C, bd_some, bd2_some, i10, i00, if_false, if_true]
    · simp only [fX13_rule, pI_at (R.s1 0), hk 0, q_isRuleY (R.q1 0) (hq 0) g0, fX13_in, if_neg g1a, if_neg (Int32.not_lt.mpr g1b), if_neg w0, if_neg w1, if_pos w2, M.off, M.t6, M.a6 hi, hg, bd_some, bd2_some, i10, i00, if_false, if_true]
  refine R.ob1 (N (18 + i)) 0 (by decide) ?_ ?_
  · simp only [fX11_rule, C.desk, C.k5, C.k11, C.plan, C.now, C.k4, C.k7, c_hasRuleY C g0, if_neg g1a, if_pos g1b, if_neg w0, if_neg w1, if_neg w2, c_verdictOf C (show i < 10 by omega), c_answer C, bd_some, bd2_some, i10, i00, if_false, if_true]
  · simp only [fX13_rule, pI_at (R.s1 0), hk 0, q_isRuleY (R.q1 0) (hq 0) g0, fX13_in, if_neg g1a, if_neg (Int32.not_lt.mpr g1b), if_neg w0, if_neg w1, if_neg w2, M.v, M.said (show i < 10 by omega), hg, bd_some, bd2_some, i10, i00, if_false, if_true]
theorem o_byRule (R : RR p P c N f a m w h) (x y : Int32) : OB p P c N f a m w h (fX11_byRule h 0 x y) (fun h => fX13_byRule h 77 x y) := by
  have C := R.1
  have hq : ∀ t, ∃ p, CS p (sI (sI h 0 10 t) 77 0 0).2.2 := fun t => ⟨p, R.cs⟩
  have hk : ∀ t, ck (sI (sI h 0 10 t) 77 0 0) 77 13 = some () := fun t => ck_at (show (sI (sI h 0 10 t) 77 0 0).2.2.2[77]? = some (13, 0) from R.s1 t)
  by_cases g0 : inB x (c 3) = true
  rotate_left
  · refine R.ob1 (-1) 1 (by decide) ?_ ?_
    · simp only [fX11_byRule, C.desk, C.k5, C.k11, C.plan, C.now, C.k4, C.k7, c_hasStampN C g0, c_refuse C, bd_some, bd2_some, i10, i00, if_false, if_true]
    · simp only [fX13_byRule, pI_at (R.s1 1), hk 1, q_isStampN (R.q1 1) (hq 1) g0, m_refused (R.s1 1), bd_some, bd2_some, i10, i00, if_false, if_true]
  by_cases g1 : inB y (c 2) = true
  rotate_left
  · refine R.ob1 (-1) 1 (by decide) ?_ ?_
    · simp only [fX11_byRule, C.desk, C.k5, C.k11, C.plan, C.now, C.k4, C.k7, c_hasStampY C g0, c_hasPaperN C g1, c_refuse C, bd_some, bd2_some, i10, i00, if_false, if_true]
    · simp only [fX13_byRule, pI_at (R.s1 1), hk 1, q_isStampY (R.q1 1) (hq 1) g0, q_isPaperN (R.q1 1) (hq 1) g1, m_refused (R.s1 1), bd_some, bd2_some, i10, i00, if_false, if_true]
  obtain ⟨s, hs, rfl⟩ := inB_at (C.b31 3 (by decide)) g0
  obtain ⟨i, hi, rfl⟩ := inB_at (C.b31 2 (by decide)) g1
  obtain ⟨o, M⟩ := R.m1 0 (k := 3) (by omega)
  have hp5 := C.p5
  have hs4 := C.s4
  have hr10 := C.r10
  have hh3 := C.h3
  have hW := R.2.1
  have hN := R.2.2.1
  have hg := m_good1 (R.s1 0)
  refine R.ob1 (oI (frO P c (Int32.ofNat s) (N i))) 0 (by decide) ?_ ?_
  · simp only [fX11_byRule, C.desk, C.k5, C.k11, C.plan, C.now, C.k4, C.k7, c_hasStampY C g0, c_hasPaperY C g1, c_marksOf C (show i < 5 by omega), c_firstRule C, c_answer C, bd_some, bd2_some, i10, i00, if_false, if_true]
  · simp only [fX13_byRule, pI_at (R.s1 0), hk 0, q_isStampY (R.q1 0) (hq 0) g0, q_isPaperY (R.q1 0) (hq 0) g1, M.v, M.marks (show i < 5 by omega), m_ruleFor M hW, hg, bd_some, bd2_some, i10, i00, if_false, if_true]
theorem o_prints (R : RR p P c N f a m w h) (x y z : Int32) : OB p P c N f a m w h (fX11_prints h 0 x y z) (fun h => fX13_prints h 77 x y z) := by
  have C := R.1
  have hq : ∀ t, ∃ p, CS p (sI (sI h 0 10 t) 77 0 0).2.2 := fun t => ⟨p, R.cs⟩
  have hk : ∀ t, ck (sI (sI h 0 10 t) 77 0 0) 77 13 = some () := fun t => ck_at (show (sI (sI h 0 10 t) 77 0 0).2.2.2[77]? = some (13, 0) from R.s1 t)
  by_cases g0 : inB x (c 3) = true
  rotate_left
  · refine R.ob1 (-1) 1 (by decide) ?_ ?_
    · simp only [fX11_prints, fX5_hasAll, C.desk, C.k5, C.k11, C.plan, C.now, C.k4, C.k7, c_hasStampN C g0, c_refuse C, bd_some, bd2_some, i10, i00, if_false, if_true]
    · simp only [fX13_prints, pI_at (R.s1 1), hk 1, q_isStampN (R.q1 1) (hq 1) g0, m_refused (R.s1 1), bd_some, bd2_some, i10, i00, if_false, if_true]
  by_cases g1 : inB y (c 5) = true
  rotate_left
  · refine R.ob1 (-1) 1 (by decide) ?_ ?_
    · simp only [fX11_prints, fX5_hasAll, C.desk, C.k5, C.k11, C.plan, C.now, C.k4, C.k7, c_hasStampY C g0, c_hasHandN C g1, c_refuse C, bd_some, bd2_some, i10, i00, if_false, if_true]
    · simp only [fX13_prints, pI_at (R.s1 1), hk 1, q_isStampY (R.q1 1) (hq 1) g0, q_isHandN (R.q1 1) (hq 1) g1, m_refused (R.s1 1), bd_some, bd2_some, i10, i00, if_false, if_true]
  by_cases g2 : inB z (c 2) = true
  rotate_left
  · refine R.ob1 (-1) 1 (by decide) ?_ ?_
    · simp only [fX11_prints, fX5_hasAll, C.desk, C.k5, C.k11, C.plan, C.now, C.k4, C.k7, c_hasStampY C g0, c_hasHandY C g1, c_hasPaperN C g2, c_refuse C, bd_some, bd2_some, i10, i00, if_false, if_true]
    · simp only [fX13_prints, pI_at (R.s1 1), hk 1, q_isStampY (R.q1 1) (hq 1) g0, q_isHandY (R.q1 1) (hq 1) g1, q_isPaperN (R.q1 1) (hq 1) g2, m_refused (R.s1 1), bd_some, bd2_some, i10, i00, if_false, if_true]
  obtain ⟨s, hs, rfl⟩ := inB_at (C.b31 3 (by decide)) g0
  obtain ⟨j, hj, rfl⟩ := inB_at (C.b31 5 (by decide)) g1
  obtain ⟨i, hi, rfl⟩ := inB_at (C.b31 2 (by decide)) g2
  obtain ⟨o, M⟩ := R.m1 0 (k := 3) (by omega)
  have hp5 := C.p5
  have hs4 := C.s4
  have hr10 := C.r10
  have hh3 := C.h3
  have hW := R.2.1
  have hN := R.2.2.1
  have hg := m_good1 (R.s1 0)
  refine R.ob1 (prK (P 7 j) (sayN P c N s i)) 0 (by decide) ?_ ?_
  · simp only [fX11_prints, fX5_hasAll, C.desk, C.k5, C.k11, C.plan, C.now, C.k4, C.k7, c_hasStampY C g0, c_hasHandY C g1, c_hasPaperY C g2, c_sayOn C hs hi, c_printBy C hj, c_answer C, bd_some, bd2_some, i10, i00, if_false, if_true]
  · simp only [fX13_prints, pI_at (R.s1 0), hk 0, q_isStampY (R.q1 0) (hq 0) g0, q_isHandY (R.q1 0) (hq 0) g1, q_isPaperY (R.q1 0) (hq 0) g2, m_saysNow M hW hs hi, m_printsBy M hj (sayN_VD hW hN hs i), hg, bd_some, bd2_some, i10, i00, if_false, if_true]
end QUE
