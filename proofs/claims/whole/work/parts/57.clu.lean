/-! ===== undo, image, back, feed ===== -/
section CLU
variable {p : Nat} {P : PT} {c : CT} {N N' : Nat → Int32} {f a m w f' a' m' : Nat} {h h1 h2 hA hB hC hD : MH} {t : Int32} {o : Nat}
theorem CD.cells' (C : CD p P c N h) (e2 : h1.2.2 = h.2.2) (e : ∀ b k, 13 ≤ b → b < 42 → b ≠ 28 → h1.1 b k = h.1 b k) (n : ∀ i, i < 31 → h1.1 28 i = N' i) : CD p P c N' h1 := by
  obtain ⟨c1, c2, c3, c4, c5⟩ := C
  have hp := c1.1
  refine ⟨by rw [e2]; exact c1, c2, fun t ht => ?_, fun t i ht hi => ?_, n⟩
  · rw [e p _ (by omega) (by omega) (by omega)]; exact c3 t ht
  · rw [e (p + 1 + t) _ (by omega) (by omega) (by omega)]; exact c4 t i ht hi
theorem MM.cells' (M : MM o P c N h) (e2 : h1.2.2 = h.2.2) (e : ∀ b k, 90 ≤ b → h1.1 b k = h.1 b k) (v : vRow (h1.1 79) N') : MM o P c N' h1 := by
  obtain ⟨c1, c2, c3, c4, c5, c6, c7⟩ := M
  have ho := c2.1
  refine ⟨by rw [e2]; exact c1, by rw [e2]; exact c2, by rw [e2]; exact c3, c4, fun t ht => ?_, fun t i ht hi => ?_, v⟩
  · rw [e o _ (by omega)]; exact c5 t ht
  · rw [e _ _ (by omega)]; exact c6 t i ht hi
/-- the model's row is given what stands in another -/
theorem m_undoL (M : MM o P c N h) {a : Nat} (ha : a < 16) (e18 : h.1 77 18 = Int32.ofNat a) : fX13_undo_38 FU h 77 0 = some (1, sI (sI (cpO h 79 0 (fun y => h.1 80 (31 * a + y)) 31) 77 1 0) 77 2 (-1)) := by
  obtain ⟨pp, S⟩ := M.1
  have s80 : h.2.2.2[80]? = some (15, 496) := S.sh 80 rfl
  have r80 : h.2.2.1 77 16 = some 80 := S.2.2.2.2.2.2.2.1
  have r79 : h.2.2.1 77 15 = some 79 := S.2.2.2.2.2.2.1
  have i31 : ∀ k : Nat, (31 : Int32) * Int32.ofNat a + Int32.ofNat k = Int32.ofNat (31 * a + k) := fun k => by
    rw [show (31 : Int32) = Int32.ofNat 31 from rfl, k_mul, k_add]
  have e := lp0 (F := fun n k (_ : Unit) => fX13_undo_38 n (cpO h 79 0 (fun y => h.1 80 (31 * a + y)) k) 77 (Int32.ofNat k)) (fin := fun _ => some (1, sI (sI (cpO h 79 0 (fun y => h.1 80 (31 * a + y)) 31) 77 1 0) 77 2 (-1))) (st := fun _ a => a) (b := 31) (by decide)
    (fun n _ => by
      have s77 : (cpO h 79 0 (fun y => h.1 80 (31 * a + y)) 31).2.2.2[77]? = some (13, 0) := M.s77
      show bX13_undo_38 _ _ 77 (Int32.ofNat 31) = _
      unfold bX13_undo_38
      rw [if_pos (show (31 : Int32) ≤ Int32.ofNat 31 from k_rfl 31), ck_at s77, bd_some, m_granted s77, bd2_some, rB1])
    (fun n k _ hk => by
      have h1 : ¬ (31 : Int32) ≤ Int32.ofNat k := k_nle (b := 31) hk (by decide)
      have s77 : (cpO h 79 0 (fun y => h.1 80 (31 * a + y)) k).2.2.2[77]? = some (13, 0) := M.s77
      have g18 : gI (cpO h 79 0 (fun y => h.1 80 (31 * a + y)) k) 77 13 18 = some (Int32.ofNat a) := by rw [gI_at s77, cpO_out (by omega), e18]
      have g16 : gR (cpO h 79 0 (fun y => h.1 80 (31 * a + y)) k) 77 13 16 = some 80 := gR_at s77 r80
      have g15 : gR (cpO h 79 0 (fun y => h.1 80 (31 * a + y)) k) 77 13 15 = some 79 := gR_at s77 r79
      have l1 : lI (cpO h 79 0 (fun y => h.1 80 (31 * a + y)) k) 80 (Int32.ofNat (31 * a + k)) = some (h.1 80 (31 * a + k)) := by rw [lI_at (show (cpO h 79 0 (fun y => h.1 80 (31 * a + y)) k).2.2.2[80]? = some (15, 496) from s80) (by omega) (by decide), cpO_out (by omega)]
      have t1 : tI (cpO h 79 0 (fun y => h.1 80 (31 * a + y)) k) 79 (Int32.ofNat k) (h.1 80 (31 * a + k)) = some (cpO h 79 0 (fun y => h.1 80 (31 * a + y)) (k + 1)) := by
        rw [tI_at (show (cpO h 79 0 (fun y => h.1 80 (31 * a + y)) k).2.2.2[79]? = some (15, 31) from M.s79) hk (by decide)]
        have := cpO_s (h := h) (b := 79) (d := 0) (f := fun y => h.1 80 (31 * a + y)) (k := k) rfl
        rw [Nat.zero_add] at this; rw [this]
      show bX13_undo_38 _ _ 77 (Int32.ofNat k) = _
      simp only [bX13_undo_38, if_neg h1, g16, g18, g15, i31, l1, t1, bd_some, k_succ]) ()
  rw [cpO_0] at e
  exact e
theorem m_backL (M : MM o P c N h) {i : Nat} (hi : i < 3) : fX13_back_32 FU h 77 (Int32.ofNat i) 0 = some (1, sI (sI (sI (cpO h 79 0 (fun y => h.1 81 (31 * i + y)) 31) 77 18 0) 77 1 0) 77 2 (-1)) := by
  obtain ⟨pp, S⟩ := M.1
  have s81 : h.2.2.2[81]? = some (15, 93) := S.sh 81 rfl
  have r81 : h.2.2.1 77 17 = some 81 := S.2.2.2.2.2.2.2.2.1
  have r79 : h.2.2.1 77 15 = some 79 := S.2.2.2.2.2.2.1
  have i31 : ∀ k : Nat, (31 : Int32) * Int32.ofNat i + Int32.ofNat k = Int32.ofNat (31 * i + k) := fun k => by
    rw [show (31 : Int32) = Int32.ofNat 31 from rfl, k_mul, k_add]
  have e := lp0 (F := fun n k (_ : Unit) => fX13_back_32 n (cpO h 79 0 (fun y => h.1 81 (31 * i + y)) k) 77 (Int32.ofNat i) (Int32.ofNat k)) (fin := fun _ => some (1, sI (sI (sI (cpO h 79 0 (fun y => h.1 81 (31 * i + y)) 31) 77 18 0) 77 1 0) 77 2 (-1))) (st := fun _ a => a) (b := 31) (by decide)
    (fun n _ => by
      have s77 : (cpO h 79 0 (fun y => h.1 81 (31 * i + y)) 31).2.2.2[77]? = some (13, 0) := M.s77
      have s77' : (sI (cpO h 79 0 (fun y => h.1 81 (31 * i + y)) 31) 77 18 0).2.2.2[77]? = some (13, 0) := M.s77
      show bX13_back_32 _ _ 77 _ (Int32.ofNat 31) = _
      unfold bX13_back_32
      rw [if_pos (show (31 : Int32) ≤ Int32.ofNat 31 from k_rfl 31), pI_at s77, bd_some, ck_at s77', bd_some, m_granted s77', bd2_some, rB1])
    (fun n k _ hk => by
      have h1 : ¬ (31 : Int32) ≤ Int32.ofNat k := k_nle (b := 31) hk (by decide)
      have s77 : (cpO h 79 0 (fun y => h.1 81 (31 * i + y)) k).2.2.2[77]? = some (13, 0) := M.s77
      have g16 : gR (cpO h 79 0 (fun y => h.1 81 (31 * i + y)) k) 77 13 17 = some 81 := gR_at s77 r81
      have g15 : gR (cpO h 79 0 (fun y => h.1 81 (31 * i + y)) k) 77 13 15 = some 79 := gR_at s77 r79
      have l1 : lI (cpO h 79 0 (fun y => h.1 81 (31 * i + y)) k) 81 (Int32.ofNat (31 * i + k)) = some (h.1 81 (31 * i + k)) := by rw [lI_at (show (cpO h 79 0 (fun y => h.1 81 (31 * i + y)) k).2.2.2[81]? = some (15, 93) from s81) (by omega) (by decide), cpO_out (by omega)]
      have t1 : tI (cpO h 79 0 (fun y => h.1 81 (31 * i + y)) k) 79 (Int32.ofNat k) (h.1 81 (31 * i + k)) = some (cpO h 79 0 (fun y => h.1 81 (31 * i + y)) (k + 1)) := by
        rw [tI_at (show (cpO h 79 0 (fun y => h.1 81 (31 * i + y)) k).2.2.2[79]? = some (15, 31) from M.s79) hk (by decide)]
        have := cpO_s (h := h) (b := 79) (d := 0) (f := fun y => h.1 81 (31 * i + y)) (k := k) rfl
        rw [Nat.zero_add] at this; rw [this]
      show bX13_back_32 _ _ 77 _ (Int32.ofNat k) = _
      simp only [bX13_back_32, if_neg h1, g16, g15, i31, l1, t1, bd_some, k_succ]) ()
  rw [cpO_0] at e
  exact e
theorem m_imageL (M : MM o P c N h) {i : Nat} (hi : i < 3) (e19 : h.1 77 19 = Int32.ofNat i) : fX13_image_34 FU h 77 0 = some (Int32.ofNat i, sI (sI (sI (cpO h 81 (31 * i) (h.1 79) 31) 77 19 (Int32.ofNat (i + 1))) 77 1 0) 77 2 (-1)) := by
  obtain ⟨pp, S⟩ := M.1
  have s81 : h.2.2.2[81]? = some (15, 93) := S.sh 81 rfl
  have r81 : h.2.2.1 77 17 = some 81 := S.2.2.2.2.2.2.2.2.1
  have r79 : h.2.2.1 77 15 = some 79 := S.2.2.2.2.2.2.1
  have i31 : ∀ k : Nat, (31 : Int32) * Int32.ofNat i + Int32.ofNat k = Int32.ofNat (31 * i + k) := fun k => by
    rw [show (31 : Int32) = Int32.ofNat 31 from rfl, k_mul, k_add]
  have e := lp0 (F := fun n k (_ : Unit) => fX13_image_34 n (cpO h 81 (31 * i) (h.1 79) k) 77 (Int32.ofNat k)) (fin := fun _ => some (Int32.ofNat i, sI (sI (sI (cpO h 81 (31 * i) (h.1 79) 31) 77 19 (Int32.ofNat (i + 1))) 77 1 0) 77 2 (-1))) (st := fun _ a => a) (b := 31) (by decide)
    (fun n _ => by
      have s77 : (cpO h 81 (31 * i) (h.1 79) 31).2.2.2[77]? = some (13, 0) := M.s77
      have s77' : (sI (cpO h 81 (31 * i) (h.1 79) 31) 77 19 (Int32.ofNat (i + 1))).2.2.2[77]? = some (13, 0) := M.s77
      have g19 : gI (cpO h 81 (31 * i) (h.1 79) 31) 77 13 19 = some (Int32.ofNat i) := by rw [gI_at s77, cpO_out (by omega), e19]
      have es : Int32.ofNat (i + 1) - 1 = Int32.ofNat i := sub1 (x := i + 1) (by omega)
      show bX13_image_34 _ _ 77 (Int32.ofNat 31) = _
      unfold bX13_image_34
      rw [if_pos (show (31 : Int32) ≤ Int32.ofNat 31 from k_rfl 31), g19, bd_some, k_succ, pI_at s77, bd_some, gI_at s77', sI_eq, bd_some, ck_at s77', bd_some, es, m_goodX s77', bd2_some])
    (fun n k _ hk => by
      have h1 : ¬ (31 : Int32) ≤ Int32.ofNat k := k_nle (b := 31) hk (by decide)
      have s77 : (cpO h 81 (31 * i) (h.1 79) k).2.2.2[77]? = some (13, 0) := M.s77
      have g19 : gI (cpO h 81 (31 * i) (h.1 79) k) 77 13 19 = some (Int32.ofNat i) := by rw [gI_at s77, cpO_out (by omega), e19]
      have g16 : gR (cpO h 81 (31 * i) (h.1 79) k) 77 13 17 = some 81 := gR_at s77 r81
      have g15 : gR (cpO h 81 (31 * i) (h.1 79) k) 77 13 15 = some 79 := gR_at s77 r79
      have l1 : lI (cpO h 81 (31 * i) (h.1 79) k) 79 (Int32.ofNat k) = some (h.1 79 k) := by rw [lI_at (show (cpO h 81 (31 * i) (h.1 79) k).2.2.2[79]? = some (15, 31) from M.s79) hk (by decide), cpO_out (by omega)]
      have t1 : tI (cpO h 81 (31 * i) (h.1 79) k) 81 (Int32.ofNat (31 * i + k)) (h.1 79 k) = some (cpO h 81 (31 * i) (h.1 79) (k + 1)) := by
        rw [tI_at (show (cpO h 81 (31 * i) (h.1 79) k).2.2.2[81]? = some (15, 93) from s81) (by omega) (by decide), cpO_s rfl]
      show bX13_image_34 _ _ 77 (Int32.ofNat k) = _
      simp only [bX13_image_34, if_neg h1, g16, g19, g15, l1, i31, t1, bd_some, k_succ]) ()
  rw [cpO_0] at e
  exact e
def pf (f : Nat) : Nat := if f = 0 then 15 else f - 1
theorem a_undo (R : RR p P c N f a m w h) : CL h (fX11_undo h 0) (fun h => fX13_undo h 77) := by
  have C := R.1
  have hk : ∀ t, ck (sI (sI h 0 10 t) 77 0 0) 77 13 = some () := fun t => ck_at (show (sI (sI h 0 10 t) 77 0 0).2.2.2[77]? = some (13, 0) from R.s1 t)
  obtain ⟨p1, p2, p3, p4, p5, p6, p7, p8, p9, p10⟩ := R.2.2.2.2.2.1
  have s42 : h.2.2.2[42]? = some (6, 0) := C.1.sh 42 rfl
  have g3 : gI h 42 6 3 = some (Int32.ofNat a) := by rw [gI_at s42, p5]
  rcases Nat.eq_zero_or_pos a with ha | ha
  · refine OB.cl (R.ob1 0 6 (by decide) ?_ ?_)
    · have e0 : ¬ (0 : Int32) < Int32.ofNat a := by rw [ha]; decide
      simp only [fX11_undo, C.pst, g3, if_neg e0, C.k11, c_deny C, bd_some, bd2_some, i10, i00, if_false, if_true, rB0, rB1]
    · rcases R.op with ⟨q9, o, M1⟩ | ⟨q9, gz⟩
      · have g18 : gI (sI (sI h 0 10 6) 77 0 0) 77 13 18 = some 0 := by rw [gI_at (M1 6).s77, sI_ne (by omega), sI_ne (by omega), p7, ha]; rfl
        simp only [fX13_undo, pI_at (R.s1 6), hk 6, (M1 6).offZ, bft, g18, fX13_denied, m_refused (R.s1 6), bd_some, bd2_some, i10, i00, if_false, if_true, rB0, rB1]
      · simp only [fX13_undo, pI_at (R.s1 6), hk 6, gz 6, btt, fX13_denied, m_refused (R.s1 6), bd_some, bd2_some, i10, i00, if_false, if_true, rB0, rB1]
  obtain ⟨q9, oo, Mo⟩ : h.1 0 9 = 1 ∧ ∃ o, MM o P c N h := by
    rcases R.2.2.2.1 with ⟨q1, o, q2⟩ | ⟨q1, q2, q3, q4⟩
    · exact ⟨q1, o, q2⟩
    · have := (R.2.2.2.2.1 q1).1; omega
  have hpf : pf f < 16 := by unfold pf; split <;> omega
  obtain ⟨rw1, rw2⟩ := C.1.row hpf
  have hidx : (f + 16 - a + (a - 1)) % 16 = pf f := by unfold pf; split <;> omega
  obtain ⟨V, W⟩ := p9 (a - 1) (by omega)
  rw [hidx] at V W
  have e1 : (0 : Int32) < Int32.ofNat a := (k_lt (i := 0) (by decide) (by omega)).mpr ha
  have g2 : gI h 42 6 2 = some (Int32.ofNat f) := by rw [gI_at s42, p4]
  have s43 : h.2.2.2[43]? = some (17, 16) := C.1.sh 43 rfl
  have r43 : h.2.2.1 42 0 = some 43 := C.1.rf 8 rfl rfl
  -- the class
  have C1 : CD p P c N (sI h 42 2 (Int32.ofNat (pf f))) := C.same2 rfl (fun b k q1 q2 => sI_ne (by omega))
  have cc := c_copyFrom C1 (b := 44 + pf f) (by omega) rw2
  have erow : ∀ i, (sI h 42 2 (Int32.ofNat (pf f))).1 (44 + pf f) i = h.1 (44 + pf f) i := fun i => sI_ne (by omega)
  generalize hX : cpO (sI h 42 2 (Int32.ofNat (pf f))) 28 0 ((sI h 42 2 (Int32.ofNat (pf f))).1 (44 + pf f)) 31 = X at cc
  have xs : X.2 = h.2 := by rw [← hX]; rfl
  have xo : ∀ b k, b ≠ 28 → ¬ (b = 42 ∧ k = 2) → X.1 b k = h.1 b k := fun b k q1 q2 => by rw [← hX, cpO_out (by omega), sI_ne (by omega)]
  have xn : ∀ i, i < 31 → X.1 28 i = h.1 (44 + pf f) i := fun i hi => by
    rw [← hX]
    have := cpO_in (h := sI h 42 2 (Int32.ofNat (pf f))) (b := 28) (d := 0) (f := (sI h 42 2 (Int32.ofNat (pf f))).1 (44 + pf f)) (k := 31) hi
    rw [Nat.zero_add] at this; rw [this, erow]
  have x2 : X.1 42 2 = Int32.ofNat (pf f) := by rw [← hX, cpO_out (by omega), sI_eq]
  have s42X : X.2.2.2[42]? = some (6, 0) := by rw [xs]; exact s42
  have g3X : gI X 42 6 3 = some (Int32.ofNat a) := by rw [gI_at s42X, xo 42 3 (by omega) (by omega), p5]
  have C2 : CD p P c (h.1 (44 + pf f)) (sI X 42 3 (Int32.ofNat (a - 1))) := C.cells' (by show X.2.2 = h.2.2; rw [xs]) (fun b k q1 q2 q3 => by rw [sI_ne (by omega), xo b k q3 (by omega)]) (fun i hi => by rw [sI_ne (by omega)]; exact xn i hi)
  have tb : fX6_takeBack h 42 27 = some (sI X 42 3 (Int32.ofNat (a - 1))) := by
    have hb : bX6_takeBack_19 h 42 27 (Int32.ofNat (pf f)) 42 = some (sI X 42 3 (Int32.ofNat (a - 1))) := by
      have s1 : (sI h 42 2 (Int32.ofNat (pf f))).2.2.2[42]? = some (6, 0) := s42
      have l0 : lR (sI h 42 2 (Int32.ofNat (pf f))) 43 (Int32.ofNat (pf f)) = some (44 + pf f) := lR_at s43 hpf (by decide) rw1
      have g0 : gR (sI h 42 2 (Int32.ofNat (pf f))) 42 6 0 = some 43 := gR_at s1 r43
      simp only [bX6_takeBack_19, pI_at s42, g0, gI_at s1, sI_eq, l0, C1.k4, cc, g3X, pI_at s42X, sub1 ha, bd_some]
    simp only [fX6_takeBack, g2, bd_some]
    have kf := k_le0 (n := f) (by omega)
    by_cases q : f = 0
    · rw [if_pos (kf.mpr q)]
      have e : pf f = 15 := by unfold pf; rw [if_pos q]
      rw [e] at hb; exact hb
    · rw [if_neg (fun z => q (kf.mp z)), sub1 (by omega)]
      have e : pf f = f - 1 := by unfold pf; rw [if_neg q]
      rw [e] at hb; exact hb
  -- the model
  have yo : ∀ b k, b ≠ 28 → ¬ (b = 42 ∧ (k = 2 ∨ k = 3)) → ¬ (b = 0 ∧ k = 10) → ¬ (b = 77 ∧ k = 0) → (sI (sI (sI X 42 3 (Int32.ofNat (a - 1))) 0 10 0) 77 0 0).1 b k = h.1 b k := fun b k q1 q2 q3 q4 => by
    rw [sI_ne (by omega), sI_ne (by omega), sI_ne (by omega), xo b k q1 (by omega)]
  have M : MM oo P c N (sI (sI (sI X 42 3 (Int32.ofNat (a - 1))) 0 10 0) 77 0 0) := Mo.same (by show X.2.2 = h.2.2; rw [xs]) (fun b k q => yo b k (by omega) (by omega) (by omega) (by omega))
  generalize hY : sI (sI (sI X 42 3 (Int32.ofNat (a - 1))) 0 10 0) 77 0 0 = Y at M yo
  have ys : Y.2 = h.2 := by rw [← hY]; exact xs
  have y42 : Y.1 42 2 = Int32.ofNat (pf f) ∧ Y.1 42 3 = Int32.ofNat (a - 1) ∧ Y.1 0 10 = 0 ∧ ∀ i, i < 31 → Y.1 28 i = h.1 (44 + pf f) i := by
    rw [← hY]
    refine ⟨by rw [sI_ne (by omega), sI_ne (by omega), sI_ne (by omega)]; exact x2, by rw [sI_ne (by omega), sI_ne (by omega), sI_eq], by rw [sI_ne (by omega), sI_eq], fun i hi => by rw [sI_ne (by omega), sI_ne (by omega), sI_ne (by omega)]; exact xn i hi⟩
  have M2 : MM oo P c N (sI Y 77 18 (Int32.ofNat (a - 1))) := M.wr (by decide) (by decide)
  have g18 : gI Y 77 13 18 = some (Int32.ofNat a) := by rw [gI_at M.s77, yo 77 18 (by omega) (by omega) (by omega) (by omega), p7]
  have e18 : ¬ Int32.ofNat a = 0 := fun z => by have := (k_eq (i := a) (n := 0) (by omega) (by decide)).mp z; omega
  have mu := m_undoL M2 (a := a - 1) (by omega) sI_eq
  generalize hZ : cpO (sI Y 77 18 (Int32.ofNat (a - 1))) 79 0 (fun y => (sI Y 77 18 (Int32.ofNat (a - 1))).1 80 (31 * (a - 1) + y)) 31 = Z at mu
  have zs : Z.2 = h.2 := by rw [← hZ]; exact ys
  have zo : ∀ b k, b ≠ 79 → ¬ (b = 77 ∧ k = 18) → Z.1 b k = Y.1 b k := fun b k q1 q2 => by rw [← hZ, cpO_out (by omega), sI_ne (by omega)]
  have z18 : Z.1 77 18 = Int32.ofNat (a - 1) := by rw [← hZ, cpO_out (by omega), sI_eq]
  have z79 : ∀ i, i < 31 → Z.1 79 i = h.1 80 (31 * (a - 1) + i) := fun i hi => by
    rw [← hZ]
    have := cpO_in (h := sI Y 77 18 (Int32.ofNat (a - 1))) (b := 79) (d := 0) (f := fun y => (sI Y 77 18 (Int32.ofNat (a - 1))).1 80 (31 * (a - 1) + y)) (k := 31) hi
    rw [Nat.zero_add] at this; rw [this, sI_ne (by omega), yo 80 _ (by omega) (by omega) (by omega) (by omega)]
  have zz : ∀ b k, ¬ (b = 77 ∧ (k = 1 ∨ k = 2)) → (sI (sI Z 77 1 0) 77 2 (-1)).1 b k = Z.1 b k := fun b k q => by rw [sI_ne (by omega), sI_ne (by omega)]
  have fo : ∀ b k, b ≠ 28 → ¬ (b = 42 ∧ (k = 2 ∨ k = 3)) → ¬ (b = 0 ∧ k = 10) → ¬ (b = 77 ∧ (k = 0 ∨ k = 1 ∨ k = 2 ∨ k = 18)) → b ≠ 79 → (sI (sI Z 77 1 0) 77 2 (-1)).1 b k = h.1 b k := fun b k q1 q2 q3 q4 q5 => by
    rw [zz b k (by omega), zo b k q5 (by omega), yo b k q1 q2 q3 (by omega)]
  have cZ : CD p P c (h.1 (44 + pf f)) (sI (sI Z 77 1 0) 77 2 (-1)) := C.cells' (by show Z.2.2 = h.2.2; rw [zs]) (fun b k q1 q2 q3 => fo b k q3 (by omega) (by omega) (by omega) (by omega)) (fun i hi => by rw [zz 28 i (by omega), zo 28 i (by omega) (by omega)]; exact y42.2.2.2 i hi)
  have mZ : MM oo P c (h.1 (44 + pf f)) (sI (sI Z 77 1 0) 77 2 (-1)) := Mo.cells' (by show Z.2.2 = h.2.2; rw [zs]) (fun b k q => fo b k (by omega) (by omega) (by omega) (by omega) (by omega)) (V.congr (fun i hi => by rw [zz 79 i (by omega)]; exact z79 i hi) (fun i hi => rfl))
  refine CL.mk 1 (h1 := sI (sI X 42 3 (Int32.ofNat (a - 1))) 0 10 0) (h2 := sI (sI Z 77 1 0) 77 2 (-1)) ?_ ?_ (R.mk2 (h2 := sI (sI Z 77 1 0) 77 2 (-1)) q9 zs cZ W mZ (f' := pf f) (a' := a - 1) (m' := m) ?_ (fun b k q => fo b k (by omega) (by omega) (by omega) (by omega) (by omega)) ?_ (by rw [sI_ne (by omega), sI_eq]) sI_eq) zs
  · simp only [fX11_undo, C.pst, g3, if_pos e1, C.desk, C.now, C.pstK, tb, C2.k11, c_allow C2, bd_some, bd2_some, i10, i00, if_false, if_true, rB0, rB1]
  · simp only [fX13_undo, pI_at (show (sI (sI X 42 3 (Int32.ofNat (a - 1))) 0 10 0).2.2.2[77]? = some (13, 0) from C2.1.sh 77 rfl), hY, bd_some, M.offZ, bft, if_false, g18, if_neg e18, sub1 ha, pI_at M.s77, mu]
  · refine ⟨hpf, by omega, p3, by rw [zz 42 2 (by omega), zo 42 2 (by omega) (by omega)]; exact y42.1, by rw [zz 42 3 (by omega), zo 42 3 (by omega) (by omega)]; exact y42.2.1, by rw [fo 42 4 (by omega) (by omega) (by omega) (by omega) (by omega)]; exact p6, by rw [zz 77 18 (by omega)]; exact z18, by rw [fo 77 19 (by omega) (by omega) (by omega) (by omega) (by omega)]; exact p8, fun j hj => ?_, fun j hj => ?_⟩
    · have ei : (pf f + 16 - (a - 1) + j) % 16 = (f + 16 - a + j) % 16 := by unfold pf; split <;> omega
      rw [ei]
      obtain ⟨v1, v2⟩ := p9 j (by omega)
      exact ⟨v1.congr (fun i hi => fo 80 _ (by omega) (by omega) (by omega) (by omega) (by omega)) (fun i hi => fo _ i (by omega) (by omega) (by omega) (by omega) (by omega)), v2.congr C.r10 (fun i hi => fo _ i (by omega) (by omega) (by omega) (by omega) (by omega))⟩
    · obtain ⟨v1, v2⟩ := p10 j hj
      exact ⟨v1.congr (fun i hi => fo 81 _ (by omega) (by omega) (by omega) (by omega) (by omega)) (fun i hi => fo _ i (by omega) (by omega) (by omega) (by omega) (by omega)), v2.congr C.r10 (fun i hi => fo _ i (by omega) (by omega) (by omega) (by omega) (by omega))⟩
  · rw [zz 0 10 (by omega), zo 0 10 (by omega) (by omega)]; exact y42.2.2.1
theorem a_image (R : RR p P c N f a m w h) : CL h (fX11_image h 0) (fun h => fX13_image h 77) := by
  have C := R.1
  have hk : ∀ t, ck (sI (sI h 0 10 t) 77 0 0) 77 13 = some () := fun t => ck_at (show (sI (sI h 0 10 t) 77 0 0).2.2.2[77]? = some (13, 0) from R.s1 t)
  obtain ⟨p1, p2, p3, p4, p5, p6, p7, p8, p9, p10⟩ := R.2.2.2.2.2.1
  have s42 : h.2.2.2[42]? = some (6, 0) := C.1.sh 42 rfl
  have g4 : gI h 42 6 4 = some (Int32.ofNat m) := by rw [gI_at s42, p6]
  have k3 : ((3 : Int32) ≤ Int32.ofNat m) ↔ 3 ≤ m := k_le (i := 3) (by decide) (by omega)
  have k3' : (Int32.ofNat m = 3) ↔ m = 3 := k_eq (n := 3) (by omega) (by decide)
  rcases R.op with ⟨q9, o, M1⟩ | ⟨q9, gz⟩
  rotate_left
  · refine OB.cl (R.ob1 (-1) 1 (by decide) ?_ ?_)
    · simp only [fX11_image, C.opn, q9, C.k11, c_refuse C, bd_some, bd2_some, i10, i00, if_false, if_true, rB0, rB1]
    · simp only [fX13_image, pI_at (R.s1 1), hk 1, gz 1, btt, m_refused (R.s1 1), bd_some, bd2_some, i10, i00, if_false, if_true, rB0, rB1]
  rcases Nat.lt_or_ge m 3 with hm | hm
  rotate_left
  · refine OB.cl (R.ob1 (-1) 3 (by decide) ?_ ?_)
    · simp only [fX11_image, fX6_hasRoomForImage, C.opn, q9, C.pst, C.pstK, g4, if_pos (k3.mpr hm), C.k11, c_refuse C, bd_some, bd2_some, i10, i00, if_false, if_true, rB0, rB1]
    · have g19 : gI (sI (sI h 0 10 3) 77 0 0) 77 13 19 = some (Int32.ofNat m) := by rw [gI_at (M1 3).s77, sI_ne (by omega), sI_ne (by omega), p8]
      simp only [fX13_image, pI_at (R.s1 3), hk 3, (M1 3).offZ, bft, g19, if_pos (k3'.mpr (show m = 3 by omega)), m_refused (R.s1 3), bd_some, bd2_some, i10, i00, if_false, if_true, rB0, rB1]
  have n3 : ¬ (3 : Int32) ≤ Int32.ofNat m := fun z => by have := k3.mp z; omega
  have n3' : ¬ Int32.ofNat m = 3 := fun z => by have := k3'.mp z; omega
  obtain ⟨rw1, rw2⟩ := C.1.img hm
  have g1 : gR h 42 6 1 = some 60 := gR_at s42 (C.1.rf 8 rfl rfl)
  have l0 : lR h 60 (Int32.ofNat m) = some (61 + m) := lR_at (C.1.sh 60 rfl) hm (by decide) rw1
  have cc := c_copyTo C (b := 61 + m) (by omega) rw2
  generalize hX : cpO h (61 + m) 0 (h.1 28) 31 = X at cc
  have xs : X.2 = h.2 := by rw [← hX]; rfl
  have xo : ∀ b k, b ≠ 61 + m → X.1 b k = h.1 b k := fun b k q => by rw [← hX]; exact cpO_out (by omega)
  have xr : ∀ i, i < 31 → X.1 (61 + m) i = N i := fun i hi => by
    rw [← hX]
    have := cpO_in (h := h) (b := 61 + m) (d := 0) (f := h.1 28) (k := 31) hi
    rw [Nat.zero_add] at this; rw [this, C.2.2.2.2 i hi]
  have s42X : X.2.2.2[42]? = some (6, 0) := by rw [xs]; exact s42
  have g4X : gI X 42 6 4 = some (Int32.ofNat m) := by rw [gI_at s42X, xo 42 4 (by omega), p6]
  have C2 : CD p P c N (sI X 42 4 (Int32.ofNat (m + 1))) := C.same2 (by show X.2.2 = h.2.2; rw [xs]) (fun b k q1 q2 => by rw [sI_ne (by omega), xo b k (by omega)])
  have yo : ∀ b k, b ≠ 61 + m → ¬ (b = 42 ∧ k = 4) → ¬ (b = 0 ∧ k = 10) → ¬ (b = 77 ∧ k = 0) → (sI (sI (sI X 42 4 (Int32.ofNat (m + 1))) 0 10 0) 77 0 0).1 b k = h.1 b k := fun b k q1 q2 q3 q4 => by
    rw [sI_ne (by omega), sI_ne (by omega), sI_ne (by omega), xo b k q1]
  have Mo : MM o P c N h := by
    rcases R.2.2.2.1 with ⟨_, o', q2⟩ | ⟨q1, _⟩
    · have e := (M1 0).2.2.1
      have e' : h.2.2.1 77 3 = some o := e
      have e2 := q2.2.2.1
      rw [e'] at e2
      cases e2
      exact q2
    · rw [q1] at q9; exact absurd q9 (by decide)
  have M : MM o P c N (sI (sI (sI X 42 4 (Int32.ofNat (m + 1))) 0 10 0) 77 0 0) := Mo.same (by show X.2.2 = h.2.2; rw [xs]) (fun b k q => yo b k (by omega) (by omega) (by omega) (by omega))
  generalize hY : sI (sI (sI X 42 4 (Int32.ofNat (m + 1))) 0 10 0) 77 0 0 = Y at M yo
  have ys : Y.2 = h.2 := by rw [← hY]; exact xs
  have y42 : Y.1 42 4 = Int32.ofNat (m + 1) ∧ Y.1 0 10 = 0 ∧ ∀ i, i < 31 → Y.1 (61 + m) i = N i := by
    rw [← hY]
    exact ⟨by rw [sI_ne (by omega), sI_ne (by omega), sI_eq], by rw [sI_ne (by omega), sI_eq], fun i hi => by rw [sI_ne (by omega), sI_ne (by omega), sI_ne (by omega)]; exact xr i hi⟩
  have e19 : Y.1 77 19 = Int32.ofNat m := by rw [yo 77 19 (by omega) (by omega) (by omega) (by omega), p8]
  have mu := m_imageL M hm e19
  generalize hZ : cpO Y 81 (31 * m) (Y.1 79) 31 = Z at mu
  have zs : Z.2 = h.2 := by rw [← hZ]; exact ys
  have zo : ∀ b k, b ≠ 81 → Z.1 b k = Y.1 b k := fun b k q1 => by rw [← hZ, cpO_out (by omega)]
  have z81 : ∀ i, i < 31 → Z.1 81 (31 * m + i) = h.1 79 i := fun i hi => by rw [← hZ, cpO_in hi, yo 79 i (by omega) (by omega) (by omega) (by omega)]
  have z81' : ∀ i, i < 31 * m → Z.1 81 i = h.1 81 i := fun i hi => by rw [← hZ, cpO_out (by omega), yo 81 i (by omega) (by omega) (by omega) (by omega)]
  have zz : ∀ b k, ¬ (b = 77 ∧ (k = 1 ∨ k = 2 ∨ k = 19)) → (sI (sI (sI Z 77 19 (Int32.ofNat (m + 1))) 77 1 0) 77 2 (-1)).1 b k = Z.1 b k := fun b k q => by rw [sI_ne (by omega), sI_ne (by omega), sI_ne (by omega)]
  have fo : ∀ b k, b ≠ 61 + m → ¬ (b = 42 ∧ k = 4) → ¬ (b = 0 ∧ k = 10) → ¬ (b = 77 ∧ (k = 0 ∨ k = 1 ∨ k = 2 ∨ k = 19)) → b ≠ 81 → (sI (sI (sI Z 77 19 (Int32.ofNat (m + 1))) 77 1 0) 77 2 (-1)).1 b k = h.1 b k := fun b k q1 q2 q3 q4 q5 => by
    rw [zz b k (by omega), zo b k q5, yo b k q1 q2 q3 (by omega)]
  have cZ : CD p P c N (sI (sI (sI Z 77 19 (Int32.ofNat (m + 1))) 77 1 0) 77 2 (-1)) := C.same2 (by show Z.2.2 = h.2.2; rw [zs]) (fun b k q1 q2 => fo b k (by omega) (by omega) (by omega) (by omega) (by omega))
  have mZ : MM o P c N (sI (sI (sI Z 77 19 (Int32.ofNat (m + 1))) 77 1 0) 77 2 (-1)) := Mo.same (by show Z.2.2 = h.2.2; rw [zs]) (fun b k q => fo b k (by omega) (by omega) (by omega) (by omega) (by omega))
  refine CL.mk (Int32.ofNat m) (h1 := sI (sI X 42 4 (Int32.ofNat (m + 1))) 0 10 0) (h2 := sI (sI (sI Z 77 19 (Int32.ofNat (m + 1))) 77 1 0) 77 2 (-1)) ?_ ?_ (R.mk2 (h2 := sI (sI (sI Z 77 19 (Int32.ofNat (m + 1))) 77 1 0) 77 2 (-1)) q9 zs cZ R.2.2.1 mZ (f' := f) (a' := a) (m' := m + 1) ?_ (fun b k q => fo b k (by omega) (by omega) (by omega) (by omega) (by omega)) ?_ (by rw [sI_ne (by omega), sI_eq]) sI_eq) zs
  · simp only [fX11_image, fX6_hasRoomForImage, fX6_keepImage, C.opn, q9, C.pst, C.pstK, g4, if_neg n3, C.desk, C.now, C.k4, g1, l0, cc, g4X, pI_at s42X, k_succ, C2.k11, c_answer C2, bd_some, bd2_some, i10, i00, if_false, if_true, rB0, rB1]
  · simp only [fX13_image, pI_at (show (sI (sI X 42 4 (Int32.ofNat (m + 1))) 0 10 0).2.2.2[77]? = some (13, 0) from C2.1.sh 77 rfl), hY, bd_some, M.offZ, bft, if_false, gI_at M.s77, e19, if_neg n3', mu]
  · refine ⟨p1, p2, by omega, by rw [fo 42 2 (by omega) (by omega) (by omega) (by omega) (by omega)]; exact p4, by rw [fo 42 3 (by omega) (by omega) (by omega) (by omega) (by omega)]; exact p5, by rw [zz 42 4 (by omega), zo 42 4 (by omega)]; exact y42.1, by rw [fo 77 18 (by omega) (by omega) (by omega) (by omega) (by omega)]; exact p7, by rw [sI_ne (by omega), sI_ne (by omega), sI_eq], fun j hj => ?_, fun j hj => ?_⟩
    · obtain ⟨v1, v2⟩ := p9 j hj
      exact ⟨v1.congr (fun i hi => fo 80 _ (by omega) (by omega) (by omega) (by omega) (by omega)) (fun i hi => fo _ i (by omega) (by omega) (by omega) (by omega) (by omega)), v2.congr C.r10 (fun i hi => fo _ i (by omega) (by omega) (by omega) (by omega) (by omega))⟩
    · rcases Nat.lt_or_ge j m with q | q
      · obtain ⟨v1, v2⟩ := p10 j q
        exact ⟨v1.congr (fun i hi => by rw [zz 81 _ (by omega)]; exact z81' _ (by omega)) (fun i hi => fo _ i (by omega) (by omega) (by omega) (by omega) (by omega)), v2.congr C.r10 (fun i hi => fo _ i (by omega) (by omega) (by omega) (by omega) (by omega))⟩
      · have : j = m := by omega
        subst this
        exact ⟨Mo.2.2.2.2.2.2.congr (fun i hi => by rw [zz 81 _ (by omega)]; exact z81 i hi) (fun i hi => by rw [zz _ i (by omega), zo _ i (by omega)]; exact y42.2.2 i hi), R.2.2.1.congr C.r10 (fun i hi => by rw [zz _ i (by omega), zo _ i (by omega)]; exact y42.2.2 i hi)⟩
  · rw [zz 0 10 (by omega), zo 0 10 (by omega)]; exact y42.2.1
theorem a_back (R : RR p P c N f a m w h) (x : Int32) : CL h (fX11_back h 0 x) (fun h => fX13_back h 77 x) := by
  have C := R.1
  have hk : ∀ t, ck (sI (sI h 0 10 t) 77 0 0) 77 13 = some () := fun t => ck_at (show (sI (sI h 0 10 t) 77 0 0).2.2.2[77]? = some (13, 0) from R.s1 t)
  obtain ⟨p1, p2, p3, p4, p5, p6, p7, p8, p9, p10⟩ := R.2.2.2.2.2.1
  have s42 : h.2.2.2[42]? = some (6, 0) := C.1.sh 42 rfl
  have g4 : gI h 42 6 4 = some (Int32.ofNat m) := by rw [gI_at s42, p6]
  have g19 : ∀ t, gI (sI (sI h 0 10 t) 77 0 0) 77 13 19 = some (Int32.ofNat m) := fun t => by rw [gI_at (show (sI (sI h 0 10 t) 77 0 0).2.2.2[77]? = some (13, 0) from R.s1 t), sI_ne (by omega), sI_ne (by omega), p8]
  by_cases w1 : x < 0
  · refine OB.cl (R.ob1 0 1 (by decide) ?_ ?_)
    · simp only [fX11_back, if_pos w1, C.k11, c_deny C, bd_some, bd2_some, i10, i00, if_false, if_true, rB0, rB1]
    · rcases R.op with ⟨q9, o, M1⟩ | ⟨q9, gz⟩
      · simp only [fX13_back, pI_at (R.s1 1), hk 1, (M1 1).offZ, bft, if_pos w1, fX13_denied, m_refused (R.s1 1), bd_some, bd2_some, i10, i00, if_false, if_true, rB0, rB1]
      · simp only [fX13_back, pI_at (R.s1 1), hk 1, gz 1, btt, fX13_denied, m_refused (R.s1 1), bd_some, bd2_some, i10, i00, if_false, if_true, rB0, rB1]
  by_cases w2 : x < Int32.ofNat m
  rotate_left
  · refine OB.cl (R.ob1 0 1 (by decide) ?_ ?_)
    · simp only [fX11_back, if_neg w1, C.pst, g4, if_neg w2, C.k11, c_deny C, bd_some, bd2_some, i10, i00, if_false, if_true, rB0, rB1]
    · rcases R.op with ⟨q9, o, M1⟩ | ⟨q9, gz⟩
      · simp only [fX13_back, pI_at (R.s1 1), hk 1, (M1 1).offZ, bft, if_neg w1, g19 1, if_neg w2, fX13_denied, m_refused (R.s1 1), bd_some, bd2_some, i10, i00, if_false, if_true, rB0, rB1]
      · simp only [fX13_back, pI_at (R.s1 1), hk 1, gz 1, btt, fX13_denied, m_refused (R.s1 1), bd_some, bd2_some, i10, i00, if_false, if_true, rB0, rB1]
  obtain ⟨i, hi, rfl⟩ := inB_at (x := x) (n := m) (by omega) (by simp only [inB, Bool.and_eq_true, decide_eq_true_eq]; exact ⟨w1, w2⟩)
  obtain ⟨q9, oo, Mo⟩ : h.1 0 9 = 1 ∧ ∃ o, MM o P c N h := by
    rcases R.2.2.2.1 with ⟨q1, o, q2⟩ | ⟨q1, q2, q3, q4⟩
    · exact ⟨q1, o, q2⟩
    · have := (R.2.2.2.2.1 q1).2; omega
  obtain ⟨rw1, rw2⟩ := C.1.img (show i < 3 by omega)
  obtain ⟨V, W⟩ := p10 i hi
  have g1 : gR h 42 6 1 = some 60 := gR_at s42 (C.1.rf 8 rfl rfl)
  have l0 : lR h 60 (Int32.ofNat i) = some (61 + i) := lR_at (C.1.sh 60 rfl) (show i < 3 by omega) (by decide) rw1
  have cc := c_copyFrom C (b := 61 + i) (by omega) rw2
  generalize hX : cpO h 28 0 (h.1 (61 + i)) 31 = X at cc
  have xs : X.2 = h.2 := by rw [← hX]; rfl
  have xo : ∀ b k, b ≠ 28 → X.1 b k = h.1 b k := fun b k q1 => by rw [← hX, cpO_out (by omega)]
  have xn : ∀ j, j < 31 → X.1 28 j = h.1 (61 + i) j := fun j hj => by
    rw [← hX]
    have := cpO_in (h := h) (b := 28) (d := 0) (f := h.1 (61 + i)) (k := 31) hj
    rw [Nat.zero_add] at this; rw [this]
  have s42X : X.2.2.2[42]? = some (6, 0) := by rw [xs]; exact s42
  have C2 : CD p P c (h.1 (61 + i)) (sI X 42 3 0) := C.cells' (by show X.2.2 = h.2.2; rw [xs]) (fun b k q1 q2 q3 => by rw [sI_ne (by omega), xo b k q3]) (fun j hj => by rw [sI_ne (by omega)]; exact xn j hj)
  have yo : ∀ b k, b ≠ 28 → ¬ (b = 42 ∧ k = 3) → ¬ (b = 0 ∧ k = 10) → ¬ (b = 77 ∧ k = 0) → (sI (sI (sI X 42 3 0) 0 10 0) 77 0 0).1 b k = h.1 b k := fun b k q1 q2 q3 q4 => by
    rw [sI_ne (by omega), sI_ne (by omega), sI_ne (by omega), xo b k q1]
  have M : MM oo P c N (sI (sI (sI X 42 3 0) 0 10 0) 77 0 0) := Mo.same (by show X.2.2 = h.2.2; rw [xs]) (fun b k q => yo b k (by omega) (by omega) (by omega) (by omega))
  generalize hY : sI (sI (sI X 42 3 0) 0 10 0) 77 0 0 = Y at M yo
  have ys : Y.2 = h.2 := by rw [← hY]; exact xs
  have y42 : Y.1 42 3 = 0 ∧ Y.1 0 10 = 0 ∧ ∀ j, j < 31 → Y.1 28 j = h.1 (61 + i) j := by
    rw [← hY]
    exact ⟨by rw [sI_ne (by omega), sI_ne (by omega), sI_eq], by rw [sI_ne (by omega), sI_eq], fun j hj => by rw [sI_ne (by omega), sI_ne (by omega), sI_ne (by omega)]; exact xn j hj⟩
  have e19 : Y.1 77 19 = Int32.ofNat m := by rw [yo 77 19 (by omega) (by omega) (by omega) (by omega), p8]
  have mu := m_backL M (show i < 3 by omega)
  generalize hZ : cpO Y 79 0 (fun y => Y.1 81 (31 * i + y)) 31 = Z at mu
  have zs : Z.2 = h.2 := by rw [← hZ]; exact ys
  have zo : ∀ b k, b ≠ 79 → Z.1 b k = Y.1 b k := fun b k q1 => by rw [← hZ, cpO_out (by omega)]
  have z79 : ∀ j, j < 31 → Z.1 79 j = h.1 81 (31 * i + j) := fun j hj => by
    rw [← hZ]
    have := cpO_in (h := Y) (b := 79) (d := 0) (f := fun y => Y.1 81 (31 * i + y)) (k := 31) hj
    rw [Nat.zero_add] at this; rw [this, yo 81 _ (by omega) (by omega) (by omega) (by omega)]
  have zz : ∀ b k, ¬ (b = 77 ∧ (k = 1 ∨ k = 2 ∨ k = 18)) → (sI (sI (sI Z 77 18 0) 77 1 0) 77 2 (-1)).1 b k = Z.1 b k := fun b k q => by rw [sI_ne (by omega), sI_ne (by omega), sI_ne (by omega)]
  have fo : ∀ b k, b ≠ 28 → ¬ (b = 42 ∧ k = 3) → ¬ (b = 0 ∧ k = 10) → ¬ (b = 77 ∧ (k = 0 ∨ k = 1 ∨ k = 2 ∨ k = 18)) → b ≠ 79 → (sI (sI (sI Z 77 18 0) 77 1 0) 77 2 (-1)).1 b k = h.1 b k := fun b k q1 q2 q3 q4 q5 => by
    rw [zz b k (by omega), zo b k q5, yo b k q1 q2 q3 (by omega)]
  have cZ : CD p P c (h.1 (61 + i)) (sI (sI (sI Z 77 18 0) 77 1 0) 77 2 (-1)) := C.cells' (by show Z.2.2 = h.2.2; rw [zs]) (fun b k q1 q2 q3 => fo b k q3 (by omega) (by omega) (by omega) (by omega)) (fun j hj => by rw [zz 28 j (by omega), zo 28 j (by omega)]; exact y42.2.2 j hj)
  have mZ : MM oo P c (h.1 (61 + i)) (sI (sI (sI Z 77 18 0) 77 1 0) 77 2 (-1)) := Mo.cells' (by show Z.2.2 = h.2.2; rw [zs]) (fun b k q => fo b k (by omega) (by omega) (by omega) (by omega) (by omega)) (V.congr (fun j hj => by rw [zz 79 j (by omega)]; exact z79 j hj) (fun j hj => rfl))
  refine CL.mk 1 (h1 := sI (sI X 42 3 0) 0 10 0) (h2 := sI (sI (sI Z 77 18 0) 77 1 0) 77 2 (-1)) ?_ ?_ (R.mk2 (h2 := sI (sI (sI Z 77 18 0) 77 1 0) 77 2 (-1)) q9 zs cZ W mZ (f' := f) (a' := 0) (m' := m) ?_ (fun b k q => fo b k (by omega) (by omega) (by omega) (by omega) (by omega)) ?_ (by rw [sI_ne (by omega), sI_eq]) sI_eq) zs
  · simp only [fX11_back, fX6_returnTo, if_neg w1, C.pst, g4, if_pos w2, C.desk, C.now, C.k4, C.pstK, g1, l0, cc, pI_at s42X, C2.k11, c_allow C2, bd_some, bd2_some, i10, i00, if_false, if_true, rB0, rB1]
  · simp only [fX13_back, pI_at (show (sI (sI X 42 3 0) 0 10 0).2.2.2[77]? = some (13, 0) from C2.1.sh 77 rfl), hY, bd_some, M.offZ, bft, if_false, gI_at M.s77, e19, if_neg w1, if_pos w2, mu]
  · refine ⟨p1, by omega, p3, by rw [fo 42 2 (by omega) (by omega) (by omega) (by omega) (by omega)]; exact p4, by rw [zz 42 3 (by omega), zo 42 3 (by omega)]; exact y42.1, by rw [fo 42 4 (by omega) (by omega) (by omega) (by omega) (by omega)]; exact p6, by rw [sI_ne (by omega), sI_ne (by omega), sI_eq]; rfl, by rw [fo 77 19 (by omega) (by omega) (by omega) (by omega) (by omega)]; exact p8, fun j hj => by omega, fun j hj => ?_⟩
    obtain ⟨v1, v2⟩ := p10 j hj
    exact ⟨v1.congr (fun i hi => fo 81 _ (by omega) (by omega) (by omega) (by omega) (by omega)) (fun i hi => fo _ i (by omega) (by omega) (by omega) (by omega) (by omega)), v2.congr C.r10 (fun i hi => fo _ i (by omega) (by omega) (by omega) (by omega) (by omega))⟩
  · rw [zz 0 10 (by omega), zo 0 10 (by omega)]; exact y42.2.1
end CLU
