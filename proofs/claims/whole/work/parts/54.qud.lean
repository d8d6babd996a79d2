/-! ===== questions of draws ===== -/
section QUD
variable {p : Nat} {P : PT} {c : CT} {N : Nat → Int32} {f a m w : Nat} {h h1 h2 hf : MH} {t : Int32} {o : Nat}
def tr (c : CT) (x y : Int32) : Int32 := if x < 0 then 2 else if 65536 < x then 2 else if y < 0 then 2 else if y ≤ 90 then (if Int32.ofNat (c 3) = 0 then 6 else if Int32.ofNat (c 5) = 0 then 6 else 0) else 2
theorem k_at {x : Int32} {n : Nat} (hn : n < 2147483648) (h0 : ¬ x < 0) (h1 : x ≤ Int32.ofNat n) : ∃ i, i ≤ n ∧ x = Int32.ofNat i := by
  rw [Int32.lt_iff_toInt_lt, Int32.toInt_zero] at h0
  rw [Int32.le_iff_toInt_le, k_toInt hn] at h1
  exact ⟨x.toInt.toNat, by omega, i32_of_toInt (by omega) (by omega)⟩
theorem k_pos {n : Nat} (h : ¬ Int32.ofNat n = 0) : 0 < n := by
  rcases Nat.eq_zero_or_pos n with rfl | q
  · exact absurd rfl h
  · exact q
theorem tr_cases (c : CT) (x y : Int32) : (tr c x y = 0 ∧ 0 < c 3 ∧ 0 < c 5 ∧ ∃ s n, s ≤ 65536 ∧ n ≤ 90 ∧ x = Int32.ofNat s ∧ y = Int32.ofNat n) ∨ tr c x y = 2 ∨ tr c x y = 6 := by
  unfold tr
  by_cases q1 : x < 0
  · rw [if_pos q1]; exact Or.inr (Or.inl rfl)
  by_cases q2 : (65536 : Int32) < x
  · rw [if_neg q1, if_pos q2]; exact Or.inr (Or.inl rfl)
  by_cases q3 : y < 0
  · rw [if_neg q1, if_neg q2, if_pos q3]; exact Or.inr (Or.inl rfl)
  by_cases q4 : y ≤ 90
  rotate_left
  · rw [if_neg q1, if_neg q2, if_neg q3, if_neg q4]; exact Or.inr (Or.inl rfl)
  by_cases q5 : Int32.ofNat (c 3) = 0
  · rw [if_neg q1, if_neg q2, if_neg q3, if_pos q4, if_pos q5]; exact Or.inr (Or.inr rfl)
  by_cases q6 : Int32.ofNat (c 5) = 0
  · rw [if_neg q1, if_neg q2, if_neg q3, if_pos q4, if_neg q5, if_pos q6]; exact Or.inr (Or.inr rfl)
  rw [if_neg q1, if_neg q2, if_neg q3, if_pos q4, if_neg q5, if_neg q6]
  obtain ⟨s, hs, e1⟩ := k_at (n := 65536) (by decide) q1 (Int32.not_lt.mp q2)
  obtain ⟨n, hn, e2⟩ := k_at (n := 90) (by decide) q3 q4
  exact Or.inl ⟨rfl, k_pos q5, k_pos q6, s, n, hs, hn, e1, e2⟩
theorem c_trD (C : CD p P c N h) (q9 : h.1 0 9 = 1) {b : Int32} (hb : ¬ b = 0) (x y : Int32) : fX11_troubleOfDraws h 0 b x y = some (tr c x y, h) := by
  simp only [fX11_troubleOfDraws, C.opn, q9, C.desk, C.plan, C.c3, C.c5, if_neg hb, bd_some, i10, if_false, tr]
  repeat' split
  all_goals first | rfl | (simp_all; done)
theorem m_trD (M : MM o P c N h) (x y : Int32) : fX13_refusesPresses h 77 x y = some (tr c x y, h) := by
  simp only [fX13_refusesPresses, M.offZ, bft, if_false, M.off, M.c3, M.c5, fX13_in, bd_some, tr]
  by_cases q1 : x < 0
  · simp only [if_pos q1, bd2_some, if_true]
  by_cases q2 : (65536 : Int32) < x
  · simp only [if_neg q1, if_pos q2, bd2_some, if_true]
  by_cases q3 : y < 0
  · simp only [if_neg q1, if_neg q2, if_pos q3, bd2_some, if_true, i10, if_false]
  by_cases q4 : y ≤ 90
  rotate_left
  · simp only [if_neg q1, if_neg q2, if_neg q3, if_neg q4, if_pos (Int32.not_le.mp q4), bd2_some, if_true, i10, if_false]
  simp only [if_neg q1, if_neg q2, if_neg q3, if_pos q4, if_neg (Int32.not_lt.mpr q4), bd2_some, i10, if_false, M.off, M.c3, M.c5, bd_some]
  by_cases q5 : Int32.ofNat (c 3) = 0
  · simp only [if_pos q5]
  by_cases q6 : Int32.ofNat (c 5) = 0
  · simp only [if_neg q5, if_pos q6]
  · simp only [if_neg q5, if_neg q6]
theorem RR.draw (R : RR p P c N f a m w h) (q9 : h.1 0 9 = 1) (M1 : ∀ t, MM o P c N (sI (sI h 0 10 t) 77 0 0)) (h3 : 0 < c 3) (h5 : 0 < c 5) {s n : Nat} (hs : s ≤ 65536) (hn : n ≤ 90) :
    ∃ h1 h2, fX1_run h 74 (Int32.ofNat s) (Int32.ofNat n) = some h1 ∧ dC (drN P c N s n) h h1 ∧ MM o P c N (sI (sI h1 0 10 0) 77 0 0) ∧ fX13_pressesAll (sI (sI h1 0 10 0) 77 0 0) 77 (Int32.ofNat s) (Int32.ofNat n) = some h2 ∧
      dM (drN P c N s n) (sI (sI h1 0 10 0) 77 0 0) h2 ∧ cOb 0 h (sI h1 0 10 0) ∧ mOb 0 (sI h1 0 10 0) (sI (sI h2 77 1 0) 77 2 (-1)) := by
  have h2' := R.2.2.2.2.2.2.2.2.2.2.1 q9
  obtain ⟨h1, e1, d1⟩ := c_run R.1 R.2.1 R.2.2.1 h3 h5 (by omega) hs hn
  have M : MM o P c N (sI (sI h1 0 10 0) 77 0 0) := (M1 0).same (congrArg Prod.snd d1.1) (fun b k q => by
    rw [sI_ne (by omega), sI_ne (by omega), sI_ne (by omega), sI_ne (by omega)]
    exact d1.2.1 b k (by omega))
  obtain ⟨h2, e2, d2⟩ := m_run M R.2.1 R.2.2.1 h3 h5 (by omega) hs hn
  refine ⟨h1, h2, e1, d1, M, e2, d2, ⟨d1.1, fun b k q1 q2 => ?_, sI_eq⟩, ⟨d2.1, fun b k q1 q2 => ?_, ?_, sI_eq⟩⟩
  · rw [sI_ne q2]; exact d1.2.1 b k (by omega)
  · rw [sI_ne (by omega), sI_ne (by omega), d2.2.1 b k (by omega) (by omega) (by omega), sI_ne (by omega)]
  · rw [sI_ne (by omega), sI_eq]
theorem o_presses (R : RR p P c N f a m w h) (v x y : Int32) : OB p P c N f a m w h (fX11_presses h 0 v x y) (fun h => fX13_presses h 77 v x y) := by
  have C := R.1
  have hq : ∀ t, ∃ p, CS p (sI (sI h 0 10 t) 77 0 0).2.2 := fun t => ⟨p, R.cs⟩
  have hk : ∀ t, ck (sI (sI h 0 10 t) 77 0 0) 77 13 = some () := fun t => ck_at (show (sI (sI h 0 10 t) 77 0 0).2.2.2[77]? = some (13, 0) from R.s1 t)
  rcases R.op with ⟨q9, o, M1⟩ | ⟨q9, gz⟩
  rotate_left
  · refine R.ob1 (-1) 1 (by decide) ?_ ?_
    · have e : ∀ b, fX11_troubleOfDraws h 0 b x y = some (1, h) := fun b => by simp only [fX11_troubleOfDraws, C.opn, q9, bd_some, if_true]
      by_cases g : inB v 3 = true
      · simp only [fX11_presses, C.desk, C.k5, C.k11, C.plan, C.now, C.k4, C.k7, c_isVerdictY g, e, c_refuse C, bd_some, bd2_some, i10, i00, if_false, if_true]
      · simp only [fX11_presses, C.desk, C.k5, C.k11, C.plan, C.now, C.k4, C.k7, c_isVerdictN g, e, c_refuse C, bd_some, bd2_some, i10, i00, if_false, if_true]
    · simp only [fX13_presses, bX13_presses_25, fX13_refusesPresses, pI_at (R.s1 1), hk 1, gz 1, k_le01, m_refused (R.s1 1), bd_some, bd2_some, i10, i00, if_false, if_true]
  by_cases g0 : inB v 3 = true
  rotate_left
  · refine R.ob1 (-1) 2 (by decide) ?_ ?_
    · have e : fX11_troubleOfDraws h 0 0 x y = some (2, h) := by simp only [fX11_troubleOfDraws, C.opn, q9, bd_some, i10, if_true, if_false]
      simp only [fX11_presses, C.desk, C.k5, C.k11, C.plan, C.now, C.k4, C.k7, c_isVerdictN g0, e, k_20, c_refuse C, bd_some, bd2_some, i10, i00, if_false, if_true]
    · simp only [fX13_presses, pI_at (R.s1 2), hk 2, (M1 2).offZ, bft, m_isVerdictN g0, m_refused (R.s1 2), bd_some, bd2_some, i10, i00, if_false, if_true]
  have e := c_trD C q9 (b := 1) (by decide) x y
  rcases tr_cases c x y with ⟨et, h3, h5, s, n, hs, hn, rfl, rfl⟩ | et | et
  rotate_left
  · have em := m_trD (M1 2) x y
    rw [et] at e em
    refine R.ob1 (-1) 2 (by decide) ?_ ?_
    · simp only [fX11_presses, C.desk, C.k5, C.k11, C.plan, C.now, C.k4, C.k7, c_isVerdictY g0, e, k_20, k_le02, c_refuse C, bd_some, bd2_some, i10, i00, if_false, if_true]
    · simp only [fX13_presses, bX13_presses_25, pI_at (R.s1 2), hk 2, (M1 2).offZ, bft, m_isVerdictY g0, em, k_20, k_le02, m_refused (R.s1 2), bd_some, bd2_some, i10, i00, if_false, if_true]
  · have em := m_trD (M1 6) x y
    rw [et] at e em
    refine R.ob1 (-1) 6 (by decide) ?_ ?_
    · simp only [fX11_presses, C.desk, C.k5, C.k11, C.plan, C.now, C.k4, C.k7, c_isVerdictY g0, e, k_60, k_le06, c_refuse C, bd_some, bd2_some, i10, i00, if_false, if_true]
    · simp only [fX13_presses, bX13_presses_25, pI_at (R.s1 6), hk 6, (M1 6).offZ, bft, m_isVerdictY g0, em, k_60, k_le06, m_refused (R.s1 6), bd_some, bd2_some, i10, i00, if_false, if_true]
  obtain ⟨h1, h2, e1, d1, M, e2, d2, hc, hm⟩ := R.draw q9 M1 h3 h5 hs hn
  have C1 := d1.cd C
  have M2 := d2.mm M
  have em := m_trD M (Int32.ofNat s) (Int32.ofNat n)
  rw [et] at e em
  have sm : (sI h1 0 10 0).2.2.2[77]? = some (13, 0) := C1.1.sh 77 rfl
  have hs2 := M2.s77
  obtain ⟨pp, S2⟩ := M2.1
  obtain ⟨j, hj, rfl⟩ := inB_at (by decide) g0
  have g1 : gR h1 74 1 1 = some 75 := gR_at (C1.1.sh 74 rfl) (C1.1.rf 15 rfl rfl)
  have l1 : lI h1 75 (Int32.ofNat j) = some ((drN P c N s n).2.2.1 j) := by rw [lI_at (C1.1.sh 75 rfl) hj (by decide), d1.2.2.2.2.2.1 j hj]
  have g2 : gR h2 77 13 28 = some 87 := gR_at hs2 S2.2.2.2.2.2.2.2.2.2.2.2.2.2.2.1
  have l2 : lI h2 87 (Int32.ofNat j) = some ((drN P c N s n).2.2.1 j) := by rw [lI_at (S2.sh 87 rfl) hj (by decide), d2.2.2.2.2.2.1 j hj]
  refine R.ob (t := 0) ((drN P c N s n).2.2.1 j) (by decide) ?_ hc ?_ hm
  · simp only [fX11_presses, C.desk, C.k5, C.k11, C.plan, C.now, C.k4, C.k7, c_isVerdictY g0, e, C.dra, C.draK, e1, C1.dra, C1.k11, g1, l1, c_answer C1, bd_some, bd2_some, i10, i00, if_false, if_true]
  · simp only [fX13_presses, bX13_presses_25, pI_at sm, M.k13, M.offZ, bft, m_isVerdictY g0, em, k_le00, e2, g2, l2, M2.k13, m_goodX hs2, bd_some, bd2_some, i10, i00, if_false, if_true]
theorem o_birds (R : RR p P c N f a m w h) (x y : Int32) : OB p P c N f a m w h (fX11_birds h 0 x y) (fun h => fX13_birds h 77 x y) := by
  have C := R.1
  have hq : ∀ t, ∃ p, CS p (sI (sI h 0 10 t) 77 0 0).2.2 := fun t => ⟨p, R.cs⟩
  have hk : ∀ t, ck (sI (sI h 0 10 t) 77 0 0) 77 13 = some () := fun t => ck_at (show (sI (sI h 0 10 t) 77 0 0).2.2.2[77]? = some (13, 0) from R.s1 t)
  rcases R.op with ⟨q9, o, M1⟩ | ⟨q9, gz⟩
  rotate_left
  · refine R.ob1 (-1) 1 (by decide) ?_ ?_
    · simp only [fX11_birds, fX11_troubleOfDraws, C.opn, q9, C.desk, C.k5, C.k11, C.plan, C.now, C.k4, C.k7, c_refuse C, bd_some, bd2_some, i10, i00, if_false, if_true]
    · simp only [fX13_birds, fX13_refusesPresses, pI_at (R.s1 1), hk 1, gz 1, k_le01, m_refused (R.s1 1), bd_some, bd2_some, i10, i00, if_false, if_true]
  have e := c_trD C q9 (b := 1) (by decide) x y
  rcases tr_cases c x y with ⟨et, h3, h5, s, n, hs, hn, rfl, rfl⟩ | et | et
  rotate_left
  · have em := m_trD (M1 2) x y
    rw [et] at e em
    refine R.ob1 (-1) 2 (by decide) ?_ ?_
    · simp only [fX11_birds, C.desk, C.k5, C.k11, C.plan, C.now, C.k4, C.k7, e, k_20, k_le02, c_refuse C, bd_some, bd2_some, i10, i00, if_false, if_true]
    · simp only [fX13_birds, pI_at (R.s1 2), hk 2, em, k_20, k_le02, m_refused (R.s1 2), bd_some, bd2_some, i10, i00, if_false, if_true]
  · have em := m_trD (M1 6) x y
    rw [et] at e em
    refine R.ob1 (-1) 6 (by decide) ?_ ?_
    · simp only [fX11_birds, C.desk, C.k5, C.k11, C.plan, C.now, C.k4, C.k7, e, k_60, k_le06, c_refuse C, bd_some, bd2_some, i10, i00, if_false, if_true]
    · simp only [fX13_birds, pI_at (R.s1 6), hk 6, em, k_60, k_le06, m_refused (R.s1 6), bd_some, bd2_some, i10, i00, if_false, if_true]
  obtain ⟨h1, h2, e1, d1, M, e2, d2, hc, hm⟩ := R.draw q9 M1 h3 h5 hs hn
  have C1 := d1.cd C
  have M2 := d2.mm M
  have em := m_trD M (Int32.ofNat s) (Int32.ofNat n)
  rw [et] at e em
  have sm : (sI h1 0 10 0).2.2.2[77]? = some (13, 0) := C1.1.sh 77 rfl
  have hs2 := M2.s77
  obtain ⟨pp, S2⟩ := M2.1
  have g1 : gI h1 74 1 3 = some (drN P c N s n).2.1 := by rw [gI_at (C1.1.sh 74 rfl), d1.2.2.2.2.1]
  have g2 : gI h2 77 13 27 = some (drN P c N s n).2.1 := by rw [gI_at hs2, d2.2.2.2.2.1]
  refine R.ob (t := 0) ((drN P c N s n).2.1) (by decide) ?_ hc ?_ hm
  · simp only [fX11_birds, C.desk, C.k5, C.k11, C.plan, C.now, C.k4, C.k7, e, C.dra, C.draK, e1, C1.dra, C1.k11, g1, c_answer C1, bd_some, bd2_some, i10, i00, if_false, if_true]
  · simp only [fX13_birds, pI_at sm, M.k13, em, k_le00, e2, g2, M2.k13, m_goodX hs2, bd_some, bd2_some, i10, i00, if_false, if_true]
theorem o_printed (R : RR p P c N f a m w h) (z x y : Int32) : OB p P c N f a m w h (fX11_printed h 0 z x y) (fun h => fX13_printed h 77 z x y) := by
  have C := R.1
  have hq : ∀ t, ∃ p, CS p (sI (sI h 0 10 t) 77 0 0).2.2 := fun t => ⟨p, R.cs⟩
  have hk : ∀ t, ck (sI (sI h 0 10 t) 77 0 0) 77 13 = some () := fun t => ck_at (show (sI (sI h 0 10 t) 77 0 0).2.2.2[77]? = some (13, 0) from R.s1 t)
  by_cases g0 : inB z (c 2) = true
  rotate_left
  · refine R.ob1 (-1) 1 (by decide) ?_ ?_
    · simp only [fX11_printed, C.desk, C.k5, C.k11, C.plan, C.now, C.k4, C.k7, c_hasPaperN C g0, c_refuse C, bd_some, bd2_some, i10, i00, if_false, if_true]
    · simp only [fX13_printed, pI_at (R.s1 1), hk 1, q_isPaperN (R.q1 1) (hq 1) g0, m_refused (R.s1 1), bd_some, bd2_some, i10, i00, if_false, if_true]
  rcases R.op with ⟨q9, o, M1⟩ | ⟨q9, gz⟩
  rotate_left
  · refine R.ob1 (-1) 1 (by decide) ?_ ?_
    · simp only [fX11_printed, fX11_troubleOfDraws, C.opn, q9, C.desk, C.k5, C.k11, C.plan, C.now, C.k4, C.k7, c_hasPaperY C g0, c_refuse C, bd_some, bd2_some, i10, i00, if_false, if_true]
    · simp only [fX13_printed, fX13_refusesPresses, pI_at (R.s1 1), hk 1, q_isPaperY (R.q1 1) (hq 1) g0, gz 1, k_le01, m_refused (R.s1 1), bd_some, bd2_some, i10, i00, if_false, if_true]
  have e := c_trD C q9 (b := 1) (by decide) x y
  rcases tr_cases c x y with ⟨et, h3, h5, s, n, hs, hn, rfl, rfl⟩ | et | et
  rotate_left
  · have em := m_trD (M1 2) x y
    rw [et] at e em
    refine R.ob1 (-1) 2 (by decide) ?_ ?_
    · simp only [fX11_printed, C.desk, C.k5, C.k11, C.plan, C.now, C.k4, C.k7, c_hasPaperY C g0, e, k_20, k_le02, c_refuse C, bd_some, bd2_some, i10, i00, if_false, if_true]
    · simp only [fX13_printed, pI_at (R.s1 2), hk 2, q_isPaperY (R.q1 2) (hq 2) g0, em, k_20, k_le02, m_refused (R.s1 2), bd_some, bd2_some, i10, i00, if_false, if_true]
  · have em := m_trD (M1 6) x y
    rw [et] at e em
    refine R.ob1 (-1) 6 (by decide) ?_ ?_
    · simp only [fX11_printed, C.desk, C.k5, C.k11, C.plan, C.now, C.k4, C.k7, c_hasPaperY C g0, e, k_60, k_le06, c_refuse C, bd_some, bd2_some, i10, i00, if_false, if_true]
    · simp only [fX13_printed, pI_at (R.s1 6), hk 6, q_isPaperY (R.q1 6) (hq 6) g0, em, k_60, k_le06, m_refused (R.s1 6), bd_some, bd2_some, i10, i00, if_false, if_true]
  obtain ⟨h1, h2, e1, d1, M, e2, d2, hc, hm⟩ := R.draw q9 M1 h3 h5 hs hn
  have C1 := d1.cd C
  have M2 := d2.mm M
  have em := m_trD M (Int32.ofNat s) (Int32.ofNat n)
  rw [et] at e em
  have sm : (sI h1 0 10 0).2.2.2[77]? = some (13, 0) := C1.1.sh 77 rfl
  have hs2 := M2.s77
  obtain ⟨pp, S2⟩ := M2.1
  obtain ⟨j, hj, rfl⟩ := inB_at (C.b31 2 (by decide)) g0
  have hp5 := C.p5
  have g1 : gR h1 74 1 2 = some 76 := gR_at (C1.1.sh 74 rfl) (C1.1.rf 15 rfl rfl)
  have l1 : lI h1 76 (Int32.ofNat j) = some ((drN P c N s n).2.2.2 j) := by rw [lI_at (C1.1.sh 76 rfl) (show j < 5 by omega) (by decide), d1.2.2.2.2.2.2 j (by omega)]
  have g2 : gR h2 77 13 29 = some 88 := gR_at hs2 S2.2.2.2.2.2.2.2.2.2.2.2.2.2.2.2
  have l2 : lI h2 88 (Int32.ofNat j) = some ((drN P c N s n).2.2.2 j) := by rw [lI_at (S2.sh 88 rfl) (show j < 5 by omega) (by decide), d2.2.2.2.2.2.2 j (by omega)]
  refine R.ob (t := 0) ((drN P c N s n).2.2.2 j) (by decide) ?_ hc ?_ hm
  · simp only [fX11_printed, C.desk, C.k5, C.k11, C.plan, C.now, C.k4, C.k7, c_hasPaperY C g0, e, C.dra, C.draK, e1, C1.dra, C1.k11, g1, l1, c_answer C1, bd_some, bd2_some, i10, i00, if_false, if_true]
  · simp only [fX13_printed, pI_at sm, M.k13, m_isPaper M, if_pos g0, em, k_le00, e2, g2, l2, M2.k13, m_goodX hs2, bd_some, bd2_some, i10, i00, if_false, if_true]
end QUD
