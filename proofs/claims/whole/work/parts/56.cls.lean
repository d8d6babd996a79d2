/-! ===== acts: each call ===== -/
section CLS
variable {p : Nat} {P : PT} {c : CT} {N N' : Nat → Int32} {f a m w : Nat} {h h1 h2 hA hB hC hD : MH} {t : Int32} {o : Nat}
def RX (h : MH) : Prop := ∃ p P c N f a m w, RR p P c N f a m w h
def CL {α : Type} (h : MH) (F : Option (α × MH)) (G : MH → Option (α × MH)) : Prop := ∃ r h1 h2, F = some (r, h1) ∧ G h1 = some (r, h2) ∧ RX h2 ∧ mLen h2 ≤ mLen h + 20 ∧ mSl h2 ≤ mSl h + 200
theorem CL.mk {α : Type} {F : Option (α × MH)} {G : MH → Option (α × MH)} (r : α) (e1 : F = some (r, h1)) (e2 : G h1 = some (r, h2)) (R' : RR p P c N f a m w h2) (hs : h2.2 = h.2) : CL h F G :=
  ⟨r, h1, h2, e1, e2, ⟨p, P, c, N, f, a, m, w, R'⟩, by unfold mLen; rw [hs]; omega, by unfold mSl; rw [hs]; omega⟩
theorem OB.cl {α : Type} {F : Option (α × MH)} {G : MH → Option (α × MH)} (H : OB p P c N f a m w h F G) : CL h F G := by
  obtain ⟨r, h1, h2, e1, e2, R', hs⟩ := H
  exact CL.mk r e1 e2 R' hs
theorem CD.same2 (C : CD p P c N h) (e2 : h1.2.2 = h.2.2) (e : ∀ b k, 13 ≤ b → b < 42 → h1.1 b k = h.1 b k) : CD p P c N h1 := by
  obtain ⟨c1, c2, c3, c4, c5⟩ := C
  have hp := c1.1
  refine ⟨by rw [e2]; exact c1, c2, fun t ht => ?_, fun t i ht hi => ?_, fun i hi => ?_⟩
  · rw [e p _ (by omega) (by omega)]; exact c3 t ht
  · rw [e (p + 1 + t) _ (by omega) (by omega)]; exact c4 t i ht hi
  · rw [e 28 _ (by omega) (by omega)]; exact c5 i hi
theorem RR.o9 (R : RR p P c N f a m w h) {t : Nat} (ht : 0 < c t) : h.1 0 9 = 1 ∧ ∃ o, MM o P c N h := by
  rcases R.2.2.2.1 with ⟨q1, o, q2⟩ | ⟨q1, q2, q3, q4⟩
  · exact ⟨q1, o, q2⟩
  · have := q3 t; omega
theorem m_granted (hs : h.2.2.2[77]? = some (13, 0)) : fX13_granted h 77 = some (1, sI (sI h 77 1 0) 77 2 (-1)) := by
  simp only [fX13_granted, ck_at hs, m_goodX hs, bd_some, bd2_some]
/-- what both remember -/
theorem RR.rem2 (R : RR p P c N f a m w h) (M0 : MM o P c N h) : ∃ hA, fX6_remember h 42 27 = some hA ∧ cRem N f a h hA ∧ CD p P c N hA ∧
    ∀ hB, only 28 hA hB → ∃ hC, MM o P c N (sI (sI hB 0 10 0) 77 0 0) ∧ fX13_remembers (sI (sI hB 0 10 0) 77 0 0) 77 = some hC ∧ mRem a (sI (sI hB 0 10 0) 77 0 0) hC ∧ MM o P c N hC := by
  obtain ⟨hA, eA, cA⟩ := c_remember R
  have hf := R.2.2.2.2.2.1.1
  obtain ⟨p1, p2, p3, p4, p5, p6, p7, p8, p9, p10⟩ := R.2.2.2.2.2.1
  refine ⟨hA, eA, cA, R.1.same2 (by rw [cA.1]) (fun b k q1 q2 => cA.2.1 b k (by omega) (by omega)), fun hB cB => ?_⟩
  have M : MM o P c N (sI (sI hB 0 10 0) 77 0 0) := M0.same (by show hB.2.2 = h.2.2; rw [cB.1, cA.1]) (fun b k q => by
    rw [sI_ne (by omega), sI_ne (by omega), cB.2 b k (by omega), cA.2.1 b k (by omega) (by omega)])
  obtain ⟨hC, eC, mC⟩ := m_remember M p2 (by rw [sI_ne (by omega), sI_ne (by omega), cB.2 77 18 (by omega), cA.2.1 77 18 (by omega) (by omega)]; exact p7)
  exact ⟨hC, M, eC, mC, M.same (by rw [mC.1]) (fun b k q => mC.2.1 b k (by omega) (by omega))⟩
theorem only_sI {b0 k0 : Nat} {x : Int32} : only b0 h (sI h b0 k0 x) := ⟨rfl, fun b k q => sI_ne (by omega)⟩
theorem only.trans {b0 : Nat} (a1 : only b0 h h1) (a2 : only b0 h1 h2) : only b0 h h2 := ⟨a2.1.trans a1.1, fun b k q => (a2.2 b k q).trans (a1.2 b k q)⟩
theorem c_tI (C : CD p P c N h) (d : Nat) {i : Nat} (hi : d + i < 31) (x : Int32) : tI h 28 (Int32.ofNat d + Int32.ofNat i) x = some (sI h 28 (d + i) x) := by
  rw [k_add, tI_at (C.1.sh 28 rfl) hi (by decide)]
theorem m_tI (M : MM o P c N h) (d : Nat) {i j : Nat} (hi : d + i < 31) (hj : vmI j = d + i) (x : Int32) : tI h 79 (Int32.ofNat d + Int32.ofNat i) x = some (sI h 79 (vmI j) x) := by
  rw [k_add, tI_at M.s79 hi (by decide), hj]
theorem WN.carve (hN : WN c N) (hc : c 4 ≤ 10) {k : Nat} (hk : k < c 4) {v : Int32} (hv : VD v) : WN c (updN N (18 + k) v) := by
  obtain ⟨a1, a2, a3⟩ := hN
  refine ⟨fun i hi => ?_, fun s hs => by rw [updN_ne (by omega)]; exact a2 s hs, ?_⟩
  · by_cases q : i = k
    · subst q; rw [updN_eq]; exact hv
    · rw [updN_ne (by omega)]; exact a1 i hi
  · rw [updN_ne (by omega), updN_ne (by omega), updN_ne (by omega), updN_ne (by omega), updN_ne (by omega), updN_ne (by omega), updN_ne (by omega)]; exact a3
theorem WN.low (hN : WN c N) {j : Nat} (hj : j < 10) (v : Int32) : WN c (updN N j v) := by
  obtain ⟨a1, a2, a3⟩ := hN
  refine ⟨fun i hi => by rw [updN_ne (by omega)]; exact a1 i hi, fun s hs => by rw [updN_ne (by omega)]; exact a2 s hs, ?_⟩
  rw [updN_ne (by omega), updN_ne (by omega), updN_ne (by omega), updN_ne (by omega), updN_ne (by omega), updN_ne (by omega), updN_ne (by omega)]; exact a3
theorem WN.ink (hN : WN c N) {s j : Nat} (hs : s < 4) (hj : j ≤ 9) : WN c (updN N (10 + s) (Int32.ofNat j)) := by
  obtain ⟨a1, a2, a3⟩ := hN
  refine ⟨fun i hi => by rw [updN_ne (by omega)]; exact a1 i hi, fun i hi => ?_, ?_⟩
  · by_cases q : i = s
    · subst q; exact ⟨j, hj, updN_eq⟩
    · rw [updN_ne (by omega)]; exact a2 i hi
  · rw [updN_ne (by omega), updN_ne (by omega), updN_ne (by omega), updN_ne (by omega), updN_ne (by omega), updN_ne (by omega), updN_ne (by omega)]; exact a3

theorem i_lc (a b c : Int32) : a + (b + c) = b + (a + c) := by rw [← Int32.add_assoc, Int32.add_comm a b, Int32.add_assoc]
theorem WN.press (hN : WN c N) (hc : c 4 ≤ 10) {s j : Nat} (hs : s < 4) (hj : j < 3) : WN c (updN (updN N (14 + s) (N (14 + s) + 1)) (28 + j) (N (28 + j) + 1)) := by
  obtain ⟨a1, a2, a3⟩ := hN
  refine ⟨fun i hi => by rw [updN_ne (by omega), updN_ne (by omega)]; exact a1 i hi, fun i hi => by rw [updN_ne (by omega), updN_ne (by omega)]; exact a2 i hi, ?_⟩
  have e1 : updN (updN N (14 + s) (N (14 + s) + 1)) (28 + j) (N (28 + j) + 1) 14 + updN (updN N (14 + s) (N (14 + s) + 1)) (28 + j) (N (28 + j) + 1) 15 + updN (updN N (14 + s) (N (14 + s) + 1)) (28 + j) (N (28 + j) + 1) 16 + updN (updN N (14 + s) (N (14 + s) + 1)) (28 + j) (N (28 + j) + 1) 17 = N 14 + N 15 + N 16 + N 17 + 1 := by
    have z : ∀ i, i < 28 → updN (updN N (14 + s) (N (14 + s) + 1)) (28 + j) (N (28 + j) + 1) i = updN N (14 + s) (N (14 + s) + 1) i := fun i hi => updN_ne (by omega)
    rw [z 14 (by omega), z 15 (by omega), z 16 (by omega), z 17 (by omega)]
    rcases (show s = 0 ∨ s = 1 ∨ s = 2 ∨ s = 3 by omega) with rfl | rfl | rfl | rfl <;> simp [updN, Int32.add_assoc, Int32.add_comm, i_lc]
  have e2 : updN (updN N (14 + s) (N (14 + s) + 1)) (28 + j) (N (28 + j) + 1) 28 + updN (updN N (14 + s) (N (14 + s) + 1)) (28 + j) (N (28 + j) + 1) 29 + updN (updN N (14 + s) (N (14 + s) + 1)) (28 + j) (N (28 + j) + 1) 30 = N 28 + N 29 + N 30 + 1 := by
    have z : ∀ i, 28 ≤ i → updN N (14 + s) (N (14 + s) + 1) i = N i := fun i hi => updN_ne (by omega)
    rcases (show j = 0 ∨ j = 1 ∨ j = 2 by omega) with rfl | rfl | rfl
    · rw [show 28 + 0 = 28 from rfl, updN_eq, updN_ne (by omega), updN_ne (by omega), updN_ne (by omega), updN_ne (by omega)]; simp [Int32.add_assoc, Int32.add_comm, i_lc]
    · rw [show 28 + 1 = 29 from rfl, updN_eq, updN_ne (by omega), updN_ne (by omega), updN_ne (by omega), updN_ne (by omega)]; simp [Int32.add_assoc, Int32.add_comm, i_lc]
    · rw [show 28 + 2 = 30 from rfl, updN_eq, updN_ne (by omega), updN_ne (by omega), updN_ne (by omega), updN_ne (by omega)]; simp [Int32.add_assoc, Int32.add_comm, i_lc]
  rw [e1, e2, a3]
theorem o_carve (R : RR p P c N f a m w h) (x v : Int32) : CL h (fX11_carve h 0 x v) (fun h => fX13_carve h 77 x v) := by
  have C := R.1
  have hq : ∀ t, ∃ p, CS p (sI (sI h 0 10 t) 77 0 0).2.2 := fun t => ⟨p, R.cs⟩
  have hk : ∀ t, ck (sI (sI h 0 10 t) 77 0 0) 77 13 = some () := fun t => ck_at (show (sI (sI h 0 10 t) 77 0 0).2.2.2[77]? = some (13, 0) from R.s1 t)
  by_cases g0 : inB x (c 4) = true
  rotate_left
  · refine OB.cl (R.ob1 0 1 (by decide) ?_ ?_)
    · simp only [fX11_carve, C.desk, C.k5, C.k11, C.plan, C.now, C.k4, C.k7, c_hasRuleN C g0, c_deny C, bd_some, bd2_some, i10, i00, if_false, if_true, rB0, rB1]
    · simp only [fX13_carve, pI_at (R.s1 1), hk 1, q_isRuleN (R.q1 1) (hq 1) g0, fX13_denied, m_refused (R.s1 1), bd_some, bd2_some, i10, i00, if_false, if_true, rB0, rB1]
  by_cases g1 : inB v 3 = true
  rotate_left
  · refine OB.cl (R.ob1 0 2 (by decide) ?_ ?_)
    · simp only [fX11_carve, C.desk, C.k5, C.k11, C.plan, C.now, C.k4, C.k7, c_hasRuleY C g0, c_isVerdictN g1, c_deny C, bd_some, bd2_some, i10, i00, if_false, if_true, rB0, rB1]
    · simp only [fX13_carve, pI_at (R.s1 2), hk 2, q_isRuleY (R.q1 2) (hq 2) g0, m_isVerdictN g1, fX13_denied, m_refused (R.s1 2), bd_some, bd2_some, i10, i00, if_false, if_true, rB0, rB1]
  obtain ⟨i, hi, rfl⟩ := inB_at (C.b31 4 (by decide)) g0
  obtain ⟨o, M⟩ := R.m1 0 (k := 4) (by omega)
  have hp5 := C.p5
  have hs4 := C.s4
  have hr10 := C.r10
  have hh3 := C.h3
  have hW := R.2.1
  have hN := R.2.2.1
  have hg := m_good1 (R.s1 0)
  by_cases q5 : N (18 + i) = v
  · refine OB.cl (R.ob1 0 5 (by decide) ?_ ?_)
    · simp only [fX11_carve, C.desk, C.k5, C.k11, C.plan, C.now, C.k4, C.k7, c_hasRuleY C g0, c_isVerdictY g1, c_verdictOf C (show i < 10 by omega), if_pos q5, c_deny C, bd_some, bd2_some, i10, i00, if_false, if_true, rB0, rB1]
    · obtain ⟨o5, M5⟩ := R.m1 5 (k := 4) (by omega)
      simp only [fX13_carve, pI_at (R.s1 5), hk 5, q_isRuleY (R.q1 5) (hq 5) g0, m_isVerdictY g1, M5.v, M5.said (show i < 10 by omega), if_pos q5, fX13_denied, m_refused (R.s1 5), bd_some, bd2_some, i10, i00, if_false, if_true, rB0, rB1]
  obtain ⟨q9, oo, Mo⟩ := R.o9 (t := 4) (by omega)
  obtain ⟨hA, eA, cA, CA, FM⟩ := R.rem2 Mo
  obtain ⟨hC, MB, eC, mC, MC⟩ := FM (sI hA 28 (18 + i) (v)) only_sI
  have hN' : WN c (updN N (18 + i) (v)) := hN.carve hr10 hi (inB_VD g1)
  have C' := CA.upd (j := 18 + i) (by omega) (v)
  have M' := MC.upd (j := 18 + i) (by omega) (v)
  have hv : vmI (18 + i) = 21 + i := by unfold vmI; (repeat' split) <;> omega
  obtain ⟨RR', hs'⟩ := R.act q9 hN' cA only_sI C' mC only_sI M'
  have tc : tI hA 28 (18 + Int32.ofNat i) (v) = some (sI hA 28 (18 + i) (v)) := by
    have := c_tI CA 18 (i := i) (by omega) (v)
    exact this
  have tm : tI hC 79 (21 + Int32.ofNat i) (v) = some (sI hC 79 (vmI (18 + i)) (v)) := m_tI MC 21 (i := i) (j := 18 + i) (by omega) hv (v)
  have hs77 : (sI hC 79 (vmI (18 + i)) (v)).2.2.2[77]? = some (13, 0) := M'.s77
  refine CL.mk 1 (h1 := sI (sI hA 28 (18 + i) (v)) 0 10 0) ?_ ?_ RR' hs'
  · simp only [fX11_carve, fX4_setVerdict, C.desk, C.k5, C.k11, C.plan, C.now, C.k4, C.k7, c_hasRuleY C g0, c_isVerdictY g1, c_verdictOf C (show i < 10 by omega), if_neg q5, C.pst, C.pstK, eA, CA.desk, CA.now, CA.k4, CA.cells, CA.k11, tc, C'.k11, c_allow C', bd_some, bd2_some, i10, i00, if_false, if_true, rB0, rB1]
  · simp only [fX13_carve, pI_at (show (sI (sI hA 28 (18 + i) (v)) 0 10 0).2.2.2[77]? = some (13, 0) from CA.1.sh 77 rfl), MB.k13, MB.v, m_isRule MB, g0, m_isVerdictY g1, MB.said (show i < 10 by omega), if_neg q5, eC, MC.v, tm, ck_at hs77, m_granted hs77, bd_some, bd2_some, i10, i00, if_false, if_true, rB0, rB1]
theorem k_at1 {x : Int32} (h0 : ¬ x < 1) (h1 : x ≤ 9) : ∃ i, i ≤ 9 ∧ x = Int32.ofNat i := by
  rw [Int32.lt_iff_toInt_lt, show (1 : Int32).toInt = 1 by decide] at h0
  rw [Int32.le_iff_toInt_le, show (9 : Int32).toInt = 9 by decide] at h1
  exact ⟨x.toInt.toNat, by omega, i32_of_toInt (by omega) (by omega)⟩
theorem o_fill (R : RR p P c N f a m w h) (x y : Int32) : CL h (fX11_fill h 0 x y) (fun h => fX13_fill h 77 x y) := by
  have C := R.1
  have hq : ∀ t, ∃ p, CS p (sI (sI h 0 10 t) 77 0 0).2.2 := fun t => ⟨p, R.cs⟩
  have hk : ∀ t, ck (sI (sI h 0 10 t) 77 0 0) 77 13 = some () := fun t => ck_at (show (sI (sI h 0 10 t) 77 0 0).2.2.2[77]? = some (13, 0) from R.s1 t)
  by_cases g0 : inB x (c 3) = true
  rotate_left
  · refine OB.cl (R.ob1 0 1 (by decide) ?_ ?_)
    · simp only [fX11_fill, C.desk, C.k5, C.k11, C.plan, C.now, C.k4, C.k7, c_hasStampN C g0, c_deny C, bd_some, bd2_some, i10, i00, if_false, if_true, rB0, rB1]
    · simp only [fX13_fill, pI_at (R.s1 1), hk 1, q_isStampN (R.q1 1) (hq 1) g0, fX13_denied, m_refused (R.s1 1), bd_some, bd2_some, i10, i00, if_false, if_true, rB0, rB1]
  obtain ⟨i, hi, rfl⟩ := inB_at (C.b31 3 (by decide)) g0
  obtain ⟨o, M⟩ := R.m1 0 (k := 3) (by omega)
  have hp5 := C.p5
  have hs4 := C.s4
  have hr10 := C.r10
  have hh3 := C.h3
  have hW := R.2.1
  have hN := R.2.2.1
  have hg := m_good1 (R.s1 0)
  by_cases w1 : y < 1
  · refine OB.cl (R.ob1 0 2 (by decide) ?_ ?_)
    · simp only [fX11_fill, C.desk, C.k5, C.k11, C.plan, C.now, C.k4, C.k7, c_hasStampY C g0, if_pos w1, c_deny C, bd_some, bd2_some, i10, i00, if_false, if_true, rB0, rB1]
    · simp only [fX13_fill, pI_at (R.s1 2), hk 2, q_isStampY (R.q1 2) (hq 2) g0, fX13_in, if_pos w1, fX13_denied, m_refused (R.s1 2), bd_some, bd2_some, i10, i00, if_false, if_true, rB0, rB1]
  by_cases w2 : y ≤ 9
  rotate_left
  · refine OB.cl (R.ob1 0 2 (by decide) ?_ ?_)
    · simp only [fX11_fill, C.desk, C.k5, C.k11, C.plan, C.now, C.k4, C.k7, c_hasStampY C g0, if_neg w1, if_neg w2, c_deny C, bd_some, bd2_some, i10, i00, if_false, if_true, rB0, rB1]
    · simp only [fX13_fill, pI_at (R.s1 2), hk 2, q_isStampY (R.q1 2) (hq 2) g0, fX13_in, if_neg w1, if_pos (Int32.not_le.mp w2), fX13_denied, m_refused (R.s1 2), bd_some, bd2_some, i10, i00, if_false, if_true, rB0, rB1]
  by_cases q5 : N (10 + i) < y
  rotate_left
  · refine OB.cl (R.ob1 0 5 (by decide) ?_ ?_)
    · simp only [fX11_fill, C.desk, C.k5, C.k11, C.plan, C.now, C.k4, C.k7, c_hasStampY C g0, if_neg w1, if_pos w2, c_inkOf C (show i < 4 by omega), if_neg q5, c_deny C, bd_some, bd2_some, i10, i00, if_false, if_true, rB0, rB1]
    · obtain ⟨o5, M5⟩ := R.m1 5 (k := 3) (by omega)
      simp only [fX13_fill, pI_at (R.s1 5), hk 5, q_isStampY (R.q1 5) (hq 5) g0, fX13_in, if_neg w1, if_neg (Int32.not_lt.mpr w2), M5.v, M5.ink (show i < 4 by omega), if_neg q5, fX13_denied, m_refused (R.s1 5), bd_some, bd2_some, i10, i00, if_false, if_true, rB0, rB1]
  obtain ⟨jj, hjj, ejj⟩ := k_at1 w1 w2
  obtain ⟨q9, oo, Mo⟩ := R.o9 (t := 3) (by omega)
  obtain ⟨hA, eA, cA, CA, FM⟩ := R.rem2 Mo
  obtain ⟨hC, MB, eC, mC, MC⟩ := FM (sI hA 28 (10 + i) (y)) only_sI
  have hN' : WN c (updN N (10 + i) (y)) := (by rw [ejj]; exact hN.ink (by omega) hjj)
  have C' := CA.upd (j := 10 + i) (by omega) (y)
  have M' := MC.upd (j := 10 + i) (by omega) (y)
  have hv : vmI (10 + i) = 0 + i := by unfold vmI; (repeat' split) <;> omega
  obtain ⟨RR', hs'⟩ := R.act q9 hN' cA only_sI C' mC only_sI M'
  have tc : tI hA 28 (10 + Int32.ofNat i) (y) = some (sI hA 28 (10 + i) (y)) := by
    have := c_tI CA 10 (i := i) (by omega) (y)
    exact this
  have tm : tI hC 79 (0 + Int32.ofNat i) (y) = some (sI hC 79 (vmI (10 + i)) (y)) := m_tI MC 0 (i := i) (j := 10 + i) (by omega) hv (y)
  have hs77 : (sI hC 79 (vmI (10 + i)) (y)).2.2.2[77]? = some (13, 0) := M'.s77
  refine CL.mk 1 (h1 := sI (sI hA 28 (10 + i) (y)) 0 10 0) ?_ ?_ RR' hs'
  · simp only [fX11_fill, fX4_setInk, C.desk, C.k5, C.k11, C.plan, C.now, C.k4, C.k7, c_hasStampY C g0, if_neg w1, if_pos w2, c_inkOf C (show i < 4 by omega), if_pos q5, C.pst, C.pstK, eA, CA.desk, CA.now, CA.k4, CA.cells, CA.k11, tc, C'.k11, c_allow C', bd_some, bd2_some, i10, i00, if_false, if_true, rB0, rB1]
  · simp only [fX13_fill, pI_at (show (sI (sI hA 28 (10 + i) (y)) 0 10 0).2.2.2[77]? = some (13, 0) from CA.1.sh 77 rfl), MB.k13, MB.v, m_isStamp MB, g0, fX13_in, if_neg w1, if_neg (Int32.not_lt.mpr w2), MB.ink (show i < 4 by omega), if_pos q5, eC, MC.v, tm, ck_at hs77, m_granted hs77, bd_some, bd2_some, i10, i00, if_false, if_true, rB0, rB1]
theorem o_mark (R : RR p P c N f a m w h) (x y z : Int32) : CL h (fX11_mark h 0 x y z) (fun h => fX13_mark h 77 x y z) := by
  have C := R.1
  have hq : ∀ t, ∃ p, CS p (sI (sI h 0 10 t) 77 0 0).2.2 := fun t => ⟨p, R.cs⟩
  have hk : ∀ t, ck (sI (sI h 0 10 t) 77 0 0) 77 13 = some () := fun t => ck_at (show (sI (sI h 0 10 t) 77 0 0).2.2.2[77]? = some (13, 0) from R.s1 t)
  by_cases g0 : inB x (c 2) = true
  rotate_left
  · refine OB.cl (R.ob1 0 1 (by decide) ?_ ?_)
    · simp only [fX11_mark, C.desk, C.k5, C.k11, C.plan, C.now, C.k4, C.k7, c_hasPaperN C g0, c_deny C, bd_some, bd2_some, i10, i00, if_false, if_true, rB0, rB1]
    · simp only [fX13_mark, pI_at (R.s1 1), hk 1, q_isPaperN (R.q1 1) (hq 1) g0, fX13_denied, m_refused (R.s1 1), bd_some, bd2_some, i10, i00, if_false, if_true, rB0, rB1]
  obtain ⟨i, hi, rfl⟩ := inB_at (C.b31 2 (by decide)) g0
  obtain ⟨o, M⟩ := R.m1 0 (k := 2) (by omega)
  have hp5 := C.p5
  have hs4 := C.s4
  have hr10 := C.r10
  have hh3 := C.h3
  have hW := R.2.1
  have hN := R.2.2.1
  have hg := m_good1 (R.s1 0)
  by_cases w1 : y < 0
  · refine OB.cl (R.ob1 0 1 (by decide) ?_ ?_)
    · have gm : ¬ inB y (c 1) = true := fun z => by simp only [inB, Bool.and_eq_true, decide_eq_true_eq] at z; exact z.1 w1
      simp only [fX11_mark, C.desk, C.k5, C.k11, C.plan, C.now, C.k4, C.k7, c_hasPaperY C g0, c_hasMarkN C gm, c_deny C, bd_some, bd2_some, i10, i00, if_false, if_true, rB0, rB1]
    · simp only [fX13_mark, pI_at (R.s1 1), hk 1, q_isPaperY (R.q1 1) (hq 1) g0, if_pos w1, fX13_denied, m_refused (R.s1 1), bd_some, bd2_some, i10, i00, if_false, if_true, rB0, rB1]
  by_cases w2 : y < Int32.ofNat (c 1)
  rotate_left
  · refine OB.cl (R.ob1 0 1 (by decide) ?_ ?_)
    · have gm : ¬ inB y (c 1) = true := fun z => by simp only [inB, Bool.and_eq_true, decide_eq_true_eq] at z; exact w2 z.2
      simp only [fX11_mark, C.desk, C.k5, C.k11, C.plan, C.now, C.k4, C.k7, c_hasPaperY C g0, c_hasMarkN C gm, c_deny C, bd_some, bd2_some, i10, i00, if_false, if_true, rB0, rB1]
    · obtain ⟨o5, M5⟩ := R.m1 1 (k := 2) (by omega)
      simp only [fX13_mark, pI_at (R.s1 1), hk 1, q_isPaperY (R.q1 1) (hq 1) g0, if_neg w1, M5.off, M5.c1, if_neg w2, fX13_denied, m_refused (R.s1 1), bd_some, bd2_some, i10, i00, if_false, if_true, rB0, rB1]
  have gm : inB y (c 1) = true := by simp only [inB, Bool.and_eq_true, decide_eq_true_eq]; exact ⟨w1, w2⟩
  obtain ⟨k, hk1, rfl⟩ := inB_at (C.b31 1 (by decide)) gm
  by_cases q5 : (if bt (N i) k = true then (1 : Int32) else 0) = z
  · refine OB.cl (R.ob1 0 5 (by decide) ?_ ?_)
    · simp only [fX11_mark, C.desk, C.k5, C.k11, C.plan, C.now, C.k4, C.k7, c_hasPaperY C g0, c_hasMarkY C gm, c_marksOf C (show i < 5 by omega), c_hasBit, bd_some, bd2_some, if_pos q5, c_deny C, bd_some, bd2_some, i10, i00, if_false, if_true, rB0, rB1]
    · obtain ⟨o5, M5⟩ := R.m1 5 (k := 2) (by omega)
      simp only [fX13_mark, pI_at (R.s1 5), hk 5, q_isPaperY (R.q1 5) (hq 5) g0, if_neg w1, M5.off, M5.c1, if_pos w2, M5.v, M5.marks (show i < 5 by omega), m_bit, bd_some, bd2_some, if_pos q5, fX13_denied, m_refused (R.s1 5), bd_some, bd2_some, i10, i00, if_false, if_true, rB0, rB1]
  obtain ⟨q9, oo, Mo⟩ := R.o9 (t := 2) (by omega)
  obtain ⟨hA, eA, cA, CA, FM⟩ := R.rem2 Mo
  obtain ⟨hC, MB, eC, mC, MC⟩ := FM (sI hA 28 (i) (N i ^^^ (1 <<< (Int32.ofNat k &&& 31)))) only_sI
  have hN' : WN c (updN N (i) (N i ^^^ (1 <<< (Int32.ofNat k &&& 31)))) := hN.low (by omega) _
  have C' := CA.upd (j := i) (by omega) (N i ^^^ (1 <<< (Int32.ofNat k &&& 31)))
  have M' := MC.upd (j := i) (by omega) (N i ^^^ (1 <<< (Int32.ofNat k &&& 31)))
  have hv : vmI (i) = 11 + i := by unfold vmI; (repeat' split) <;> omega
  obtain ⟨RR', hs'⟩ := R.act q9 hN' cA only_sI C' mC only_sI M'
  have tc : tI hA 28 (0 + Int32.ofNat i) (N i ^^^ (1 <<< (Int32.ofNat k &&& 31))) = some (sI hA 28 (i) (N i ^^^ (1 <<< (Int32.ofNat k &&& 31)))) := by
    have := c_tI CA 0 (i := i) (by omega) (N i ^^^ (1 <<< (Int32.ofNat k &&& 31)))
    rw [Nat.zero_add] at this; exact this
  have tm : tI hC 79 (11 + Int32.ofNat i) (N i ^^^ (1 <<< (Int32.ofNat k &&& 31))) = some (sI hC 79 (vmI (i)) (N i ^^^ (1 <<< (Int32.ofNat k &&& 31)))) := m_tI MC 11 (i := i) (j := i) (by omega) hv (N i ^^^ (1 <<< (Int32.ofNat k &&& 31)))
  have hs77 : (sI hC 79 (vmI (i)) (N i ^^^ (1 <<< (Int32.ofNat k &&& 31)))).2.2.2[77]? = some (13, 0) := M'.s77
  refine CL.mk 1 (h1 := sI (sI hA 28 (i) (N i ^^^ (1 <<< (Int32.ofNat k &&& 31)))) 0 10 0) ?_ ?_ RR' hs'
  · simp only [fX11_mark, fX4_setMarks, C.desk, C.k5, C.k11, C.plan, C.now, C.k4, C.k7, c_hasPaperY C g0, c_hasMarkY C gm, c_marksOf C (show i < 5 by omega), c_hasBit, bd_some, bd2_some, if_neg q5, C.pst, C.pstK, eA, CA.desk, CA.now, CA.k4, CA.cells, CA.k11, tc, C'.k11, c_allow C', bd_some, bd2_some, i10, i00, if_false, if_true, rB0, rB1]
  · simp only [fX13_mark, pI_at (show (sI (sI hA 28 (i) (N i ^^^ (1 <<< (Int32.ofNat k &&& 31)))) 0 10 0).2.2.2[77]? = some (13, 0) from CA.1.sh 77 rfl), MB.k13, MB.v, m_isPaper MB, g0, if_neg w1, MB.off, MB.c1, if_pos w2, MB.marks (show i < 5 by omega), m_bit, bd_some, bd2_some, if_neg q5, MC.marks (show i < 5 by omega), eC, MC.v, tm, ck_at hs77, m_granted hs77, bd_some, bd2_some, i10, i00, if_false, if_true, rB0, rB1]
theorem say_congr {s : Nat} {marks : Int32} (hc : ∀ k, k < c 4 → N' (18 + k) = N (18 + k)) : say P c N' s marks = say P c N s marks := by
  unfold say
  cases hf : frO P c (Int32.ofNat s) marks with
  | none => rfl
  | some k => exact hc k (frO_lt hf)
/-- the cells behind a press -/
def pN (N : Nat → Int32) (s j i : Nat) (v : Int32) : Nat → Int32 := updN (updN (updN (updN N (5 + i) v) (10 + s) (N (10 + s) - 1)) (14 + s) (N (14 + s) + 1)) (28 + j) (N (28 + j) + 1)
theorem c_pressOnce (C : CD p P c N h) {s j i : Nat} (hs : s < 4) (hj : j < 3) (hi : i < 5) (v : Int32) : ∃ hB, fX4_pressOnce h 27 (Int32.ofNat s) (Int32.ofNat j) (Int32.ofNat i) v = some hB ∧ only 28 h hB ∧ CD p P c (pN N s j i v) hB := by
  have C1 := C.upd (j := 5 + i) (by omega) v
  have C2 := C1.upd (j := 10 + s) (by omega) (N (10 + s) - 1)
  have C3 := C2.upd (j := 14 + s) (by omega) (N (14 + s) + 1)
  have C4 := C3.upd (j := 28 + j) (by omega) (N (28 + j) + 1)
  have t1 : tI h 28 (5 + Int32.ofNat i) v = _ := c_tI C 5 (i := i) (by omega) v
  have l2 : lI (sI h 28 (5 + i) v) 28 (10 + Int32.ofNat s) = some (N (10 + s)) := by
    have := C1.cellA 10 (i := s) (by omega); rw [updN_ne (by omega)] at this; exact this
  have t2 : tI (sI h 28 (5 + i) v) 28 (10 + Int32.ofNat s) (N (10 + s) - 1) = _ := c_tI C1 10 (i := s) (by omega) _
  have l3 : lI (sI (sI h 28 (5 + i) v) 28 (10 + s) (N (10 + s) - 1)) 28 (14 + Int32.ofNat s) = some (N (14 + s)) := by
    have := C2.cellA 14 (i := s) (by omega); rw [updN_ne (by omega), updN_ne (by omega)] at this; exact this
  have t3 : tI (sI (sI h 28 (5 + i) v) 28 (10 + s) (N (10 + s) - 1)) 28 (14 + Int32.ofNat s) (N (14 + s) + 1) = _ := c_tI C2 14 (i := s) (by omega) _
  have l4 : lI (sI (sI (sI h 28 (5 + i) v) 28 (10 + s) (N (10 + s) - 1)) 28 (14 + s) (N (14 + s) + 1)) 28 (28 + Int32.ofNat j) = some (N (28 + j)) := by
    have := C3.cellA 28 (i := j) (by omega); rw [updN_ne (by omega), updN_ne (by omega), updN_ne (by omega)] at this; exact this
  have t4 : tI (sI (sI (sI h 28 (5 + i) v) 28 (10 + s) (N (10 + s) - 1)) 28 (14 + s) (N (14 + s) + 1)) 28 (28 + Int32.ofNat j) (N (28 + j) + 1) = _ := c_tI C3 28 (i := j) (by omega) _
  refine ⟨_, ?_, ((only_sI.trans only_sI).trans only_sI).trans only_sI, C4⟩
  simp only [fX4_pressOnce, C.cells, C1.cells, C2.cells, C3.cells, t1, l2, t2, l3, t3, l4, t4, bd_some]
theorem pN_eq {s j i : Nat} (hs : s < 4) (hj : j < 3) (hi : i < 5) (v : Int32) : updN (updN (updN (updN N (10 + s) (N (10 + s) - 1)) (14 + s) (N (14 + s) + 1)) (28 + j) (N (28 + j) + 1)) (5 + i) v = pN N s j i v := by
  funext k
  unfold pN updN
  (repeat' split) <;> first | rfl | omega
theorem pN_WN (hN : WN c N) (hc : c 4 ≤ 10) {s j i : Nat} (hs : s < 4) (hj : j < 3) (hi : i < 5) {x : Nat} (hx : x ≤ 9) (ex : N (10 + s) - 1 = Int32.ofNat x) (v : Int32) : WN c (pN N s j i v) := by
  have w1 := hN.low (j := 5 + i) (by omega) v
  have w2 := w1.ink hs hx
  have w3 := w2.press hc hs hj
  rw [updN_ne (show 14 + s ≠ 10 + s by omega), updN_ne (show 14 + s ≠ 5 + i by omega), updN_ne (show 28 + j ≠ 10 + s by omega), updN_ne (show 28 + j ≠ 5 + i by omega), ← ex] at w3
  exact w3
theorem sub1 {x : Nat} (hx : 0 < x) : Int32.ofNat x - 1 = Int32.ofNat (x - 1) := k_sub (b := 1) hx
theorem o_press (R : RR p P c N f a m w h) (x y z : Int32) : CL h (fX11_press h 0 x y z) (fun h => fX13_press h 77 x y z) := by
  have C := R.1
  have hq : ∀ t, ∃ p, CS p (sI (sI h 0 10 t) 77 0 0).2.2 := fun t => ⟨p, R.cs⟩
  have hk : ∀ t, ck (sI (sI h 0 10 t) 77 0 0) 77 13 = some () := fun t => ck_at (show (sI (sI h 0 10 t) 77 0 0).2.2.2[77]? = some (13, 0) from R.s1 t)
  by_cases g0 : inB x (c 3) = true
  rotate_left
  · refine OB.cl (R.ob1 (-1) 1 (by decide) ?_ ?_)
    · simp only [fX11_press, fX5_hasAll, C.desk, C.k5, C.k11, C.plan, C.now, C.k4, C.k7, c_hasStampN C g0, c_refuse C, bd_some, bd2_some, i10, i00, if_false, if_true, rB0, rB1]
    · simp only [fX13_press, pI_at (R.s1 1), hk 1, q_isStampN (R.q1 1) (hq 1) g0, m_refused (R.s1 1), bd_some, bd2_some, i10, i00, if_false, if_true, rB0, rB1]
  by_cases g1 : inB y (c 5) = true
  rotate_left
  · refine OB.cl (R.ob1 (-1) 1 (by decide) ?_ ?_)
    · simp only [fX11_press, fX5_hasAll, C.desk, C.k5, C.k11, C.plan, C.now, C.k4, C.k7, c_hasStampY C g0, c_hasHandN C g1, c_refuse C, bd_some, bd2_some, i10, i00, if_false, if_true, rB0, rB1]
    · simp only [fX13_press, pI_at (R.s1 1), hk 1, q_isStampY (R.q1 1) (hq 1) g0, q_isHandN (R.q1 1) (hq 1) g1, m_refused (R.s1 1), bd_some, bd2_some, i10, i00, if_false, if_true, rB0, rB1]
  by_cases g2 : inB z (c 2) = true
  rotate_left
  · refine OB.cl (R.ob1 (-1) 1 (by decide) ?_ ?_)
    · simp only [fX11_press, fX5_hasAll, C.desk, C.k5, C.k11, C.plan, C.now, C.k4, C.k7, c_hasStampY C g0, c_hasHandY C g1, c_hasPaperN C g2, c_refuse C, bd_some, bd2_some, i10, i00, if_false, if_true, rB0, rB1]
    · simp only [fX13_press, pI_at (R.s1 1), hk 1, q_isStampY (R.q1 1) (hq 1) g0, q_isHandY (R.q1 1) (hq 1) g1, q_isPaperN (R.q1 1) (hq 1) g2, m_refused (R.s1 1), bd_some, bd2_some, i10, i00, if_false, if_true, rB0, rB1]
  obtain ⟨s, hs, rfl⟩ := inB_at (C.b31 3 (by decide)) g0
  obtain ⟨j, hj, rfl⟩ := inB_at (C.b31 5 (by decide)) g1
  obtain ⟨i, hi, rfl⟩ := inB_at (C.b31 2 (by decide)) g2
  obtain ⟨o, M⟩ := R.m1 0 (k := 3) (by omega)
  have hp5 := C.p5
  have hs4 := C.s4
  have hr10 := C.r10
  have hh3 := C.h3
  have hW := R.2.1
  have hN := R.2.2.1
  have hg := m_good1 (R.s1 0)
  obtain ⟨x, hx, ex⟩ := hN.2.1 s (by omega)
  rcases Nat.eq_zero_or_pos x with hx0 | hx0
  · have e0 : N (10 + s) = 0 := by rw [ex, hx0]; rfl
    refine OB.cl (R.ob1 (-1) 6 (by decide) ?_ ?_)
    · simp only [fX11_press, fX5_hasAll, C.desk, C.k5, C.k11, C.plan, C.now, C.k4, C.k7, c_hasStampY C g0, c_hasHandY C g1, c_hasPaperY C g2, c_inkOf C (show s < 4 by omega), e0, show ((0 : Int32) < 0) = False by decide, c_refuse C, bd_some, bd2_some, i10, i00, if_false, if_true, rB0, rB1]
    · obtain ⟨o5, M5⟩ := R.m1 6 (k := 3) (by omega)
      simp only [fX13_press, pI_at (R.s1 6), hk 6, q_isStampY (R.q1 6) (hq 6) g0, q_isHandY (R.q1 6) (hq 6) g1, q_isPaperY (R.q1 6) (hq 6) g2, M5.v, M5.ink (show s < 4 by omega), e0, m_refused (R.s1 6), bd_some, bd2_some, i10, i00, if_false, if_true, rB0, rB1]
  have e1 : (0 : Int32) < N (10 + s) := by rw [ex]; exact (k_lt (i := 0) (by decide) (by omega)).mpr hx0
  have e2 : ¬ N (10 + s) = 0 := fun z => by rw [z] at e1; exact absurd e1 (by decide)
  obtain ⟨q9, oo, Mo⟩ := R.o9 (t := 3) (by omega)
  obtain ⟨hA, eA, cA, CA, FM⟩ := R.rem2 Mo
  obtain ⟨hB, eB, oB, C'⟩ := c_pressOnce CA (show s < 4 by omega) (show j < 3 by omega) (show i < 5 by omega) (prK (P 7 j) (sayN P c N s i))
  obtain ⟨hC, MB, eC, mC, MC⟩ := FM hB oB
  have hs1 : N (10 + s) - 1 = Int32.ofNat (x - 1) := by rw [ex]; exact sub1 hx0
  have hN' : WN c (pN N s j i (prK (P 7 j) (sayN P c N s i))) := pN_WN hN hr10 (by omega) (by omega) (by omega) (show x - 1 ≤ 9 by omega) hs1 _
  have v1 : vmI (10 + s) = 0 + s := by unfold vmI; (repeat' split) <;> omega
  have v2 : vmI (14 + s) = 4 + s := by unfold vmI; (repeat' split) <;> omega
  have v3 : vmI (28 + j) = 8 + j := by unfold vmI; (repeat' split) <;> omega
  have v4 : vmI (5 + i) = 16 + i := by unfold vmI; (repeat' split) <;> omega
  have M1 := MC.upd (j := 10 + s) (by omega) (N (10 + s) - 1)
  have M2 := M1.upd (j := 14 + s) (by omega) (N (14 + s) + 1)
  have M3 := M2.upd (j := 28 + j) (by omega) (N (28 + j) + 1)
  have M4 := M3.upd (j := 5 + i) (by omega) (prK (P 7 j) (sayN P c N s i))
  rw [pN_eq (show s < 4 by omega) (show j < 3 by omega) (show i < 5 by omega)] at M4
  have t1 : tI hC 79 (0 + Int32.ofNat s) (N (10 + s) - 1) = _ := m_tI MC 0 (i := s) (j := 10 + s) (by omega) v1 _
  have l2 : lI (sI hC 79 (vmI (10 + s)) (N (10 + s) - 1)) 79 (4 + Int32.ofNat s) = some (N (14 + s)) := by rw [M1.pressed (show s < 4 by omega), updN_ne (by omega)]
  have t2 : tI (sI hC 79 (vmI (10 + s)) (N (10 + s) - 1)) 79 (4 + Int32.ofNat s) (N (14 + s) + 1) = _ := m_tI M1 4 (i := s) (j := 14 + s) (by omega) v2 _
  have l3 : lI (sI (sI hC 79 (vmI (10 + s)) (N (10 + s) - 1)) 79 (vmI (14 + s)) (N (14 + s) + 1)) 79 (8 + Int32.ofNat j) = some (N (28 + j)) := by rw [M2.handed (show j < 3 by omega), updN_ne (by omega), updN_ne (by omega)]
  have t3 : tI (sI (sI hC 79 (vmI (10 + s)) (N (10 + s) - 1)) 79 (vmI (14 + s)) (N (14 + s) + 1)) 79 (8 + Int32.ofNat j) (N (28 + j) + 1) = _ := m_tI M2 8 (i := j) (j := 28 + j) (by omega) v3 _
  have es : sayN P c (updN (updN (updN N (10 + s) (N (10 + s) - 1)) (14 + s) (N (14 + s) + 1)) (28 + j) (N (28 + j) + 1)) s i = sayN P c N s i := by
    unfold sayN
    rw [updN_ne (by omega), updN_ne (by omega), updN_ne (by omega)]
    exact say_congr (fun k hk => by rw [updN_ne (by omega), updN_ne (by omega), updN_ne (by omega)])
  have t4 : tI (sI (sI (sI hC 79 (vmI (10 + s)) (N (10 + s) - 1)) 79 (vmI (14 + s)) (N (14 + s) + 1)) 79 (vmI (28 + j)) (N (28 + j) + 1)) 79 (16 + Int32.ofNat i) (prK (P 7 j) (sayN P c N s i)) = _ := m_tI M3 16 (i := i) (j := 5 + i) (by omega) v4 _
  have m3 := m_saysNow M3 hW hs hi
  rw [es] at m3
  have l5 : lI (sI (sI (sI (sI hC 79 (vmI (10 + s)) (N (10 + s) - 1)) 79 (vmI (14 + s)) (N (14 + s) + 1)) 79 (vmI (28 + j)) (N (28 + j) + 1)) 79 (vmI (5 + i)) (prK (P 7 j) (sayN P c N s i))) 79 (16 + Int32.ofNat i) = some (prK (P 7 j) (sayN P c N s i)) := by
    rw [M4.latest (show i < 5 by omega), ← pN_eq (show s < 4 by omega) (show j < 3 by omega) (show i < 5 by omega), updN_eq]
  obtain ⟨RR', hs'⟩ := R.act q9 hN' cA oB C' mC (((only_sI.trans only_sI).trans only_sI).trans only_sI) M4
  refine CL.mk (prK (P 7 j) (sayN P c N s i)) (h1 := sI hB 0 10 0) ?_ ?_ RR' hs'
  · simp only [fX11_press, fX5_hasAll, C.desk, C.k5, C.k11, C.plan, C.now, C.k4, C.k7, c_hasStampY C g0, c_hasHandY C g1, c_hasPaperY C g2, c_inkOf C (show s < 4 by omega), if_pos e1, c_sayOn C hs hi, c_printBy C hj, C.pst, C.pstK, eA, CA.desk, CA.now, CA.k4, eB, C'.k11, c_answer C', bd_some, bd2_some, i10, i00, if_false, if_true, rB0, rB1]
  · simp only [fX13_press, pI_at (show (sI hB 0 10 0).2.2.2[77]? = some (13, 0) from C'.1.sh 77 rfl), MB.k13, m_isStamp MB, m_isHand MB, m_isPaper MB, g0, g1, g2, MB.v, MB.ink (show s < 4 by omega), if_neg e2, eC, MC.v, MC.ink (show s < 4 by omega), t1, M1.v, l2, t2, M2.v, l3, t3, M3.v, M3.k13, m3, m_printsBy M3 hj (sayN_VD hW hN hs i), t4, M4.v, l5, M4.k13, m_goodX M4.s77, bd_some, bd2_some, i10, i00, if_false, if_true, rB0, rB1]
end CLS
