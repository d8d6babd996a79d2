/-! ===== more questions ===== -/
section QUF
variable {p : Nat} {P : PT} {c : CT} {N : Nat → Int32} {f a m w : Nat} {h h1 h2 hf : MH} {t : Int32} {o : Nat}
theorem RR.op (R : RR p P c N f a m w h) : (h.1 0 9 = 1 ∧ ∃ o, ∀ t, MM o P c N (sI (sI h 0 10 t) 77 0 0)) ∨ (h.1 0 9 = 0 ∧ ∀ t, gZ (sI (sI h 0 10 t) 77 0 0) 77 13 3 = some true) := by
  rcases R.2.2.2.1 with ⟨q1, o, q2⟩ | ⟨q1, q2, q3, q4⟩
  · exact Or.inl ⟨q1, o, fun t => (q2.same rfl (fun b k q => by rw [sI_ne (by omega), sI_ne (by omega)]))⟩
  · refine Or.inr ⟨q1, fun t => ?_⟩
    rw [gZ_at (show (sI (sI h 0 10 t) 77 0 0).2.2.2[77]? = some (13, 0) from R.s1 t)]
    exact congrArg (fun q => some (Option.isNone q)) q2
theorem m_sayersL' (M : MM o P c N h) (hW : WP P c) (hg : ∀ v, fX13_good1 h 77 v = some (v, hf)) {i : Nat} (hi : i < c 2) (v : Int32) : fX13_sayers_37 FU h 77 (Int32.ofNat i) v 0 0 = some (lp (stB (bSay P c N (N i) v)) (c 3) 0 0, hf) := m_sayersL M hW hg hi v
theorem m_idle' (M : MM o P c N h) (hW : WP P c) (hg : ∀ v, fX13_good1 h 77 v = some (v, hf)) (s : Int32) : fX13_idleRules_23 FU h 77 s 0 0 = some (lp (stI P c s) (2 ^ c 1) 0 (lp (stB (bRul P s)) (c 4) 0 0), hf) := m_idle M hW hg s
theorem m_differ' (M : MM o P c N h) (hW : WP P c) (hg : ∀ v, fX13_good1 h 77 v = some (v, hf)) {i j : Nat} (hi : i < c 3) (hj : j < c 3) : fX13_differ_37 FU h 77 (Int32.ofNat i) (Int32.ofNat j) 0 0 = some (lp (stD P c N i j) (2 ^ c 1) 0 0, hf) := m_differL M hW hg hi hj
theorem m_worded' (M : MM o P c N h) (hW : WP P c) (hg : ∀ v, fX13_good1 h 77 v = some (v, hf)) : fX13_worded_23 FU h 77 (-2) 0 = some (oI (lp (stW (okW P c N)) (2 ^ c 1) 0 none), hf) := m_wordedL M hW hg
theorem m_reword' (M : MM o P c N h) (hW : WP P c) (hg : ∀ v, fX13_good1 h 77 v = some (v, hf)) {i s : Nat} (hi : i < c 2) (hs : s < c 3) (v : Int32) : fX13_reword_47 FU h 77 (Int32.ofNat i) (Int32.ofNat s) v (-2) 0 = some (oI (lp (stW (okRw P c N i s v)) (2 ^ c 1) 0 none), hf) := m_rewordL M hW hg hi hs v
theorem m_best' (M : MM o P c N h) (hW : WP P c) (hg : ∀ v, fX13_good1 h 77 v = some (v, hf)) {i : Nat} (hi : i < c 2) (y : Int32) : fX13_bestMark_39 FU h 77 (Int32.ofNat i) y (-2) 0 = some ((lp (stM P c N i) (c 1) 0 (-2, y)).1, hf) := m_bestL M hW hg hi y
theorem m_yesSaid' (M : MM o P c N h) (hW : WP P c) (marks : Int32) : fX13_yesSaid h 77 marks = some (yS P c N marks, h) := m_yesSaid M hW marks
theorem m_next' (M : MM o P c N h) (hW : WP P c) (hN : WN c N) {i j : Nat} (hi : i < c 2) (hj' : j < c 5) (v x : Int32) : fX13_next_48 FU h 77 (Int32.ofNat i) (Int32.ofNat j) v x 0 0 = bd2 (fX13_fraction h 77 (lp (stNx P c N i j v) (c 3) 0 0) (100 * lp (stAll P c N) (c 3) 0 0) x) fun w6 h2 => some (w6, h2) := m_nextL M hW hN hi hj' v x
theorem m_mean' (M : MM o P c N h) (hW : WP P c) (hN : WN c N) {s j : Nat} (hs : s < c 3) (hj' : j < c 5) (x : Int32) : fX13_mean_34 FU h 77 (Int32.ofNat s) (Int32.ofNat j) x 0 0 = bd2 (fX13_fraction h 77 (lp (stMn P c N s j) (c 2) 0 0) 100 x) fun w4 h1 => some (w4, h1) := m_meanL M hW hN hs hj' x
theorem m_heavy' (M : MM o P c N h) (hW : WP P c) (hN : WN c N) (hg : ∀ v, fX13_good1 h 77 v = some (v, hf)) : fX13_likeliest_26 FU h 77 (-2) 0 0 = some ((lp (stHv P c N) (c 3) 0 (-2, 0)).1, hf) := m_heavyL M hW hN hg
theorem m_lawSays' (M : MM o P c N h) (hW : WP P c) (hg : ∀ v, fX13_good1 h 77 v = some (v, hf)) {i : Nat} (hi : i < c 2) : fX13_lawSays_23 FU h 77 (Int32.ofNat i) 0 0 = some (lp (stB (bVs P c N i)) 3 0 0, hf) := m_lawSaysL M hW hg hi
theorem m_good' (M : MM o P c N h) (hW : WP P c) (hg : ∀ v, fX13_good1 h 77 v = some (v, hf)) {b : Nat} (hb : b ≤ 20) : fX13_good_41 FU h 77 (Int32.ofNat b) (set0 c) 0 = some (gdB P c N b, hf) := m_goodL M hW hg hb
theorem m_settled' (M : MM o P c N h) (hW : WP P c) (hg : ∀ v, fX13_good1 h 77 v = some (v, hf)) : fX13_settled_25 FU h 77 (set0 c) 0 = some (fS (lx (stS P c N) 21 0 (set0 c)), hf) := m_settledL M hW hg
theorem m_steady' (M : MM o P c N h) (hW : WP P c) (hg : ∀ v, fX13_good1 h 77 v = some (v, hf)) : fX13_steady_22 FU h 77 0 0 = some (lp (stC (bSt P c N)) (2 ^ c 3) 0 0, hf) := m_steadyL M hW hg
theorem m_applicants' (M : MM o P c N h) (hW : WP P c) (h3 : 1 ≤ c 3) (hg : ∀ v, fX13_good1 h 77 v = some (v, hf)) : fX13_applicants_24 FU h 77 0 0 = some (mlI P c N, hf) := m_applicantsL M hW h3 hg
theorem m_even' (M : MM o P c N h) (hW : WP P c) (hg : ∀ v, fX13_good1 h 77 v = some (v, hf)) : fX13_even_24 FU h 77 0 0 = some (lp (stE P c N) (c 3) 0 0, hf) := m_evenL M hW hg
theorem c_part100 (C : CD p P c N h) {a : Nat} (ha : a < 1099511627776) (x : Int32) : fX11_answerPart h 0 (Int64.ofNat a) 100 x = some (frc a 100 x, sI h 0 10 0) := c_part C ha (b := 100) (by decide) x
theorem m_part100 (hk : ck h 77 13 = some ()) (hg : ∀ v, fX13_good1 h 77 v = some (v, hf)) {a : Nat} (ha : a < 1099511627776) (x : Int32) : fX13_fraction h 77 (Int64.ofNat a) 100 x = some (frc a 100 x, hf) := m_part hk hg ha (b := 100) (by decide) x
theorem j_100 (a : Nat) : (100 : Int64) * Int64.ofNat a = Int64.ofNat (100 * a) := (Int64.ofNat_mul 100 a).symm
theorem k_le01 : ((1 : Int32) ≤ 0) = False := by decide
theorem k_le06 : ((6 : Int32) ≤ 0) = False := by decide
theorem k_le00 : ((0 : Int32) ≤ 0) = True := by decide
theorem k_le02 : ((2 : Int32) ≤ 0) = False := by decide
theorem k_60 : ((6 : Int32) = 0) = False := by decide
theorem k_20 : ((2 : Int32) = 0) = False := by decide
theorem o_sayers (R : RR p P c N f a m w h) (x v : Int32) : OB p P c N f a m w h (fX11_sayers h 0 x v) (fun h => fX13_sayers h 77 x v) := by
  have C := R.1
  have hq : ∀ t, ∃ p, CS p (sI (sI h 0 10 t) 77 0 0).2.2 := fun t => ⟨p, R.cs⟩
  have hk : ∀ t, ck (sI (sI h 0 10 t) 77 0 0) 77 13 = some () := fun t => ck_at (show (sI (sI h 0 10 t) 77 0 0).2.2.2[77]? = some (13, 0) from R.s1 t)
  by_cases g0 : inB x (c 2) = true
  rotate_left
  · refine R.ob1 (-1) 1 (by decide) ?_ ?_
    · simp only [fX11_sayers, C.desk, C.k5, C.k11, C.plan, C.now, C.k4, C.k7, c_hasPaperN C g0, c_refuse C, bd_some, bd2_some, i10, i00, if_false, if_true]
    · simp only [fX13_sayers, pI_at (R.s1 1), hk 1, q_isPaperN (R.q1 1) (hq 1) g0, m_refused (R.s1 1), bd_some, bd2_some, i10, i00, if_false, if_true]
  by_cases g1 : inB v 3 = true
  rotate_left
  · refine R.ob1 (-1) 2 (by decide) ?_ ?_
    · simp only [fX11_sayers, C.desk, C.k5, C.k11, C.plan, C.now, C.k4, C.k7, c_hasPaperY C g0, c_isVerdictN g1, c_refuse C, bd_some, bd2_some, i10, i00, if_false, if_true]
    · simp only [fX13_sayers, pI_at (R.s1 2), hk 2, q_isPaperY (R.q1 2) (hq 2) g0, m_isVerdictN g1, m_refused (R.s1 2), bd_some, bd2_some, i10, i00, if_false, if_true]
  obtain ⟨i, hi, rfl⟩ := inB_at (C.b31 2 (by decide)) g0
  obtain ⟨o, M⟩ := R.m1 0 (k := 2) (by omega)
  have hp5 := C.p5
  have hs4 := C.s4
  have hr10 := C.r10
  have hh3 := C.h3
  have hW := R.2.1
  have hN := R.2.2.1
  have hg := m_good1 (R.s1 0)
  refine R.ob1 (lp (stB (bSay P c N (N i) v)) (c 3) 0 0) 0 (by decide) ?_ ?_
  · simp only [fX11_sayers, C.desk, C.k5, C.k11, C.plan, C.now, C.k4, C.k7, c_hasPaperY C g0, c_isVerdictY g1, c_marksOf C (show i < 5 by omega), c_stamps C, c_answer C, bd_some, bd2_some, i10, i00, if_false, if_true]
  · simp only [fX13_sayers, pI_at (R.s1 0), hk 0, q_isPaperY (R.q1 0) (hq 0) g0, m_isVerdictY g1, m_sayersL' M hW hg hi, hg, bd_some, bd2_some, i10, i00, if_false, if_true]
theorem o_idleRules (R : RR p P c N f a m w h) (x : Int32) : OB p P c N f a m w h (fX11_idleRules h 0 x) (fun h => fX13_idleRules h 77 x) := by
  have C := R.1
  have hq : ∀ t, ∃ p, CS p (sI (sI h 0 10 t) 77 0 0).2.2 := fun t => ⟨p, R.cs⟩
  have hk : ∀ t, ck (sI (sI h 0 10 t) 77 0 0) 77 13 = some () := fun t => ck_at (show (sI (sI h 0 10 t) 77 0 0).2.2.2[77]? = some (13, 0) from R.s1 t)
  by_cases g0 : inB x (c 3) = true
  rotate_left
  · refine R.ob1 (-1) 1 (by decide) ?_ ?_
    · simp only [fX11_idleRules, C.desk, C.k5, C.k11, C.plan, C.now, C.k4, C.k7, c_hasStampN C g0, c_refuse C, bd_some, bd2_some, i10, i00, if_false, if_true]
    · simp only [fX13_idleRules, pI_at (R.s1 1), hk 1, q_isStampN (R.q1 1) (hq 1) g0, m_refused (R.s1 1), bd_some, bd2_some, i10, i00, if_false, if_true]
  obtain ⟨s, hs, rfl⟩ := inB_at (C.b31 3 (by decide)) g0
  obtain ⟨o, M⟩ := R.m1 0 (k := 3) (by omega)
  have hp5 := C.p5
  have hs4 := C.s4
  have hr10 := C.r10
  have hh3 := C.h3
  have hW := R.2.1
  have hN := R.2.2.1
  have hg := m_good1 (R.s1 0)
  refine R.ob1 (lp (stI P c (Int32.ofNat s)) (2 ^ c 1) 0 (lp (stB (bRul P (Int32.ofNat s))) (c 4) 0 0)) 0 (by decide) ?_ ?_
  · simp only [fX11_idleRules, C.desk, C.k5, C.k11, C.plan, C.now, C.k4, C.k7, c_hasStampY C g0, c_idle C, c_answer C, bd_some, bd2_some, i10, i00, if_false, if_true]
  · simp only [fX13_idleRules, pI_at (R.s1 0), hk 0, q_isStampY (R.q1 0) (hq 0) g0, m_idle' M hW hg, hg, bd_some, bd2_some, i10, i00, if_false, if_true]
theorem o_differ (R : RR p P c N f a m w h) (x y : Int32) : OB p P c N f a m w h (fX11_differ h 0 x y) (fun h => fX13_differ h 77 x y) := by
  have C := R.1
  have hq : ∀ t, ∃ p, CS p (sI (sI h 0 10 t) 77 0 0).2.2 := fun t => ⟨p, R.cs⟩
  have hk : ∀ t, ck (sI (sI h 0 10 t) 77 0 0) 77 13 = some () := fun t => ck_at (show (sI (sI h 0 10 t) 77 0 0).2.2.2[77]? = some (13, 0) from R.s1 t)
  by_cases g0 : inB x (c 3) = true
  rotate_left
  · refine R.ob1 (-1) 1 (by decide) ?_ ?_
    · simp only [fX11_differ, C.desk, C.k5, C.k11, C.plan, C.now, C.k4, C.k7, c_hasStampN C g0, c_refuse C, bd_some, bd2_some, i10, i00, if_false, if_true]
    · simp only [fX13_differ, pI_at (R.s1 1), hk 1, q_isStampN (R.q1 1) (hq 1) g0, m_refused (R.s1 1), bd_some, bd2_some, i10, i00, if_false, if_true]
  by_cases g1 : inB y (c 3) = true
  rotate_left
  · refine R.ob1 (-1) 1 (by decide) ?_ ?_
    · simp only [fX11_differ, C.desk, C.k5, C.k11, C.plan, C.now, C.k4, C.k7, c_hasStampY C g0, c_hasStampN C g1, c_refuse C, bd_some, bd2_some, i10, i00, if_false, if_true]
    · simp only [fX13_differ, pI_at (R.s1 1), hk 1, q_isStampY (R.q1 1) (hq 1) g0, q_isStampN (R.q1 1) (hq 1) g1, m_refused (R.s1 1), bd_some, bd2_some, i10, i00, if_false, if_true]
  by_cases g2 : x = y
  · refine R.ob1 (-1) 1 (by decide) ?_ ?_
    · simp only [fX11_differ, C.desk, C.k5, C.k11, C.plan, C.now, C.k4, C.k7, c_hasStampY C g0, c_hasStampY C g1, if_pos g2, c_refuse C, bd_some, bd2_some, i10, i00, if_false, if_true]
    · simp only [fX13_differ, pI_at (R.s1 1), hk 1, q_isStampY (R.q1 1) (hq 1) g0, q_isStampY (R.q1 1) (hq 1) g1, if_pos g2, m_refused (R.s1 1), bd_some, bd2_some, i10, i00, if_false, if_true]
  obtain ⟨i, hi, rfl⟩ := inB_at (C.b31 3 (by decide)) g0
  obtain ⟨j, hj, rfl⟩ := inB_at (C.b31 3 (by decide)) g1
  obtain ⟨o, M⟩ := R.m1 0 (k := 3) (by omega)
  have hp5 := C.p5
  have hs4 := C.s4
  have hr10 := C.r10
  have hh3 := C.h3
  have hW := R.2.1
  have hN := R.2.2.1
  have hg := m_good1 (R.s1 0)
  refine R.ob1 (lp (stD P c N i j) (2 ^ c 1) 0 0) 0 (by decide) ?_ ?_
  · simp only [fX11_differ, C.desk, C.k5, C.k11, C.plan, C.now, C.k4, C.k7, c_hasStampY C g0, c_hasStampY C g1, if_neg g2, c_differ C hi hj, c_answer C, bd_some, bd2_some, i10, i00, if_false, if_true]
  · simp only [fX13_differ, pI_at (R.s1 0), hk 0, q_isStampY (R.q1 0) (hq 0) g0, q_isStampY (R.q1 0) (hq 0) g1, if_neg g2, m_differ' M hW hg hi hj, hg, bd_some, bd2_some, i10, i00, if_false, if_true]
theorem o_judges (R : RR p P c N f a m w h) (x y : Int32) : OB p P c N f a m w h (fX11_judges h 0 x y) (fun h => fX13_judges h 77 x y) := by
  have C := R.1
  have hq : ∀ t, ∃ p, CS p (sI (sI h 0 10 t) 77 0 0).2.2 := fun t => ⟨p, R.cs⟩
  have hk : ∀ t, ck (sI (sI h 0 10 t) 77 0 0) 77 13 = some () := fun t => ck_at (show (sI (sI h 0 10 t) 77 0 0).2.2.2[77]? = some (13, 0) from R.s1 t)
  by_cases g0 : inB x (c 3) = true
  rotate_left
  · refine R.ob1 (-1) 1 (by decide) ?_ ?_
    · simp only [fX11_judges, C.desk, C.k5, C.k11, C.plan, C.now, C.k4, C.k7, c_hasStampN C g0, c_refuse C, bd_some, bd2_some, i10, i00, if_false, if_true]
    · simp only [fX13_judges, pI_at (R.s1 1), hk 1, q_isStampN (R.q1 1) (hq 1) g0, m_refused (R.s1 1), bd_some, bd2_some, i10, i00, if_false, if_true]
  by_cases g1 : inB y (c 3) = true
  rotate_left
  · refine R.ob1 (-1) 1 (by decide) ?_ ?_
    · simp only [fX11_judges, C.desk, C.k5, C.k11, C.plan, C.now, C.k4, C.k7, c_hasStampY C g0, c_hasStampN C g1, c_refuse C, bd_some, bd2_some, i10, i00, if_false, if_true]
    · simp only [fX13_judges, pI_at (R.s1 1), hk 1, q_isStampY (R.q1 1) (hq 1) g0, q_isStampN (R.q1 1) (hq 1) g1, m_refused (R.s1 1), bd_some, bd2_some, i10, i00, if_false, if_true]
  by_cases g2 : x = y
  · refine R.ob1 (-1) 1 (by decide) ?_ ?_
    · simp only [fX11_judges, C.desk, C.k5, C.k11, C.plan, C.now, C.k4, C.k7, c_hasStampY C g0, c_hasStampY C g1, if_pos g2, c_refuse C, bd_some, bd2_some, i10, i00, if_false, if_true]
    · simp only [fX13_judges, pI_at (R.s1 1), hk 1, q_isStampY (R.q1 1) (hq 1) g0, q_isStampY (R.q1 1) (hq 1) g1, if_pos g2, m_refused (R.s1 1), bd_some, bd2_some, i10, i00, if_false, if_true]
  obtain ⟨i, hi, rfl⟩ := inB_at (C.b31 3 (by decide)) g0
  obtain ⟨j, hj, rfl⟩ := inB_at (C.b31 3 (by decide)) g1
  obtain ⟨o, M⟩ := R.m1 0 (k := 3) (by omega)
  have hp5 := C.p5
  have hs4 := C.s4
  have hr10 := C.r10
  have hh3 := C.h3
  have hW := R.2.1
  have hN := R.2.2.1
  have hg := m_good1 (R.s1 0)
  refine R.ob1 (say P c N i (P 3 j)) 0 (by decide) ?_ ?_
  · simp only [fX11_judges, C.desk, C.k5, C.k11, C.plan, C.now, C.k4, C.k7, c_hasStampY C g0, c_hasStampY C g1, if_neg g2, C.t3, C.a3 hj, c_sayOf C hi, c_answer C, bd_some, bd2_some, i10, i00, if_false, if_true]
  · simp only [fX13_judges, pI_at (R.s1 0), hk 0, q_isStampY (R.q1 0) (hq 0) g0, q_isStampY (R.q1 0) (hq 0) g1, if_neg g2, M.off, M.t3, M.a3 hj, m_saysBy M hW hi, hg, bd_some, bd2_some, i10, i00, if_false, if_true]
theorem o_has (R : RR p P c N f a m w h) (x y : Int32) : OB p P c N f a m w h (fX11_has h 0 x y) (fun h => fX13_has h 77 x y) := by
  have C := R.1
  have hq : ∀ t, ∃ p, CS p (sI (sI h 0 10 t) 77 0 0).2.2 := fun t => ⟨p, R.cs⟩
  have hk : ∀ t, ck (sI (sI h 0 10 t) 77 0 0) 77 13 = some () := fun t => ck_at (show (sI (sI h 0 10 t) 77 0 0).2.2.2[77]? = some (13, 0) from R.s1 t)
  by_cases g0 : inB x (c 3) = true
  rotate_left
  · refine R.ob1 (-1) 1 (by decide) ?_ ?_
    · simp only [fX11_has, C.desk, C.k5, C.k11, C.plan, C.now, C.k4, C.k7, c_hasStampN C g0, c_refuse C, bd_some, bd2_some, i10, i00, if_false, if_true]
    · simp only [fX13_has, pI_at (R.s1 1), hk 1, q_isStampN (R.q1 1) (hq 1) g0, m_refused (R.s1 1), bd_some, bd2_some, i10, i00, if_false, if_true]
  by_cases g1 : inB y (c 2) = true
  rotate_left
  · refine R.ob1 (-1) 1 (by decide) ?_ ?_
    · simp only [fX11_has, C.desk, C.k5, C.k11, C.plan, C.now, C.k4, C.k7, c_hasStampY C g0, c_hasPaperN C g1, c_refuse C, bd_some, bd2_some, i10, i00, if_false, if_true]
    · simp only [fX13_has, pI_at (R.s1 1), hk 1, q_isStampY (R.q1 1) (hq 1) g0, q_isPaperN (R.q1 1) (hq 1) g1, m_refused (R.s1 1), bd_some, bd2_some, i10, i00, if_false, if_true]
  obtain ⟨s, hs, rfl⟩ := inB_at (C.b31 3 (by decide)) g0
  obtain ⟨i, hi, rfl⟩ := inB_at (C.b31 2 (by decide)) g1
  obtain ⟨o, M⟩ := R.m1 0 (k := 3) (by omega)
  have hp5 := C.p5
  have hs4 := C.s4
  have hr10 := C.r10
  have hh3 := C.h3
  have hW := R.2.1
  have hN := R.2.2.1
  have hg := m_good1 (R.s1 0)
  refine R.ob1 (gn P c N s i) 0 (by decide) ?_ ?_
  · simp only [fX11_has, C.desk, C.k5, C.k11, C.plan, C.now, C.k4, C.k7, c_hasStampY C g0, c_hasPaperY C g1, C.gam, C.gamK, c_gain C hs hi, c_answer C, bd_some, bd2_some, i10, i00, if_false, if_true]
  · simp only [fX13_has, pI_at (R.s1 0), hk 0, q_isStampY (R.q1 0) (hq 0) g0, q_isPaperY (R.q1 0) (hq 0) g1, m_hasBy M hW hs hi, hg, bd_some, bd2_some, i10, i00, if_false, if_true]
theorem o_worded (R : RR p P c N f a m w h) : OB p P c N f a m w h (fX11_worded h 0) (fun h => fX13_worded h 77) := by
  have C := R.1
  have hq : ∀ t, ∃ p, CS p (sI (sI h 0 10 t) 77 0 0).2.2 := fun t => ⟨p, R.cs⟩
  have hk : ∀ t, ck (sI (sI h 0 10 t) 77 0 0) 77 13 = some () := fun t => ck_at (show (sI (sI h 0 10 t) 77 0 0).2.2.2[77]? = some (13, 0) from R.s1 t)
  rcases R.op with ⟨q9, o, M1⟩ | ⟨q9, gz⟩
  rotate_left
  · refine R.ob1 (-1) 1 (by decide) ?_ ?_
    · simp only [fX11_worded, C.desk, C.k5, C.k11, C.plan, C.now, C.k4, C.k7, C.opn, q9, c_refuse C, bd_some, bd2_some, i10, i00, if_false, if_true]
    · simp only [fX13_worded, pI_at (R.s1 1), hk 1, gz 1, btt, m_refused (R.s1 1), bd_some, bd2_some, i10, i00, if_false, if_true]
  have M0 := M1 0
  have M := M0
  have hp5 := C.p5
  have hs4 := C.s4
  have hr10 := C.r10
  have hh3 := C.h3
  have hW := R.2.1
  have hN := R.2.2.1
  have hg := m_good1 (R.s1 0)
  refine R.ob1 (oI (lp (stW (okW P c N)) (2 ^ c 1) 0 none)) 0 (by decide) ?_ ?_
  · simp only [fX11_worded, C.desk, C.k5, C.k11, C.plan, C.now, C.k4, C.k7, C.opn, q9, c_worded C, c_answer C, bd_some, bd2_some, i10, i00, if_false, if_true]
  · simp only [fX13_worded, pI_at (R.s1 0), hk 0, M0.offZ, bft, m_worded' M hW hg, hg, bd_some, bd2_some, i10, i00, if_false, if_true]
theorem o_reword (R : RR p P c N f a m w h) (x y v : Int32) : OB p P c N f a m w h (fX11_reword h 0 x y v) (fun h => fX13_reword h 77 x y v) := by
  have C := R.1
  have hq : ∀ t, ∃ p, CS p (sI (sI h 0 10 t) 77 0 0).2.2 := fun t => ⟨p, R.cs⟩
  have hk : ∀ t, ck (sI (sI h 0 10 t) 77 0 0) 77 13 = some () := fun t => ck_at (show (sI (sI h 0 10 t) 77 0 0).2.2.2[77]? = some (13, 0) from R.s1 t)
  by_cases g0 : inB x (c 2) = true
  rotate_left
  · refine R.ob1 (-1) 1 (by decide) ?_ ?_
    · simp only [fX11_reword, C.desk, C.k5, C.k11, C.plan, C.now, C.k4, C.k7, c_hasPaperN C g0, c_refuse C, bd_some, bd2_some, i10, i00, if_false, if_true]
    · simp only [fX13_reword, pI_at (R.s1 1), hk 1, q_isPaperN (R.q1 1) (hq 1) g0, m_refused (R.s1 1), bd_some, bd2_some, i10, i00, if_false, if_true]
  by_cases g1 : inB y (c 3) = true
  rotate_left
  · refine R.ob1 (-1) 1 (by decide) ?_ ?_
    · simp only [fX11_reword, C.desk, C.k5, C.k11, C.plan, C.now, C.k4, C.k7, c_hasPaperY C g0, c_hasStampN C g1, c_refuse C, bd_some, bd2_some, i10, i00, if_false, if_true]
    · simp only [fX13_reword, pI_at (R.s1 1), hk 1, q_isPaperY (R.q1 1) (hq 1) g0, q_isStampN (R.q1 1) (hq 1) g1, m_refused (R.s1 1), bd_some, bd2_some, i10, i00, if_false, if_true]
  by_cases g2 : inB v 3 = true
  rotate_left
  · refine R.ob1 (-1) 2 (by decide) ?_ ?_
    · simp only [fX11_reword, C.desk, C.k5, C.k11, C.plan, C.now, C.k4, C.k7, c_hasPaperY C g0, c_hasStampY C g1, c_isVerdictN g2, c_refuse C, bd_some, bd2_some, i10, i00, if_false, if_true]
    · simp only [fX13_reword, pI_at (R.s1 2), hk 2, q_isPaperY (R.q1 2) (hq 2) g0, q_isStampY (R.q1 2) (hq 2) g1, m_isVerdictN g2, m_refused (R.s1 2), bd_some, bd2_some, i10, i00, if_false, if_true]
  obtain ⟨i, hi, rfl⟩ := inB_at (C.b31 2 (by decide)) g0
  obtain ⟨s, hs, rfl⟩ := inB_at (C.b31 3 (by decide)) g1
  obtain ⟨o, M⟩ := R.m1 0 (k := 2) (by omega)
  have hp5 := C.p5
  have hs4 := C.s4
  have hr10 := C.r10
  have hh3 := C.h3
  have hW := R.2.1
  have hN := R.2.2.1
  have hg := m_good1 (R.s1 0)
  refine R.ob1 (oI (lp (stW (okRw P c N i s v)) (2 ^ c 1) 0 none)) 0 (by decide) ?_ ?_
  · simp only [fX11_reword, C.desk, C.k5, C.k11, C.plan, C.now, C.k4, C.k7, c_hasPaperY C g0, c_hasStampY C g1, c_isVerdictY g2, c_reword C hi hs, c_answer C, bd_some, bd2_some, i10, i00, if_false, if_true]
  · simp only [fX13_reword, pI_at (R.s1 0), hk 0, q_isPaperY (R.q1 0) (hq 0) g0, q_isStampY (R.q1 0) (hq 0) g1, m_isVerdictY g2, m_reword' M hW hg hi hs, hg, bd_some, bd2_some, i10, i00, if_false, if_true]
theorem o_bestMark (R : RR p P c N f a m w h) (x : Int32) : OB p P c N f a m w h (fX11_bestMark h 0 x) (fun h => fX13_bestMark h 77 x) := by
  have C := R.1
  have hq : ∀ t, ∃ p, CS p (sI (sI h 0 10 t) 77 0 0).2.2 := fun t => ⟨p, R.cs⟩
  have hk : ∀ t, ck (sI (sI h 0 10 t) 77 0 0) 77 13 = some () := fun t => ck_at (show (sI (sI h 0 10 t) 77 0 0).2.2.2[77]? = some (13, 0) from R.s1 t)
  by_cases g0 : inB x (c 2) = true
  rotate_left
  · refine R.ob1 (-1) 1 (by decide) ?_ ?_
    · simp only [fX11_bestMark, C.desk, C.k5, C.k11, C.plan, C.now, C.k4, C.k7, c_hasPaperN C g0, c_refuse C, bd_some, bd2_some, i10, i00, if_false, if_true]
    · simp only [fX13_bestMark, pI_at (R.s1 1), hk 1, q_isPaperN (R.q1 1) (hq 1) g0, m_refused (R.s1 1), bd_some, bd2_some, i10, i00, if_false, if_true]
  obtain ⟨i, hi, rfl⟩ := inB_at (C.b31 2 (by decide)) g0
  obtain ⟨o, M⟩ := R.m1 0 (k := 2) (by omega)
  have hp5 := C.p5
  have hs4 := C.s4
  have hr10 := C.r10
  have hh3 := C.h3
  have hW := R.2.1
  have hN := R.2.2.1
  have hg := m_good1 (R.s1 0)
  refine R.ob1 ((lp (stM P c N i) (c 1) 0 (-2, yS P c N (N i))).1) 0 (by decide) ?_ ?_
  · simp only [fX11_bestMark, C.desk, C.k5, C.k11, C.plan, C.now, C.k4, C.k7, c_hasPaperY C g0, c_best C hi, c_answer C, bd_some, bd2_some, i10, i00, if_false, if_true]
  · simp only [fX13_bestMark, pI_at (R.s1 0), hk 0, q_isPaperY (R.q1 0) (hq 0) g0, M.v, M.marks (show i < 5 by omega), m_yesSaid' M hW, m_best' M hW hg hi, hg, bd_some, bd2_some, i10, i00, if_false, if_true]
theorem o_odds (R : RR p P c N f a m w h) (x y : Int32) : OB p P c N f a m w h (fX11_odds h 0 x y) (fun h => fX13_odds h 77 x y) := by
  have C := R.1
  have hq : ∀ t, ∃ p, CS p (sI (sI h 0 10 t) 77 0 0).2.2 := fun t => ⟨p, R.cs⟩
  have hk : ∀ t, ck (sI (sI h 0 10 t) 77 0 0) 77 13 = some () := fun t => ck_at (show (sI (sI h 0 10 t) 77 0 0).2.2.2[77]? = some (13, 0) from R.s1 t)
  by_cases g0 : inB x (c 3) = true
  rotate_left
  · refine R.ob1 (Int32.toInt64 (-1)) 1 (by decide) ?_ ?_
    · simp only [fX11_odds, C.desk, C.k5, C.k11, C.plan, C.now, C.k4, C.k7, c_hasStampN C g0, c_refuse C, bd_some, bd2_some, i10, i00, if_false, if_true]
    · simp only [fX13_odds, pI_at (R.s1 1), hk 1, q_isStampN (R.q1 1) (hq 1) g0, m_refused (R.s1 1), bd_some, bd2_some, i10, i00, if_false, if_true]
  obtain ⟨s, hs, rfl⟩ := inB_at (C.b31 3 (by decide)) g0
  obtain ⟨o, M⟩ := R.m1 0 (k := 3) (by omega)
  have hp5 := C.p5
  have hs4 := C.s4
  have hr10 := C.r10
  have hh3 := C.h3
  have hW := R.2.1
  have hN := R.2.2.1
  have hg := m_good1 (R.s1 0)
  obtain ⟨x1, l1, e1⟩ := wt_N (N := N) hW C.2.1 s
  obtain ⟨x2, l2, e2⟩ := all_N (N := N) hW C.2.1
  refine R.ob1 (frc x1 x2 y) 0 (by decide) ?_ ?_
  · simp only [fX11_odds, C.desk, C.k5, C.k11, C.plan, C.now, C.k4, C.k7, c_hasStampY C g0, C.str, C.strK, c_weight C hW hs, c_allW C hW, e1, e2, c_part C (show x1 < 1099511627776 by omega) (show x2 < 1099511627776 by omega), c_answer C, bd_some, bd2_some, i10, i00, if_false, if_true]
  · simp only [fX13_odds, pI_at (R.s1 0), hk 0, q_isStampY (R.q1 0) (hq 0) g0, m_weight M hW hN hs, m_allW M hW hN, e1, e2, m_part (hk 0) hg (show x1 < 1099511627776 by omega) (show x2 < 1099511627776 by omega), hg, bd_some, bd2_some, i10, i00, if_false, if_true]
theorem o_likeliest (R : RR p P c N f a m w h) : OB p P c N f a m w h (fX11_likeliest h 0) (fun h => fX13_likeliest h 77) := by
  have C := R.1
  have hq : ∀ t, ∃ p, CS p (sI (sI h 0 10 t) 77 0 0).2.2 := fun t => ⟨p, R.cs⟩
  have hk : ∀ t, ck (sI (sI h 0 10 t) 77 0 0) 77 13 = some () := fun t => ck_at (show (sI (sI h 0 10 t) 77 0 0).2.2.2[77]? = some (13, 0) from R.s1 t)
  rcases R.op with ⟨q9, o, M1⟩ | ⟨q9, gz⟩
  rotate_left
  · refine R.ob1 (-1) 1 (by decide) ?_ ?_
    · simp only [fX11_likeliest, C.desk, C.k5, C.k11, C.plan, C.now, C.k4, C.k7, C.opn, q9, c_refuse C, bd_some, bd2_some, i10, i00, if_false, if_true]
    · simp only [fX13_likeliest, pI_at (R.s1 1), hk 1, gz 1, btt, m_refused (R.s1 1), bd_some, bd2_some, i10, i00, if_false, if_true]
  have M0 := M1 0
  have M := M0
  have hp5 := C.p5
  have hs4 := C.s4
  have hr10 := C.r10
  have hh3 := C.h3
  have hW := R.2.1
  have hN := R.2.2.1
  have hg := m_good1 (R.s1 0)
  refine R.ob1 ((lp (stHv P c N) (c 3) 0 (-2, 0)).1) 0 (by decide) ?_ ?_
  · simp only [fX11_likeliest, C.desk, C.k5, C.k11, C.plan, C.now, C.k4, C.k7, C.opn, q9, C.str, C.strK, c_heavy C hW, c_answer C, bd_some, bd2_some, i10, i00, if_false, if_true]
  · simp only [fX13_likeliest, pI_at (R.s1 0), hk 0, M0.offZ, bft, m_heavy' M hW hN hg, hg, bd_some, bd2_some, i10, i00, if_false, if_true]
theorem o_next (R : RR p P c N f a m w h) (x y v z : Int32) : OB p P c N f a m w h (fX11_next h 0 x y v z) (fun h => fX13_next h 77 x y v z) := by
  have C := R.1
  have hq : ∀ t, ∃ p, CS p (sI (sI h 0 10 t) 77 0 0).2.2 := fun t => ⟨p, R.cs⟩
  have hk : ∀ t, ck (sI (sI h 0 10 t) 77 0 0) 77 13 = some () := fun t => ck_at (show (sI (sI h 0 10 t) 77 0 0).2.2.2[77]? = some (13, 0) from R.s1 t)
  by_cases g0 : inB x (c 2) = true
  rotate_left
  · refine R.ob1 (Int32.toInt64 (-1)) 1 (by decide) ?_ ?_
    · simp only [fX11_next, C.desk, C.k5, C.k11, C.plan, C.now, C.k4, C.k7, c_hasPaperN C g0, c_refuse C, bd_some, bd2_some, i10, i00, if_false, if_true]
    · simp only [fX13_next, pI_at (R.s1 1), hk 1, q_isPaperN (R.q1 1) (hq 1) g0, m_refused (R.s1 1), bd_some, bd2_some, i10, i00, if_false, if_true]
  by_cases g1 : inB y (c 5) = true
  rotate_left
  · refine R.ob1 (Int32.toInt64 (-1)) 1 (by decide) ?_ ?_
    · simp only [fX11_next, C.desk, C.k5, C.k11, C.plan, C.now, C.k4, C.k7, c_hasPaperY C g0, c_hasHandN C g1, c_refuse C, bd_some, bd2_some, i10, i00, if_false, if_true]
    · simp only [fX13_next, pI_at (R.s1 1), hk 1, q_isPaperY (R.q1 1) (hq 1) g0, q_isHandN (R.q1 1) (hq 1) g1, m_refused (R.s1 1), bd_some, bd2_some, i10, i00, if_false, if_true]
  by_cases g2 : inB v 3 = true
  rotate_left
  · refine R.ob1 (Int32.toInt64 (-1)) 2 (by decide) ?_ ?_
    · simp only [fX11_next, C.desk, C.k5, C.k11, C.plan, C.now, C.k4, C.k7, c_hasPaperY C g0, c_hasHandY C g1, c_isVerdictN g2, c_refuse C, bd_some, bd2_some, i10, i00, if_false, if_true]
    · simp only [fX13_next, pI_at (R.s1 2), hk 2, q_isPaperY (R.q1 2) (hq 2) g0, q_isHandY (R.q1 2) (hq 2) g1, m_isVerdictN g2, m_refused (R.s1 2), bd_some, bd2_some, i10, i00, if_false, if_true]
  obtain ⟨i, hi, rfl⟩ := inB_at (C.b31 2 (by decide)) g0
  obtain ⟨j, hj, rfl⟩ := inB_at (C.b31 5 (by decide)) g1
  obtain ⟨o, M⟩ := R.m1 0 (k := 2) (by omega)
  have hp5 := C.p5
  have hs4 := C.s4
  have hr10 := C.r10
  have hh3 := C.h3
  have hW := R.2.1
  have hN := R.2.2.1
  have hg := m_good1 (R.s1 0)
  obtain ⟨x1, l1, e1⟩ := nx_N (N := N) (i := i) hW C.2.1 hj v
  obtain ⟨x2, l2, e2⟩ := all_N (N := N) hW C.2.1
  refine R.ob1 (frc x1 (100 * x2) z) 0 (by decide) ?_ ?_
  · simp only [fX11_next, C.desk, C.k5, C.k11, C.plan, C.now, C.k4, C.k7, c_hasPaperY C g0, c_hasHandY C g1, c_isVerdictY g2, C.str, C.strK, c_nextW C hW hi hj, c_allW C hW, e1, e2, j_100, c_part C (show x1 < 1099511627776 by omega) (show 100 * x2 < 1099511627776 by omega), c_answer C, bd_some, bd2_some, i10, i00, if_false, if_true]
  · simp only [fX13_next, pI_at (R.s1 0), hk 0, q_isPaperY (R.q1 0) (hq 0) g0, q_isHandY (R.q1 0) (hq 0) g1, m_isVerdictY g2, m_next' M hW hN hi hj, e1, e2, j_100, m_part (hk 0) hg (show x1 < 1099511627776 by omega) (show 100 * x2 < 1099511627776 by omega), hg, bd_some, bd2_some, i10, i00, if_false, if_true]
theorem o_laws (R : RR p P c N f a m w h) : OB p P c N f a m w h (fX11_laws h 0) (fun h => fX13_laws h 77) := by
  have C := R.1
  have hq : ∀ t, ∃ p, CS p (sI (sI h 0 10 t) 77 0 0).2.2 := fun t => ⟨p, R.cs⟩
  have hk : ∀ t, ck (sI (sI h 0 10 t) 77 0 0) 77 13 = some () := fun t => ck_at (show (sI (sI h 0 10 t) 77 0 0).2.2.2[77]? = some (13, 0) from R.s1 t)
  rcases R.op with ⟨q9, o, M1⟩ | ⟨q9, gz⟩
  rotate_left
  · refine R.ob1 (-1) 1 (by decide) ?_ ?_
    · simp only [fX11_laws, C.desk, C.k5, C.k11, C.plan, C.now, C.k4, C.k7, C.opn, q9, c_refuse C, bd_some, bd2_some, i10, i00, if_false, if_true]
    · simp only [fX13_laws, pI_at (R.s1 1), hk 1, gz 1, btt, m_refused (R.s1 1), bd_some, bd2_some, i10, i00, if_false, if_true]
  have M0 := M1 0
  have M := M0
  have hp5 := C.p5
  have hs4 := C.s4
  have hr10 := C.r10
  have hh3 := C.h3
  have hW := R.2.1
  have hN := R.2.2.1
  have hg := m_good1 (R.s1 0)
  refine R.ob1 (Int32.ofNat (cN (fit P c N) (nl c))) 0 (by decide) ?_ ?_
  · simp only [fX11_laws, C.desk, C.k5, C.k11, C.plan, C.now, C.k4, C.k7, C.opn, q9, C.str, C.strK, c_fitting C hW, c_lawsN C, c_answer C, bd_some, bd2_some, i10, i00, if_false, if_true]
  · simp only [fX13_laws, pI_at (R.s1 0), hk 0, M0.offZ, bft, m_lawsAny M hW, hg, bd_some, bd2_some, i10, i00, if_false, if_true]
theorem o_lawSays (R : RR p P c N f a m w h) (x : Int32) : OB p P c N f a m w h (fX11_lawSays h 0 x) (fun h => fX13_lawSays h 77 x) := by
  have C := R.1
  have hq : ∀ t, ∃ p, CS p (sI (sI h 0 10 t) 77 0 0).2.2 := fun t => ⟨p, R.cs⟩
  have hk : ∀ t, ck (sI (sI h 0 10 t) 77 0 0) 77 13 = some () := fun t => ck_at (show (sI (sI h 0 10 t) 77 0 0).2.2.2[77]? = some (13, 0) from R.s1 t)
  by_cases g0 : inB x (c 2) = true
  rotate_left
  · refine R.ob1 (-1) 1 (by decide) ?_ ?_
    · simp only [fX11_lawSays, C.desk, C.k5, C.k11, C.plan, C.now, C.k4, C.k7, c_hasPaperN C g0, c_refuse C, bd_some, bd2_some, i10, i00, if_false, if_true]
    · simp only [fX13_lawSays, pI_at (R.s1 1), hk 1, q_isPaperN (R.q1 1) (hq 1) g0, m_refused (R.s1 1), bd_some, bd2_some, i10, i00, if_false, if_true]
  obtain ⟨i, hi, rfl⟩ := inB_at (C.b31 2 (by decide)) g0
  obtain ⟨o, M⟩ := R.m1 0 (k := 2) (by omega)
  have hp5 := C.p5
  have hs4 := C.s4
  have hr10 := C.r10
  have hh3 := C.h3
  have hW := R.2.1
  have hN := R.2.2.1
  have hg := m_good1 (R.s1 0)
  refine R.ob1 (lp (stB (bVs P c N i)) 3 0 0) 0 (by decide) ?_ ?_
  · simp only [fX11_lawSays, C.desk, C.k5, C.k11, C.plan, C.now, C.k4, C.k7, c_hasPaperY C g0, C.str, C.strK, c_lawSays C hW hi, c_answer C, bd_some, bd2_some, i10, i00, if_false, if_true]
  · simp only [fX13_lawSays, pI_at (R.s1 0), hk 0, q_isPaperY (R.q1 0) (hq 0) g0, m_lawSays' M hW hg hi, hg, bd_some, bd2_some, i10, i00, if_false, if_true]
theorem o_good (R : RR p P c N f a m w h) (x : Int32) : OB p P c N f a m w h (fX11_good h 0 x) (fun h => fX13_good h 77 x) := by
  have C := R.1
  have hq : ∀ t, ∃ p, CS p (sI (sI h 0 10 t) 77 0 0).2.2 := fun t => ⟨p, R.cs⟩
  have hk : ∀ t, ck (sI (sI h 0 10 t) 77 0 0) 77 13 = some () := fun t => ck_at (show (sI (sI h 0 10 t) 77 0 0).2.2.2[77]? = some (13, 0) from R.s1 t)
  rcases R.op with ⟨q9, o, M1⟩ | ⟨q9, gz⟩
  rotate_left
  · refine R.ob1 (-1) 1 (by decide) ?_ ?_
    · simp only [fX11_good, C.desk, C.k5, C.k11, C.plan, C.now, C.k4, C.k7, C.opn, q9, c_refuse C, bd_some, bd2_some, i10, i00, if_false, if_true]
    · simp only [fX13_good, pI_at (R.s1 1), hk 1, gz 1, btt, m_refused (R.s1 1), bd_some, bd2_some, i10, i00, if_false, if_true]
  have M0 := M1 0
  by_cases g1a : x < 0
  · refine R.ob1 (-1) 2 (by decide) ?_ ?_
    · simp only [fX11_good, C.desk, C.k5, C.k11, C.plan, C.now, C.k4, C.k7, C.opn, q9, if_pos g1a, c_refuse C, bd_some, bd2_some, i10, i00, if_false, if_true]
    · simp only [fX13_good, pI_at (R.s1 2), hk 2, (M1 2).offZ, bft, fX13_in, if_pos g1a, m_refused (R.s1 2), bd_some, bd2_some, i10, i00, if_false, if_true]
  by_cases g1b : x ≤ 20
  rotate_left
  · refine R.ob1 (-1) 2 (by decide) ?_ ?_
    · simp only [fX11_good, C.desk, C.k5, C.k11, C.plan, C.now, C.k4, C.k7, C.opn, q9, if_neg g1a, if_neg g1b, c_refuse C, bd_some, bd2_some, i10, i00, if_false, if_true]
    · simp only [fX13_good, pI_at (R.s1 2), hk 2, (M1 2).offZ, bft, fX13_in, if_neg g1a, if_pos (Int32.not_le.mp g1b), m_refused (R.s1 2), bd_some, bd2_some, i10, i00, if_false, if_true]
  have M := M0
  have hp5 := C.p5
  have hs4 := C.s4
  have hr10 := C.r10
  have hh3 := C.h3
  have hW := R.2.1
  have hN := R.2.2.1
  have hg := m_good1 (R.s1 0)
  obtain ⟨b, hb, rfl⟩ : ∃ b, b ≤ 20 ∧ x = Int32.ofNat b := by
    have q1 := g1a
    have q2 := g1b
    rw [Int32.lt_iff_toInt_lt, Int32.toInt_zero] at q1
    rw [Int32.le_iff_toInt_le, show (20 : Int32).toInt = 20 by decide] at q2
    exact ⟨x.toInt.toNat, by omega, i32_of_toInt (by omega) (by omega)⟩
  refine R.ob1 (gdB P c N b) 0 (by decide) ?_ ?_
  · simp only [fX11_good, C.desk, C.k5, C.k11, C.plan, C.now, C.k4, C.k7, C.opn, q9, if_neg g1a, if_pos g1b, C.ben, C.benK, c_good C hb, c_answer C, bd_some, bd2_some, i10, i00, if_false, if_true]
  · simp only [fX13_good, pI_at (R.s1 0), hk 0, M0.offZ, bft, fX13_in, if_neg g1a, if_neg (Int32.not_lt.mpr g1b), m_allStamps M, m_good' M hW hg hb, hg, bd_some, bd2_some, i10, i00, if_false, if_true]
theorem o_settled (R : RR p P c N f a m w h) : OB p P c N f a m w h (fX11_settled h 0) (fun h => fX13_settled h 77) := by
  have C := R.1
  have hq : ∀ t, ∃ p, CS p (sI (sI h 0 10 t) 77 0 0).2.2 := fun t => ⟨p, R.cs⟩
  have hk : ∀ t, ck (sI (sI h 0 10 t) 77 0 0) 77 13 = some () := fun t => ck_at (show (sI (sI h 0 10 t) 77 0 0).2.2.2[77]? = some (13, 0) from R.s1 t)
  rcases R.op with ⟨q9, o, M1⟩ | ⟨q9, gz⟩
  rotate_left
  · refine R.ob1 (-1) 1 (by decide) ?_ ?_
    · simp only [fX11_settled, C.desk, C.k5, C.k11, C.plan, C.now, C.k4, C.k7, C.opn, q9, c_refuse C, bd_some, bd2_some, i10, i00, if_false, if_true]
    · simp only [fX13_settled, pI_at (R.s1 1), hk 1, gz 1, btt, m_refused (R.s1 1), bd_some, bd2_some, i10, i00, if_false, if_true]
  have M0 := M1 0
  have M := M0
  have hp5 := C.p5
  have hs4 := C.s4
  have hr10 := C.r10
  have hh3 := C.h3
  have hW := R.2.1
  have hN := R.2.2.1
  have hg := m_good1 (R.s1 0)
  refine R.ob1 (fS (lx (stS P c N) 21 0 (set0 c))) 0 (by decide) ?_ ?_
  · simp only [fX11_settled, C.desk, C.k5, C.k11, C.plan, C.now, C.k4, C.k7, C.opn, q9, C.ben, C.benK, c_settled C, c_answer C, bd_some, bd2_some, i10, i00, if_false, if_true]
  · simp only [fX13_settled, pI_at (R.s1 0), hk 0, M0.offZ, bft, m_allStamps M, m_settled' M hW hg, hg, bd_some, bd2_some, i10, i00, if_false, if_true]
theorem o_steady (R : RR p P c N f a m w h) : OB p P c N f a m w h (fX11_steady h 0) (fun h => fX13_steady h 77) := by
  have C := R.1
  have hq : ∀ t, ∃ p, CS p (sI (sI h 0 10 t) 77 0 0).2.2 := fun t => ⟨p, R.cs⟩
  have hk : ∀ t, ck (sI (sI h 0 10 t) 77 0 0) 77 13 = some () := fun t => ck_at (show (sI (sI h 0 10 t) 77 0 0).2.2.2[77]? = some (13, 0) from R.s1 t)
  rcases R.op with ⟨q9, o, M1⟩ | ⟨q9, gz⟩
  rotate_left
  · refine R.ob1 (-1) 1 (by decide) ?_ ?_
    · simp only [fX11_steady, C.desk, C.k5, C.k11, C.plan, C.now, C.k4, C.k7, C.opn, q9, c_refuse C, bd_some, bd2_some, i10, i00, if_false, if_true]
    · simp only [fX13_steady, pI_at (R.s1 1), hk 1, gz 1, btt, m_refused (R.s1 1), bd_some, bd2_some, i10, i00, if_false, if_true]
  have M0 := M1 0
  have M := M0
  have hp5 := C.p5
  have hs4 := C.s4
  have hr10 := C.r10
  have hh3 := C.h3
  have hW := R.2.1
  have hN := R.2.2.1
  have hg := m_good1 (R.s1 0)
  refine R.ob1 (lp (stC (bSt P c N)) (2 ^ c 3) 0 0) 0 (by decide) ?_ ?_
  · simp only [fX11_steady, C.desk, C.k5, C.k11, C.plan, C.now, C.k4, C.k7, C.opn, q9, C.ben, C.benK, c_steady C, c_answer C, bd_some, bd2_some, i10, i00, if_false, if_true]
  · simp only [fX13_steady, pI_at (R.s1 0), hk 0, M0.offZ, bft, m_steady' M hW hg, hg, bd_some, bd2_some, i10, i00, if_false, if_true]
theorem o_clerks (R : RR p P c N f a m w h) : OB p P c N f a m w h (fX11_clerks h 0) (fun h => fX13_clerks h 77) := by
  have C := R.1
  have hq : ∀ t, ∃ p, CS p (sI (sI h 0 10 t) 77 0 0).2.2 := fun t => ⟨p, R.cs⟩
  have hk : ∀ t, ck (sI (sI h 0 10 t) 77 0 0) 77 13 = some () := fun t => ck_at (show (sI (sI h 0 10 t) 77 0 0).2.2.2[77]? = some (13, 0) from R.s1 t)
  rcases R.op with ⟨q9, o, M1⟩ | ⟨q9, gz⟩
  rotate_left
  · refine R.ob1 (-1) 1 (by decide) ?_ ?_
    · simp only [fX11_clerks, fX11_troubleOfGame, C.c3, k_60, C.desk, C.k5, C.k11, C.plan, C.now, C.k4, C.k7, C.opn, q9, c_refuse C, bd_some, bd2_some, i10, i00, if_false, if_true]
    · simp only [fX13_clerks, fX13_refusesGame, k_le01, k_le06, k_le00, pI_at (R.s1 1), hk 1, gz 1, btt, m_refused (R.s1 1), bd_some, bd2_some, i10, i00, if_false, if_true]
  have M0 := M1 0
  by_cases g1 : Int32.ofNat (c 3) = 0
  · refine R.ob1 (-1) 6 (by decide) ?_ ?_
    · simp only [fX11_clerks, fX11_troubleOfGame, C.c3, k_60, C.desk, C.k5, C.k11, C.plan, C.now, C.k4, C.k7, C.opn, q9, if_pos g1, c_refuse C, bd_some, bd2_some, i10, i00, if_false, if_true]
    · simp only [fX13_clerks, fX13_refusesGame, k_le01, k_le06, k_le00, pI_at (R.s1 6), hk 6, (M1 6).off, (M1 6).c3, (M1 6).offZ, bft, if_pos g1, m_refused (R.s1 6), bd_some, bd2_some, i10, i00, if_false, if_true]
  have M := M0
  have hp5 := C.p5
  have hs4 := C.s4
  have hr10 := C.r10
  have hh3 := C.h3
  have hW := R.2.1
  have hN := R.2.2.1
  have hg := m_good1 (R.s1 0)
  have h3 : 1 ≤ c 3 := by
    have q : ¬ c 3 = 0 := fun q => g1 (by rw [q]; rfl)
    omega
  obtain ⟨pk1, pk2⟩ := m_pick M hW h3
  have pk3 := (pk_is (P := P) (N := N) hW h3).1
  refine R.ob1 (lmI P c N) 0 (by decide) ?_ ?_
  · simp only [fX11_clerks, fX11_troubleOfGame, C.c3, k_60, C.desk, C.k5, C.k11, C.plan, C.now, C.k4, C.k7, C.opn, q9, if_neg g1, C.gam, C.gamK, c_leastOfMost C, c_answer C, bd_some, bd2_some, i10, i00, if_false, if_true]
  · simp only [fX13_clerks, fX13_refusesGame, k_le01, k_le06, k_le00, pI_at (R.s1 0), hk 0, M.off, M.c3, M0.offZ, bft, if_neg g1, pk1, m_givesMost M hW pk2, pk3, hg, bd_some, bd2_some, i10, i00, if_false, if_true]
theorem o_applicants (R : RR p P c N f a m w h) : OB p P c N f a m w h (fX11_applicants h 0) (fun h => fX13_applicants h 77) := by
  have C := R.1
  have hq : ∀ t, ∃ p, CS p (sI (sI h 0 10 t) 77 0 0).2.2 := fun t => ⟨p, R.cs⟩
  have hk : ∀ t, ck (sI (sI h 0 10 t) 77 0 0) 77 13 = some () := fun t => ck_at (show (sI (sI h 0 10 t) 77 0 0).2.2.2[77]? = some (13, 0) from R.s1 t)
  rcases R.op with ⟨q9, o, M1⟩ | ⟨q9, gz⟩
  rotate_left
  · refine R.ob1 (-1) 1 (by decide) ?_ ?_
    · simp only [fX11_applicants, fX11_troubleOfGame, C.c3, k_60, C.desk, C.k5, C.k11, C.plan, C.now, C.k4, C.k7, C.opn, q9, c_refuse C, bd_some, bd2_some, i10, i00, if_false, if_true]
    · simp only [fX13_applicants, fX13_refusesGame, k_le01, k_le06, k_le00, pI_at (R.s1 1), hk 1, gz 1, btt, m_refused (R.s1 1), bd_some, bd2_some, i10, i00, if_false, if_true]
  have M0 := M1 0
  by_cases g1 : Int32.ofNat (c 3) = 0
  · refine R.ob1 (-1) 6 (by decide) ?_ ?_
    · simp only [fX11_applicants, fX11_troubleOfGame, C.c3, k_60, C.desk, C.k5, C.k11, C.plan, C.now, C.k4, C.k7, C.opn, q9, if_pos g1, c_refuse C, bd_some, bd2_some, i10, i00, if_false, if_true]
    · simp only [fX13_applicants, fX13_refusesGame, k_le01, k_le06, k_le00, pI_at (R.s1 6), hk 6, (M1 6).off, (M1 6).c3, (M1 6).offZ, bft, if_pos g1, m_refused (R.s1 6), bd_some, bd2_some, i10, i00, if_false, if_true]
  have M := M0
  have hp5 := C.p5
  have hs4 := C.s4
  have hr10 := C.r10
  have hh3 := C.h3
  have hW := R.2.1
  have hN := R.2.2.1
  have hg := m_good1 (R.s1 0)
  have h3 : 1 ≤ c 3 := by
    have q : ¬ c 3 = 0 := fun q => g1 (by rw [q]; rfl)
    omega
  refine R.ob1 (mlI P c N) 0 (by decide) ?_ ?_
  · simp only [fX11_applicants, fX11_troubleOfGame, C.c3, k_60, C.desk, C.k5, C.k11, C.plan, C.now, C.k4, C.k7, C.opn, q9, if_neg g1, C.gam, C.gamK, c_mostOfLeast C, c_answer C, bd_some, bd2_some, i10, i00, if_false, if_true]
  · simp only [fX13_applicants, fX13_refusesGame, k_le01, k_le06, k_le00, pI_at (R.s1 0), hk 0, M.off, M.c3, M0.offZ, bft, if_neg g1, m_applicants' M hW h3 hg, hg, bd_some, bd2_some, i10, i00, if_false, if_true]
theorem o_clerkPicks (R : RR p P c N f a m w h) : OB p P c N f a m w h (fX11_clerkPicks h 0) (fun h => fX13_clerkPicks h 77) := by
  have C := R.1
  have hq : ∀ t, ∃ p, CS p (sI (sI h 0 10 t) 77 0 0).2.2 := fun t => ⟨p, R.cs⟩
  have hk : ∀ t, ck (sI (sI h 0 10 t) 77 0 0) 77 13 = some () := fun t => ck_at (show (sI (sI h 0 10 t) 77 0 0).2.2.2[77]? = some (13, 0) from R.s1 t)
  rcases R.op with ⟨q9, o, M1⟩ | ⟨q9, gz⟩
  rotate_left
  · refine R.ob1 (-1) 1 (by decide) ?_ ?_
    · simp only [fX11_clerkPicks, fX11_troubleOfGame, C.c3, k_60, C.desk, C.k5, C.k11, C.plan, C.now, C.k4, C.k7, C.opn, q9, c_refuse C, bd_some, bd2_some, i10, i00, if_false, if_true]
    · simp only [fX13_clerkPicks, fX13_refusesGame, k_le01, k_le06, k_le00, pI_at (R.s1 1), hk 1, gz 1, btt, m_refused (R.s1 1), bd_some, bd2_some, i10, i00, if_false, if_true]
  have M0 := M1 0
  by_cases g1 : Int32.ofNat (c 3) = 0
  · refine R.ob1 (-1) 6 (by decide) ?_ ?_
    · simp only [fX11_clerkPicks, fX11_troubleOfGame, C.c3, k_60, C.desk, C.k5, C.k11, C.plan, C.now, C.k4, C.k7, C.opn, q9, if_pos g1, c_refuse C, bd_some, bd2_some, i10, i00, if_false, if_true]
    · simp only [fX13_clerkPicks, fX13_refusesGame, k_le01, k_le06, k_le00, pI_at (R.s1 6), hk 6, (M1 6).off, (M1 6).c3, (M1 6).offZ, bft, if_pos g1, m_refused (R.s1 6), bd_some, bd2_some, i10, i00, if_false, if_true]
  have M := M0
  have hp5 := C.p5
  have hs4 := C.s4
  have hr10 := C.r10
  have hh3 := C.h3
  have hW := R.2.1
  have hN := R.2.2.1
  have hg := m_good1 (R.s1 0)
  have h3 : 1 ≤ c 3 := by
    have q : ¬ c 3 = 0 := fun q => g1 (by rw [q]; rfl)
    omega
  obtain ⟨pk1, pk2⟩ := m_pick M hW h3
  refine R.ob1 (Int32.ofNat (pk P c N)) 0 (by decide) ?_ ?_
  · simp only [fX11_clerkPicks, fX11_troubleOfGame, C.c3, k_60, C.desk, C.k5, C.k11, C.plan, C.now, C.k4, C.k7, C.opn, q9, if_neg g1, C.gam, C.gamK, c_clerk C hW h3 pk2, c_answer C, bd_some, bd2_some, i10, i00, if_false, if_true]
  · simp only [fX13_clerkPicks, fX13_refusesGame, k_le01, k_le06, k_le00, pI_at (R.s1 0), hk 0, M.off, M.c3, M0.offZ, bft, if_neg g1, pk1, hg, bd_some, bd2_some, i10, i00, if_false, if_true]
theorem o_even (R : RR p P c N f a m w h) : OB p P c N f a m w h (fX11_even h 0) (fun h => fX13_even h 77) := by
  have C := R.1
  have hq : ∀ t, ∃ p, CS p (sI (sI h 0 10 t) 77 0 0).2.2 := fun t => ⟨p, R.cs⟩
  have hk : ∀ t, ck (sI (sI h 0 10 t) 77 0 0) 77 13 = some () := fun t => ck_at (show (sI (sI h 0 10 t) 77 0 0).2.2.2[77]? = some (13, 0) from R.s1 t)
  rcases R.op with ⟨q9, o, M1⟩ | ⟨q9, gz⟩
  rotate_left
  · refine R.ob1 (-1) 1 (by decide) ?_ ?_
    · simp only [fX11_even, fX11_troubleOfGame, C.c3, k_60, C.desk, C.k5, C.k11, C.plan, C.now, C.k4, C.k7, C.opn, q9, c_refuse C, bd_some, bd2_some, i10, i00, if_false, if_true]
    · simp only [fX13_even, fX13_refusesGame, k_le01, k_le06, k_le00, pI_at (R.s1 1), hk 1, gz 1, btt, m_refused (R.s1 1), bd_some, bd2_some, i10, i00, if_false, if_true]
  have M0 := M1 0
  by_cases g1 : Int32.ofNat (c 3) = 0
  · refine R.ob1 (-1) 6 (by decide) ?_ ?_
    · simp only [fX11_even, fX11_troubleOfGame, C.c3, k_60, C.desk, C.k5, C.k11, C.plan, C.now, C.k4, C.k7, C.opn, q9, if_pos g1, c_refuse C, bd_some, bd2_some, i10, i00, if_false, if_true]
    · simp only [fX13_even, fX13_refusesGame, k_le01, k_le06, k_le00, pI_at (R.s1 6), hk 6, (M1 6).off, (M1 6).c3, (M1 6).offZ, bft, if_pos g1, m_refused (R.s1 6), bd_some, bd2_some, i10, i00, if_false, if_true]
  have M := M0
  have hp5 := C.p5
  have hs4 := C.s4
  have hr10 := C.r10
  have hh3 := C.h3
  have hW := R.2.1
  have hN := R.2.2.1
  have hg := m_good1 (R.s1 0)
  have h3 : 1 ≤ c 3 := by
    have q : ¬ c 3 = 0 := fun q => g1 (by rw [q]; rfl)
    omega
  refine R.ob1 (lp (stE P c N) (c 3) 0 0) 0 (by decide) ?_ ?_
  · simp only [fX11_even, fX11_troubleOfGame, C.c3, k_60, C.desk, C.k5, C.k11, C.plan, C.now, C.k4, C.k7, C.opn, q9, if_neg g1, C.gam, C.gamK, c_even C, c_answer C, bd_some, bd2_some, i10, i00, if_false, if_true]
  · simp only [fX13_even, fX13_refusesGame, k_le01, k_le06, k_le00, pI_at (R.s1 0), hk 0, M.off, M.c3, M0.offZ, bft, if_neg g1, m_even' M hW hg, hg, bd_some, bd2_some, i10, i00, if_false, if_true]
theorem o_sure (R : RR p P c N f a m w h) (x y z v l : Int32) : OB p P c N f a m w h (fX11_sure h 0 x y z v l) (fun h => fX13_sure h 77 x y z v l) := by
  have C := R.1
  have hq : ∀ t, ∃ p, CS p (sI (sI h 0 10 t) 77 0 0).2.2 := fun t => ⟨p, R.cs⟩
  have hk : ∀ t, ck (sI (sI h 0 10 t) 77 0 0) 77 13 = some () := fun t => ck_at (show (sI (sI h 0 10 t) 77 0 0).2.2.2[77]? = some (13, 0) from R.s1 t)
  by_cases g0 : inB x (c 3) = true
  rotate_left
  · refine R.ob1 (Int32.toInt64 (-1)) 1 (by decide) ?_ ?_
    · simp only [fX11_sure, fX5_hasAll, C.desk, C.k5, C.k11, C.plan, C.now, C.k4, C.k7, c_hasStampN C g0, c_refuse C, bd_some, bd2_some, i10, i00, if_false, if_true]
    · simp only [fX13_sure, pI_at (R.s1 1), hk 1, q_isStampN (R.q1 1) (hq 1) g0, m_refused (R.s1 1), bd_some, bd2_some, i10, i00, if_false, if_true]
  by_cases g1 : inB y (c 5) = true
  rotate_left
  · refine R.ob1 (Int32.toInt64 (-1)) 1 (by decide) ?_ ?_
    · simp only [fX11_sure, fX5_hasAll, C.desk, C.k5, C.k11, C.plan, C.now, C.k4, C.k7, c_hasStampY C g0, c_hasHandN C g1, c_refuse C, bd_some, bd2_some, i10, i00, if_false, if_true]
    · simp only [fX13_sure, pI_at (R.s1 1), hk 1, q_isStampY (R.q1 1) (hq 1) g0, q_isHandN (R.q1 1) (hq 1) g1, m_refused (R.s1 1), bd_some, bd2_some, i10, i00, if_false, if_true]
  by_cases g2 : inB z (c 2) = true
  rotate_left
  · refine R.ob1 (Int32.toInt64 (-1)) 1 (by decide) ?_ ?_
    · simp only [fX11_sure, fX5_hasAll, C.desk, C.k5, C.k11, C.plan, C.now, C.k4, C.k7, c_hasStampY C g0, c_hasHandY C g1, c_hasPaperN C g2, c_refuse C, bd_some, bd2_some, i10, i00, if_false, if_true]
    · simp only [fX13_sure, pI_at (R.s1 1), hk 1, q_isStampY (R.q1 1) (hq 1) g0, q_isHandY (R.q1 1) (hq 1) g1, q_isPaperN (R.q1 1) (hq 1) g2, m_refused (R.s1 1), bd_some, bd2_some, i10, i00, if_false, if_true]
  by_cases g3 : inB v 3 = true
  rotate_left
  · refine R.ob1 (Int32.toInt64 (-1)) 2 (by decide) ?_ ?_
    · simp only [fX11_sure, fX5_hasAll, C.desk, C.k5, C.k11, C.plan, C.now, C.k4, C.k7, c_hasStampY C g0, c_hasHandY C g1, c_hasPaperY C g2, c_isVerdictN g3, c_refuse C, bd_some, bd2_some, i10, i00, if_false, if_true]
    · simp only [fX13_sure, pI_at (R.s1 2), hk 2, q_isStampY (R.q1 2) (hq 2) g0, q_isHandY (R.q1 2) (hq 2) g1, q_isPaperY (R.q1 2) (hq 2) g2, m_isVerdictN g3, m_refused (R.s1 2), bd_some, bd2_some, i10, i00, if_false, if_true]
  obtain ⟨s, hs, rfl⟩ := inB_at (C.b31 3 (by decide)) g0
  obtain ⟨j, hj, rfl⟩ := inB_at (C.b31 5 (by decide)) g1
  obtain ⟨i, hi, rfl⟩ := inB_at (C.b31 2 (by decide)) g2
  obtain ⟨o, M⟩ := R.m1 0 (k := 3) (by omega)
  have hp5 := C.p5
  have hs4 := C.s4
  have hr10 := C.r10
  have hh3 := C.h3
  have hW := R.2.1
  have hN := R.2.2.1
  have hg := m_good1 (R.s1 0)
  obtain ⟨e1, l1⟩ := hun_N hW hj (sayN P c N s i) v
  refine R.ob1 (frc (hnN P j (sayN P c N s i) v) 100 l) 0 (by decide) ?_ ?_
  · simp only [fX11_sure, fX5_hasAll, C.desk, C.k5, C.k11, C.plan, C.now, C.k4, C.k7, c_hasStampY C g0, c_hasHandY C g1, c_hasPaperY C g2, c_isVerdictY g3, c_sayOn C hs hi, c_hundredths C hj, e1, k_i2l (show hnN P j (sayN P c N s i) v < 2147483648 by omega), c_part100 C (show hnN P j (sayN P c N s i) v < 1099511627776 by omega), c_answer C, bd_some, bd2_some, i10, i00, if_false, if_true]
  · simp only [fX13_sure, pI_at (R.s1 0), hk 0, q_isStampY (R.q1 0) (hq 0) g0, q_isHandY (R.q1 0) (hq 0) g1, q_isPaperY (R.q1 0) (hq 0) g2, m_isVerdictY g3, m_saysNow M hW hs hi, m_partOf M hj (sayN_VD hW hN hs i), e1, k_i2l (show hnN P j (sayN P c N s i) v < 2147483648 by omega), m_part100 (hk 0) hg (show hnN P j (sayN P c N s i) v < 1099511627776 by omega), hg, bd_some, bd2_some, i10, i00, if_false, if_true]
theorem o_mean (R : RR p P c N f a m w h) (x y l : Int32) : OB p P c N f a m w h (fX11_mean h 0 x y l) (fun h => fX13_mean h 77 x y l) := by
  have C := R.1
  have hq : ∀ t, ∃ p, CS p (sI (sI h 0 10 t) 77 0 0).2.2 := fun t => ⟨p, R.cs⟩
  have hk : ∀ t, ck (sI (sI h 0 10 t) 77 0 0) 77 13 = some () := fun t => ck_at (show (sI (sI h 0 10 t) 77 0 0).2.2.2[77]? = some (13, 0) from R.s1 t)
  by_cases g0 : inB x (c 3) = true
  rotate_left
  · refine R.ob1 (Int32.toInt64 (-1)) 1 (by decide) ?_ ?_
    · simp only [fX11_mean, C.desk, C.k5, C.k11, C.plan, C.now, C.k4, C.k7, c_hasStampN C g0, c_refuse C, bd_some, bd2_some, i10, i00, if_false, if_true]
    · simp only [fX13_mean, pI_at (R.s1 1), hk 1, q_isStampN (R.q1 1) (hq 1) g0, m_refused (R.s1 1), bd_some, bd2_some, i10, i00, if_false, if_true]
  by_cases g1 : inB y (c 5) = true
  rotate_left
  · refine R.ob1 (Int32.toInt64 (-1)) 1 (by decide) ?_ ?_
    · simp only [fX11_mean, C.desk, C.k5, C.k11, C.plan, C.now, C.k4, C.k7, c_hasStampY C g0, c_hasHandN C g1, c_refuse C, bd_some, bd2_some, i10, i00, if_false, if_true]
    · simp only [fX13_mean, pI_at (R.s1 1), hk 1, q_isStampY (R.q1 1) (hq 1) g0, q_isHandN (R.q1 1) (hq 1) g1, m_refused (R.s1 1), bd_some, bd2_some, i10, i00, if_false, if_true]
  obtain ⟨s, hs, rfl⟩ := inB_at (C.b31 3 (by decide)) g0
  obtain ⟨j, hj, rfl⟩ := inB_at (C.b31 5 (by decide)) g1
  obtain ⟨o, M⟩ := R.m1 0 (k := 3) (by omega)
  have hp5 := C.p5
  have hs4 := C.s4
  have hr10 := C.r10
  have hh3 := C.h3
  have hW := R.2.1
  have hN := R.2.2.1
  have hg := m_good1 (R.s1 0)
  obtain ⟨x1, l1, e1⟩ := mn_N (N := N) (s := s) hW C.2.1 hj
  refine R.ob1 (frc x1 100 l) 0 (by decide) ?_ ?_
  · simp only [fX11_mean, C.desk, C.k5, C.k11, C.plan, C.now, C.k4, C.k7, c_hasStampY C g0, c_hasHandY C g1, c_meanW C hs hj, e1, c_part100 C (show x1 < 1099511627776 by omega), c_answer C, bd_some, bd2_some, i10, i00, if_false, if_true]
  · simp only [fX13_mean, pI_at (R.s1 0), hk 0, q_isStampY (R.q1 0) (hq 0) g0, q_isHandY (R.q1 0) (hq 0) g1, m_mean' M hW hN hs hj, e1, m_part100 (hk 0) hg (show x1 < 1099511627776 by omega), hg, bd_some, bd2_some, i10, i00, if_false, if_true]
theorem o_saysOf (R : RR p P c N f a m w h) (x y : Int32) : OB p P c N f a m w h (fX11_saysOf h 0 x y) (fun h => fX13_saysOf h 77 x y) := by
  have C := R.1
  have hq : ∀ t, ∃ p, CS p (sI (sI h 0 10 t) 77 0 0).2.2 := fun t => ⟨p, R.cs⟩
  have hk : ∀ t, ck (sI (sI h 0 10 t) 77 0 0) 77 13 = some () := fun t => ck_at (show (sI (sI h 0 10 t) 77 0 0).2.2.2[77]? = some (13, 0) from R.s1 t)
  by_cases g0 : inB x (c 3) = true
  rotate_left
  · refine R.ob1 (-1) 1 (by decide) ?_ ?_
    · simp only [fX11_saysOf, C.desk, C.k5, C.k11, C.plan, C.now, C.k4, C.k7, c_hasStampN C g0, c_refuse C, bd_some, bd2_some, i10, i00, if_false, if_true]
    · simp only [fX13_saysOf, pI_at (R.s1 1), hk 1, q_isStampN (R.q1 1) (hq 1) g0, m_refused (R.s1 1), bd_some, bd2_some, i10, i00, if_false, if_true]
  by_cases g1 : y < 0
  · refine R.ob1 (-1) 1 (by decide) ?_ ?_
    · simp only [fX11_saysOf, C.desk, C.k5, C.k11, C.plan, C.now, C.k4, C.k7, c_hasStampY C g0, if_pos g1, c_refuse C, bd_some, bd2_some, i10, i00, if_false, if_true]
    · simp only [fX13_saysOf, pI_at (R.s1 1), hk 1, q_isStampY (R.q1 1) (hq 1) g0, if_pos g1, m_refused (R.s1 1), bd_some, bd2_some, i10, i00, if_false, if_true]
  obtain ⟨s, hs, rfl⟩ := inB_at (C.b31 3 (by decide)) g0
  by_cases g2 : y < Int32.ofNat (2 ^ c 1)
  · obtain ⟨o, M⟩ := R.m1 0 (k := 3) (by omega)
    have hW := R.2.1
    refine R.ob1 (say P c N s y) 0 (by decide) ?_ ?_
    · simp only [fX11_saysOf, C.desk, C.k5, C.k11, C.plan, C.now, C.k4, C.k7, c_hasStampY C g0, if_neg g1, c_markSets C, if_pos g2, c_sayOf C hs, c_answer C, bd_some, bd2_some, i10, i00, if_false, if_true]
    · simp only [fX13_saysOf, pI_at (R.s1 0), hk 0, q_isStampY (R.q1 0) (hq 0) g0, if_neg g1, m_allMarks M, if_neg (Int32.not_le.mpr g2), m_saysBy M hW hs, m_good1 (R.s1 0), bd_some, bd2_some, i10, i00, if_false, if_true]
  · obtain ⟨o, M⟩ := R.m1 1 (k := 3) (by omega)
    refine R.ob1 (-1) 1 (by decide) ?_ ?_
    · simp only [fX11_saysOf, C.desk, C.k5, C.k11, C.plan, C.now, C.k4, C.k7, c_hasStampY C g0, if_neg g1, c_markSets C, if_neg g2, c_refuse C, bd_some, bd2_some, i10, i00, if_false, if_true]
    · simp only [fX13_saysOf, pI_at (R.s1 1), hk 1, q_isStampY (R.q1 1) (hq 1) g0, if_neg g1, m_allMarks M, if_pos (Int32.not_lt.mp g2), m_refused (R.s1 1), bd_some, bd2_some, i10, i00, if_false, if_true]
theorem m_goodX (hs : h.2.2.2[77]? = some (13, 0)) (v : Int32) : fX13_good1 h 77 v = some (v, sI (sI h 77 1 0) 77 2 (-1)) := by
  simp only [fX13_good1, pI_at hs, pI_at (show (sI h 77 1 0).2.2.2[77]? = some (13, 0) from hs), bd_some]
theorem o_tryNext (R : RR p P c N f a m w h) : OB p P c N f a m w h (fX11_tryNext h 0) (fun h => fX13_tryNext h 77) := by
  have C := R.1
  have hk : ∀ t, ck (sI (sI h 0 10 t) 77 0 0) 77 13 = some () := fun t => ck_at (show (sI (sI h 0 10 t) 77 0 0).2.2.2[77]? = some (13, 0) from R.s1 t)
  have hW := R.2.1
  rcases R.op with ⟨q9, o, M1⟩ | ⟨q9, gz⟩
  · have M := M1 0
    have hs : (sI (sI (sI h 0 10 0) 77 0 0) 77 25 (lefI P c N (tryO P c N) (-2))).2.2.2[77]? = some (13, 0) := M.s77
    refine R.ob (t := 0) (oI (tryO P c N)) (by decide) (h1 := sI h 0 10 0) ?_ cOb_ans (h2 := sI (sI (sI (sI (sI h 0 10 0) 77 0 0) 77 25 (lefI P c N (tryO P c N) (-2))) 77 1 0) 77 2 (-1)) ?_ ?_
    · simp only [fX11_tryNext, fX9_paperToTry, C.desk, C.k5, C.k11, C.plan, C.now, C.k4, C.k7, C.opn, q9, C.str, C.strK, c_fitting C hW, c_paperToTry C hW, c_answer C, bd_some, bd2_some, i10, i00, if_false, if_true]
    · simp only [fX13_tryNext, pI_at (R.s1 0), hk 0, M.offZ, bft, m_tries M hW, ck_at hs, m_goodX hs, bd_some, bd2_some, i10, i00, if_false, if_true]
    · exact ⟨rfl, fun b k _ q => by rw [sI_ne (by omega), sI_ne (by omega), sI_ne (by omega), sI_ne (by omega)], by rw [sI_ne (by omega), sI_eq], sI_eq⟩
  · refine R.ob1 (-1) 1 (by decide) ?_ ?_
    · simp only [fX11_tryNext, C.desk, C.k5, C.k11, C.plan, C.now, C.k4, C.k7, C.opn, q9, c_refuse C, bd_some, bd2_some, i10, i00, if_false, if_true]
    · simp only [fX13_tryNext, pI_at (R.s1 1), hk 1, gz 1, btt, m_refused (R.s1 1), bd_some, bd2_some, i10, i00, if_false, if_true]
theorem o_tryLeaves (R : RR p P c N f a m w h) : OB p P c N f a m w h (fX11_tryLeaves h 0) (fun h => fX13_tryLeaves h 77) := by
  have C := R.1
  have hk : ∀ t, ck (sI (sI h 0 10 t) 77 0 0) 77 13 = some () := fun t => ck_at (show (sI (sI h 0 10 t) 77 0 0).2.2.2[77]? = some (13, 0) from R.s1 t)
  have hW := R.2.1
  rcases R.op with ⟨q9, o, M1⟩ | ⟨q9, gz⟩
  · have M := M1 0
    have hs : (sI (sI (sI h 0 10 0) 77 0 0) 77 25 (lefI P c N (tryO P c N) (-2))).2.2.2[77]? = some (13, 0) := M.s77
    refine R.ob (t := 0) (lefI P c N (tryO P c N) (-2)) (by decide) (h1 := sI h 0 10 0) ?_ cOb_ans (h2 := sI (sI (sI (sI (sI h 0 10 0) 77 0 0) 77 25 (lefI P c N (tryO P c N) (-2))) 77 1 0) 77 2 (-1)) ?_ ?_
    · simp only [fX11_tryLeaves, C.desk, C.k5, C.k11, C.plan, C.now, C.k4, C.k7, C.opn, q9, C.str, C.strK, c_fewestLeft C hW, c_answer C, bd_some, bd2_some, i10, i00, if_false, if_true]
    · simp only [fX13_tryLeaves, pI_at (R.s1 0), hk 0, M.offZ, bft, m_tries M hW, gI_at hs, sI_eq, ck_at hs, m_goodX hs, bd_some, bd2_some, i10, i00, if_false, if_true]
    · exact ⟨rfl, fun b k _ q => by rw [sI_ne (by omega), sI_ne (by omega), sI_ne (by omega), sI_ne (by omega)], by rw [sI_ne (by omega), sI_eq], sI_eq⟩
  · refine R.ob1 (-1) 1 (by decide) ?_ ?_
    · simp only [fX11_tryLeaves, C.desk, C.k5, C.k11, C.plan, C.now, C.k4, C.k7, C.opn, q9, c_refuse C, bd_some, bd2_some, i10, i00, if_false, if_true]
    · simp only [fX13_tryLeaves, pI_at (R.s1 1), hk 1, gz 1, btt, m_refused (R.s1 1), bd_some, bd2_some, i10, i00, if_false, if_true]
end QUF
