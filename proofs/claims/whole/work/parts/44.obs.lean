/-! ===== how questions end ===== -/
theorem i10 : ((1 : Int32) = 0) = False := by decide
theorem i00 : ((0 : Int32) = 0) = True := by decide
theorem bft : (false = true) = False := by decide
theorem btt : (true = true) = True := by decide
section OBS
variable {p : Nat} {P : PT} {c : CT} {N : Nat → Int32} {f a m w : Nat} {h h1 h2 : MH} {t : Int32}
theorem c_hasMarkY (C : CD p P c N h) {x : Int32} (hx : inB x (c 1) = true) : fX5_hasMark h 26 x = some (1, h) := by rw [c_hasMark C, if_pos hx]
theorem c_hasMarkN (C : CD p P c N h) {x : Int32} (hx : ¬ inB x (c 1) = true) : fX5_hasMark h 26 x = some (0, h) := by rw [c_hasMark C, if_neg hx]
theorem c_hasPaperY (C : CD p P c N h) {x : Int32} (hx : inB x (c 2) = true) : fX5_hasPaper h 26 x = some (1, h) := by rw [c_hasPaper C, if_pos hx]
theorem c_hasPaperN (C : CD p P c N h) {x : Int32} (hx : ¬ inB x (c 2) = true) : fX5_hasPaper h 26 x = some (0, h) := by rw [c_hasPaper C, if_neg hx]
theorem c_hasStampY (C : CD p P c N h) {x : Int32} (hx : inB x (c 3) = true) : fX5_hasStamp h 26 x = some (1, h) := by rw [c_hasStamp C, if_pos hx]
theorem c_hasStampN (C : CD p P c N h) {x : Int32} (hx : ¬ inB x (c 3) = true) : fX5_hasStamp h 26 x = some (0, h) := by rw [c_hasStamp C, if_neg hx]
theorem c_hasHandY (C : CD p P c N h) {x : Int32} (hx : inB x (c 5) = true) : fX5_hasHand h 26 x = some (1, h) := by rw [c_hasHand C, if_pos hx]
theorem c_hasHandN (C : CD p P c N h) {x : Int32} (hx : ¬ inB x (c 5) = true) : fX5_hasHand h 26 x = some (0, h) := by rw [c_hasHand C, if_neg hx]
theorem c_hasRuleY (C : CD p P c N h) {x : Int32} (hx : inB x (c 4) = true) : fX5_hasRule h 26 x = some (1, h) := by rw [c_hasRule C, if_pos hx]
theorem c_hasRuleN (C : CD p P c N h) {x : Int32} (hx : ¬ inB x (c 4) = true) : fX5_hasRule h 26 x = some (0, h) := by rw [c_hasRule C, if_neg hx]
theorem MQ2.same (Q : MQ2 P c N h) (e2 : h1.2.2 = h.2.2) (e : ∀ b k, (b = 79 ∨ 90 ≤ b) → h1.1 b k = h.1 b k) (e9 : h1.1 0 9 = h.1 0 9) : MQ2 P c N h1 := by
  rcases Q with ⟨q1, o, q2⟩ | ⟨q1, q2, q3, q4⟩
  · exact Or.inl ⟨e9.trans q1, o, q2.same e2 e⟩
  · exact Or.inr ⟨e9.trans q1, by rw [e2]; exact q2, q3, q4⟩
theorem MQ2.mm (Q : MQ2 P c N h) {t : Nat} (ht : 0 < c t) : ∃ o, MM o P c N h := by
  rcases Q with ⟨q1, o, q2⟩ | ⟨q1, q2, q3, q4⟩
  · exact ⟨o, q2⟩
  · have := q3 t; omega
theorem q_isPaper (Q : MQ2 P c N h) (C : ∃ p, CS p h.2.2) (x : Int32) : fX13_isPaper h 77 x = some (if inB x (c 2) = true then 1 else 0, h) := by
  rcases Q with ⟨q1, o, q2⟩ | ⟨q1, q2, q3, q4⟩
  · exact m_isPaper q2 x
  · obtain ⟨p, hp⟩ := C
    have hs : h.2.2.2[77]? = some (13, 0) := hp.sh 77 rfl
    rw [q3 2, inB_0]
    simp only [fX13_isPaper, gZ_at hs, q2, bd_some, Option.isNone_none, if_true, bft, if_false]
theorem q_isPaperY (Q : MQ2 P c N h) (C : ∃ p, CS p h.2.2) {x : Int32} (hx : inB x (c 2) = true) : fX13_isPaper h 77 x = some (1, h) := by rw [q_isPaper Q C, if_pos hx]
theorem q_isPaperN (Q : MQ2 P c N h) (C : ∃ p, CS p h.2.2) {x : Int32} (hx : ¬ inB x (c 2) = true) : fX13_isPaper h 77 x = some (0, h) := by rw [q_isPaper Q C, if_neg hx]
theorem q_isStamp (Q : MQ2 P c N h) (C : ∃ p, CS p h.2.2) (x : Int32) : fX13_isStamp h 77 x = some (if inB x (c 3) = true then 1 else 0, h) := by
  rcases Q with ⟨q1, o, q2⟩ | ⟨q1, q2, q3, q4⟩
  · exact m_isStamp q2 x
  · obtain ⟨p, hp⟩ := C
    have hs : h.2.2.2[77]? = some (13, 0) := hp.sh 77 rfl
    rw [q3 3, inB_0]
    simp only [fX13_isStamp, gZ_at hs, q2, bd_some, Option.isNone_none, if_true, bft, if_false]
theorem q_isStampY (Q : MQ2 P c N h) (C : ∃ p, CS p h.2.2) {x : Int32} (hx : inB x (c 3) = true) : fX13_isStamp h 77 x = some (1, h) := by rw [q_isStamp Q C, if_pos hx]
theorem q_isStampN (Q : MQ2 P c N h) (C : ∃ p, CS p h.2.2) {x : Int32} (hx : ¬ inB x (c 3) = true) : fX13_isStamp h 77 x = some (0, h) := by rw [q_isStamp Q C, if_neg hx]
theorem q_isHand (Q : MQ2 P c N h) (C : ∃ p, CS p h.2.2) (x : Int32) : fX13_isHand h 77 x = some (if inB x (c 5) = true then 1 else 0, h) := by
  rcases Q with ⟨q1, o, q2⟩ | ⟨q1, q2, q3, q4⟩
  · exact m_isHand q2 x
  · obtain ⟨p, hp⟩ := C
    have hs : h.2.2.2[77]? = some (13, 0) := hp.sh 77 rfl
    rw [q3 5, inB_0]
    simp only [fX13_isHand, gZ_at hs, q2, bd_some, Option.isNone_none, if_true, bft, if_false]
theorem q_isHandY (Q : MQ2 P c N h) (C : ∃ p, CS p h.2.2) {x : Int32} (hx : inB x (c 5) = true) : fX13_isHand h 77 x = some (1, h) := by rw [q_isHand Q C, if_pos hx]
theorem q_isHandN (Q : MQ2 P c N h) (C : ∃ p, CS p h.2.2) {x : Int32} (hx : ¬ inB x (c 5) = true) : fX13_isHand h 77 x = some (0, h) := by rw [q_isHand Q C, if_neg hx]
theorem q_isRule (Q : MQ2 P c N h) (C : ∃ p, CS p h.2.2) (x : Int32) : fX13_isRule h 77 x = some (if inB x (c 4) = true then 1 else 0, h) := by
  rcases Q with ⟨q1, o, q2⟩ | ⟨q1, q2, q3, q4⟩
  · exact m_isRule q2 x
  · obtain ⟨p, hp⟩ := C
    have hs : h.2.2.2[77]? = some (13, 0) := hp.sh 77 rfl
    rw [q3 4, inB_0]
    simp only [fX13_isRule, gZ_at hs, q2, bd_some, Option.isNone_none, if_true, bft, if_false]
theorem q_isRuleY (Q : MQ2 P c N h) (C : ∃ p, CS p h.2.2) {x : Int32} (hx : inB x (c 4) = true) : fX13_isRule h 77 x = some (1, h) := by rw [q_isRule Q C, if_pos hx]
theorem q_isRuleN (Q : MQ2 P c N h) (C : ∃ p, CS p h.2.2) {x : Int32} (hx : ¬ inB x (c 4) = true) : fX13_isRule h 77 x = some (0, h) := by rw [q_isRule Q C, if_neg hx]
theorem c_answer (C : CD p P c N h) (v : Int32) : fX11_answer h 0 v = some (v, sI h 0 10 0) := by simp only [fX11_answer, pI_at (C.1.sh 0 rfl : h.2.2.2[0]? = _), bd_some]
theorem c_refuse (C : CD p P c N h) (v : Int32) : fX11_refuse h 0 v = some (-1, sI h 0 10 v) := by simp only [fX11_refuse, pI_at (C.1.sh 0 rfl : h.2.2.2[0]? = _), bd_some]
/-- the model's cells behind an answer -/
def hM (t : Int32) (h : MH) : MH := sI (sI (sI h 77 0 0) 77 1 t) 77 2 (-1)
theorem m_good1 (hs : h.2.2.2[77]? = some (13, 0)) (v : Int32) : fX13_good1 (sI h 77 0 0) 77 v = some (v, hM 0 h) := by
  simp only [fX13_good1, pI_at (show (sI h 77 0 0).2.2.2[77]? = some (13, 0) from hs), pI_at (show (sI (sI h 77 0 0) 77 1 0).2.2.2[77]? = some (13, 0) from hs), bd_some, hM]
theorem m_refused (hs : h.2.2.2[77]? = some (13, 0)) (v : Int32) : fX13_refused (sI h 77 0 0) 77 v = some (-1, hM v h) := by
  simp only [fX13_refused, pI_at (show (sI h 77 0 0).2.2.2[77]? = some (13, 0) from hs), pI_at (show (sI (sI h 77 0 0) 77 1 v).2.2.2[77]? = some (13, 0) from hs), bd_some, hM]
theorem sI_ne {a k b j : Nat} {x : Int32} (hb : ¬ (b = a ∧ j = k)) : (sI h a k x).1 b j = h.1 b j := if_neg hb
theorem sI_eq {a k : Nat} {x : Int32} : (sI h a k x).1 a k = x := if_pos ⟨rfl, rfl⟩
theorem cOb_ans : cOb t h (sI h 0 10 t) := ⟨rfl, fun b k _ q => sI_ne q, sI_eq⟩
theorem mOb_ans : mOb t h (hM t h) := by
  refine ⟨rfl, fun b k _ q => ?_, ?_, sI_eq⟩
  · unfold hM
    rw [sI_ne (by omega), sI_ne (by omega), sI_ne (by omega)]
  · unfold hM
    rw [sI_ne (by omega), sI_eq]
/-- a question of both: the same answer, the relation kept -/
def OB (p : Nat) (P : PT) (c : CT) (N : Nat → Int32) (f a m w : Nat) (h : MH) {α : Type} (F : Option (α × MH)) (G : MH → Option (α × MH)) : Prop := ∃ r h1 h2, F = some (r, h1) ∧ G h1 = some (r, h2) ∧ RR p P c N f a m w h2 ∧ h2.2 = h.2
theorem RR.ob (R : RR p P c N f a m w h) {α : Type} {F : Option (α × MH)} {G : MH → Option (α × MH)} (r : α) (ht : t ≠ 4) (e1 : F = some (r, h1)) (hc : cOb t h h1) (e2 : G h1 = some (r, h2)) (hm : mOb t h1 h2) : OB p P c N f a m w h F G :=
  ⟨r, h1, h2, e1, e2, R.obs hc hm ht, hm.1.trans hc.1⟩
theorem RR.ob1 (R : RR p P c N f a m w h) {α : Type} {F : Option (α × MH)} {G : MH → Option (α × MH)} (r : α) (t : Int32) (ht : t ≠ 4) (e1 : F = some (r, sI h 0 10 t)) (e2 : G (sI h 0 10 t) = some (r, hM t (sI h 0 10 t))) : OB p P c N f a m w h F G :=
  ⟨r, _, _, e1, e2, R.obs cOb_ans mOb_ans ht, rfl⟩
theorem RR.cs (R : RR p P c N f a m w h) : CS p h.2.2 := R.1.1
theorem RR.q1 (R : RR p P c N f a m w h) (t : Int32) : MQ2 P c N (sI (sI h 0 10 t) 77 0 0) := R.2.2.2.1.same rfl (fun b k q => by rw [sI_ne (by omega), sI_ne (by omega)]) (by rw [sI_ne (by omega), sI_ne (by omega)])
theorem RR.m1 (R : RR p P c N f a m w h) (t : Int32) {k : Nat} (hk : 0 < c k) : ∃ o, MM o P c N (sI (sI h 0 10 t) 77 0 0) := (R.q1 t).mm hk
theorem RR.s1 (R : RR p P c N f a m w h) (t : Int32) : (sI h 0 10 t).2.2.2[77]? = some (13, 0) := R.cs.sh 77 rfl
theorem o_says (R : RR p P c N f a m w h) (x y : Int32) : OB p P c N f a m w h (fX11_says h 0 x y) (fun h => fX13_says h 77 x y) := by
  have C := R.1
  have hq : ∀ t, ∃ p, CS p (sI (sI h 0 10 t) 77 0 0).2.2 := fun t => ⟨p, R.cs⟩
  by_cases hx : inB x (c 3) = true
  · by_cases hy : inB y (c 2) = true
    · obtain ⟨i, hi, rfl⟩ := inB_at (C.b31 3 (by decide)) hx
      obtain ⟨j, hj, rfl⟩ := inB_at (C.b31 2 (by decide)) hy
      obtain ⟨o, M⟩ := R.m1 0 (k := 3) (by omega)
      refine R.ob1 (sayN P c N i j) 0 (by decide) ?_ ?_
      · simp only [fX11_says, C.desk, C.k5, C.k11, c_hasStampY C hx, c_hasPaperY C hy, c_sayOn C hi hj, c_answer C, bd_some, bd2_some, i10, if_false]
      · simp only [fX13_says, pI_at (R.s1 0), M.k13, m_isStamp M, m_isPaper M, hx, hy, if_true, m_saysNow M R.2.1 hi hj, m_good1 (R.s1 0), bd_some, bd2_some, i10, if_false]
    · refine R.ob1 (-1) 1 (by decide) ?_ ?_
      · simp only [fX11_says, C.desk, C.k5, C.k11, c_hasStampY C hx, c_hasPaperN C hy, c_refuse C, bd_some, bd2_some, i10, i00, if_false, if_true]
      · simp only [fX13_says, pI_at (R.s1 1), ck_at (show (sI (sI h 0 10 1) 77 0 0).2.2.2[77]? = some (13, 0) from R.s1 1), q_isStampY (R.q1 1) (hq 1) hx, q_isPaperN (R.q1 1) (hq 1) hy, m_refused (R.s1 1), bd_some, bd2_some, i10, i00, if_false, if_true]
  · refine R.ob1 (-1) 1 (by decide) ?_ ?_
    · simp only [fX11_says, C.desk, C.k5, C.k11, c_hasStampN C hx, c_refuse C, bd_some, bd2_some, i10, i00, if_false, if_true]
    · simp only [fX13_says, pI_at (R.s1 1), ck_at (show (sI (sI h 0 10 1) 77 0 0).2.2.2[77]? = some (13, 0) from R.s1 1), q_isStampN (R.q1 1) (hq 1) hx, m_refused (R.s1 1), bd_some, bd2_some, i10, i00, if_false, if_true]
end OBS
