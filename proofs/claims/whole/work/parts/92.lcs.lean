/-! ===== one call of the law ===== -/
def NX (k : MH → Nat → Nat → Nat → Int32 → Option (Int32 × MH)) (h : MH) (x : Int32) (X : Option (Int32 × MH)) : Prop := ∃ h2, RX h2 ∧ mLen h2 ≤ mLen h + 20 ∧ mSl h2 ≤ mSl h + 200 ∧ X = k h2 0 77 89 (x + 6)
theorem ck_pI {h : MH} {a ci k : Nat} {x : Int32} {α : Type} {f : MH → Option α} {y : α} (e : bd (pI h a ci k x) f = some y) : ck h a ci = some () := by
  unfold ck
  by_cases z : isK h a ci = true
  · rw [if_pos z]
  · unfold pI at e
    rw [if_neg z] at e
    exact nomatch (show (none : Option α) = some y from e)
theorem lgs (y : Int64) : lg_cmp y y = 0 := by
  unfold lg_cmp
  rw [if_neg (show ¬ y > y from Int64.lt_irrefl), if_pos rfl]
section LCS
variable {p : Nat} {P : PT} {c : CT} {N : Nat → Int32} {f a m w : Nat} {h : MH} {Ls : Nat} {xs : Nat → Int32} {k : MH → Nat → Nat → Nat → Int32 → Option (Int32 × MH)} {x y1 y2 y3 y4 y5 : Int32}
theorem n_264 (R : RR p P c N f a m w h) (e1 : sld Ls xs (x + 1) = some y1) (e2 : sld Ls xs (x + 2) = some y2) (e3 : sld Ls xs (x + 3) = some y3) (e4 : sld Ls xs (x + 4) = some y4) (e5 : sld Ls xs (x + 5) = some y5) : NX k h x (bL_law_264 Ls xs k h 0 77 89 x) := by
  obtain ⟨r, h1, h2, q1, q2, X, l1, l2⟩ := a_feed R y1 y2 y3 y4 y5
  have c1 : ck h1 77 13 = some () := ck_pI q2
  have s0 : h.2.2.2[0]? = some (11, 0) := R.cs.sh 0 rfl
  have q2' : fX13_feed h1 77 y1 y2 y3 y4 y5 = some (r, h2) := q2
  refine ⟨h2, X, l1, l2, ?_⟩
  simp only [bL_law_264, e1, e2, e3, e4, e5, ck_at s0, q1, c1, q2', bd_some, bd2_some, eq_self, if_true]
theorem n_337 (R : RR p P c N f a m w h) (e1 : sld Ls xs (x + 1) = some y1) : NX k h x (bL_law_337 Ls xs k h 0 77 89 x) := by
  obtain ⟨r, h1, h2, q1, q2, X, l1, l2⟩ := a_office R y1
  have c1 : ck h1 77 13 = some () := ck_pI q2
  have s0 : h.2.2.2[0]? = some (11, 0) := R.cs.sh 0 rfl
  have q2' : fX13_office h1 77 y1 = some (r, h2) := q2
  refine ⟨h2, X, l1, l2, ?_⟩
  simp only [bL_law_337, e1, ck_at s0, q1, c1, q2', bd_some, bd2_some, eq_self, if_true]
theorem n_362 (R : RR p P c N f a m w h) : NX k h x (bL_law_362 Ls xs k h 0 77 89 x) := by
  obtain ⟨r, h1, h2, q1, q2, X, l1, l2⟩ := (o_fault R ).cl
  have c1 : ck h1 77 13 = some () := ck_pI q2
  have s0 : h.2.2.2[0]? = some (11, 0) := R.cs.sh 0 rfl
  have q2' : fX13_fault h1 77  = some (r, h2) := q2
  refine ⟨h2, X, l1, l2, ?_⟩
  simp only [bL_law_362, ck_at s0, q1, c1, q2', bd_some, bd2_some, eq_self, if_true]
theorem n_375 (R : RR p P c N f a m w h) : NX k h x (bL_law_375 Ls xs k h 0 77 89 x) := by
  obtain ⟨r, h1, h2, q1, q2, X, l1, l2⟩ := (o_where R ).cl
  have c1 : ck h1 77 13 = some () := ck_pI q2
  have s0 : h.2.2.2[0]? = some (11, 0) := R.cs.sh 0 rfl
  have q2' : fX13_where h1 77  = some (r, h2) := q2
  refine ⟨h2, X, l1, l2, ?_⟩
  simp only [bL_law_375, ck_at s0, q1, c1, q2', bd_some, bd2_some, eq_self, if_true]
theorem n_388 (R : RR p P c N f a m w h) (e1 : sld Ls xs (x + 1) = some y1) (e2 : sld Ls xs (x + 2) = some y2) : NX k h x (bL_law_388 Ls xs k h 0 77 89 x) := by
  obtain ⟨r, h1, h2, q1, q2, X, l1, l2⟩ := (o_paper R y1 y2).cl
  have c1 : ck h1 77 13 = some () := ck_pI q2
  have s0 : h.2.2.2[0]? = some (11, 0) := R.cs.sh 0 rfl
  have q2' : fX13_paper h1 77 y1 y2 = some (r, h2) := q2
  refine ⟨h2, X, l1, l2, ?_⟩
  simp only [bL_law_388, e1, e2, ck_at s0, q1, c1, q2', bd_some, bd2_some, eq_self, if_true]
theorem n_425 (R : RR p P c N f a m w h) (e1 : sld Ls xs (x + 1) = some y1) (e2 : sld Ls xs (x + 2) = some y2) : NX k h x (bL_law_425 Ls xs k h 0 77 89 x) := by
  obtain ⟨r, h1, h2, q1, q2, X, l1, l2⟩ := (o_stamp R y1 y2).cl
  have c1 : ck h1 77 13 = some () := ck_pI q2
  have s0 : h.2.2.2[0]? = some (11, 0) := R.cs.sh 0 rfl
  have q2' : fX13_stamp h1 77 y1 y2 = some (r, h2) := q2
  refine ⟨h2, X, l1, l2, ?_⟩
  simp only [bL_law_425, e1, e2, ck_at s0, q1, c1, q2', bd_some, bd2_some, eq_self, if_true]
theorem n_462 (R : RR p P c N f a m w h) (e1 : sld Ls xs (x + 1) = some y1) (e2 : sld Ls xs (x + 2) = some y2) : NX k h x (bL_law_462 Ls xs k h 0 77 89 x) := by
  obtain ⟨r, h1, h2, q1, q2, X, l1, l2⟩ := (o_hand R y1 y2).cl
  have c1 : ck h1 77 13 = some () := ck_pI q2
  have s0 : h.2.2.2[0]? = some (11, 0) := R.cs.sh 0 rfl
  have q2' : fX13_hand h1 77 y1 y2 = some (r, h2) := q2
  refine ⟨h2, X, l1, l2, ?_⟩
  simp only [bL_law_462, e1, e2, ck_at s0, q1, c1, q2', bd_some, bd2_some, eq_self, if_true]
theorem n_499 (R : RR p P c N f a m w h) (e1 : sld Ls xs (x + 1) = some y1) (e2 : sld Ls xs (x + 2) = some y2) : NX k h x (bL_law_499 Ls xs k h 0 77 89 x) := by
  obtain ⟨r, h1, h2, q1, q2, X, l1, l2⟩ := (o_rule R y1 y2).cl
  have c1 : ck h1 77 13 = some () := ck_pI q2
  have s0 : h.2.2.2[0]? = some (11, 0) := R.cs.sh 0 rfl
  have q2' : fX13_rule h1 77 y1 y2 = some (r, h2) := q2
  refine ⟨h2, X, l1, l2, ?_⟩
  simp only [bL_law_499, e1, e2, ck_at s0, q1, c1, q2', bd_some, bd2_some, eq_self, if_true]
theorem n_536 (R : RR p P c N f a m w h) (e1 : sld Ls xs (x + 1) = some y1) (e2 : sld Ls xs (x + 2) = some y2) : NX k h x (bL_law_536 Ls xs k h 0 77 89 x) := by
  obtain ⟨r, h1, h2, q1, q2, X, l1, l2⟩ := (o_says R y1 y2).cl
  have c1 : ck h1 77 13 = some () := ck_pI q2
  have s0 : h.2.2.2[0]? = some (11, 0) := R.cs.sh 0 rfl
  have q2' : fX13_says h1 77 y1 y2 = some (r, h2) := q2
  refine ⟨h2, X, l1, l2, ?_⟩
  simp only [bL_law_536, e1, e2, ck_at s0, q1, c1, q2', bd_some, bd2_some, eq_self, if_true]
theorem n_573 (R : RR p P c N f a m w h) (e1 : sld Ls xs (x + 1) = some y1) (e2 : sld Ls xs (x + 2) = some y2) : NX k h x (bL_law_573 Ls xs k h 0 77 89 x) := by
  obtain ⟨r, h1, h2, q1, q2, X, l1, l2⟩ := (o_byRule R y1 y2).cl
  have c1 : ck h1 77 13 = some () := ck_pI q2
  have s0 : h.2.2.2[0]? = some (11, 0) := R.cs.sh 0 rfl
  have q2' : fX13_byRule h1 77 y1 y2 = some (r, h2) := q2
  refine ⟨h2, X, l1, l2, ?_⟩
  simp only [bL_law_573, e1, e2, ck_at s0, q1, c1, q2', bd_some, bd2_some, eq_self, if_true]
theorem n_610 (R : RR p P c N f a m w h) (e1 : sld Ls xs (x + 1) = some y1) (e2 : sld Ls xs (x + 2) = some y2) : NX k h x (bL_law_610 Ls xs k h 0 77 89 x) := by
  obtain ⟨r, h1, h2, q1, q2, X, l1, l2⟩ := (o_saysOf R y1 y2).cl
  have c1 : ck h1 77 13 = some () := ck_pI q2
  have s0 : h.2.2.2[0]? = some (11, 0) := R.cs.sh 0 rfl
  have q2' : fX13_saysOf h1 77 y1 y2 = some (r, h2) := q2
  refine ⟨h2, X, l1, l2, ?_⟩
  simp only [bL_law_610, e1, e2, ck_at s0, q1, c1, q2', bd_some, bd2_some, eq_self, if_true]
theorem n_647 (R : RR p P c N f a m w h) (e1 : sld Ls xs (x + 1) = some y1) (e2 : sld Ls xs (x + 2) = some y2) (e3 : sld Ls xs (x + 3) = some y3) : NX k h x (bL_law_647 Ls xs k h 0 77 89 x) := by
  obtain ⟨r, h1, h2, q1, q2, X, l1, l2⟩ := (o_prints R y1 y2 y3).cl
  have c1 : ck h1 77 13 = some () := ck_pI q2
  have s0 : h.2.2.2[0]? = some (11, 0) := R.cs.sh 0 rfl
  have q2' : fX13_prints h1 77 y1 y2 y3 = some (r, h2) := q2
  refine ⟨h2, X, l1, l2, ?_⟩
  simp only [bL_law_647, e1, e2, e3, ck_at s0, q1, c1, q2', bd_some, bd2_some, eq_self, if_true]
theorem n_696 (R : RR p P c N f a m w h) (e1 : sld Ls xs (x + 1) = some y1) (e2 : sld Ls xs (x + 2) = some y2) : NX k h x (bL_law_696 Ls xs k h 0 77 89 x) := by
  obtain ⟨r, h1, h2, q1, q2, X, l1, l2⟩ := (o_sayers R y1 y2).cl
  have c1 : ck h1 77 13 = some () := ck_pI q2
  have s0 : h.2.2.2[0]? = some (11, 0) := R.cs.sh 0 rfl
  have q2' : fX13_sayers h1 77 y1 y2 = some (r, h2) := q2
  refine ⟨h2, X, l1, l2, ?_⟩
  simp only [bL_law_696, e1, e2, ck_at s0, q1, c1, q2', bd_some, bd2_some, eq_self, if_true]
theorem n_733 (R : RR p P c N f a m w h) (e1 : sld Ls xs (x + 1) = some y1) : NX k h x (bL_law_733 Ls xs k h 0 77 89 x) := by
  obtain ⟨r, h1, h2, q1, q2, X, l1, l2⟩ := (o_idleRules R y1).cl
  have c1 : ck h1 77 13 = some () := ck_pI q2
  have s0 : h.2.2.2[0]? = some (11, 0) := R.cs.sh 0 rfl
  have q2' : fX13_idleRules h1 77 y1 = some (r, h2) := q2
  refine ⟨h2, X, l1, l2, ?_⟩
  simp only [bL_law_733, e1, ck_at s0, q1, c1, q2', bd_some, bd2_some, eq_self, if_true]
theorem n_758 (R : RR p P c N f a m w h) (e1 : sld Ls xs (x + 1) = some y1) (e2 : sld Ls xs (x + 2) = some y2) : NX k h x (bL_law_758 Ls xs k h 0 77 89 x) := by
  obtain ⟨r, h1, h2, q1, q2, X, l1, l2⟩ := (o_differ R y1 y2).cl
  have c1 : ck h1 77 13 = some () := ck_pI q2
  have s0 : h.2.2.2[0]? = some (11, 0) := R.cs.sh 0 rfl
  have q2' : fX13_differ h1 77 y1 y2 = some (r, h2) := q2
  refine ⟨h2, X, l1, l2, ?_⟩
  simp only [bL_law_758, e1, e2, ck_at s0, q1, c1, q2', bd_some, bd2_some, eq_self, if_true]
theorem n_795 (R : RR p P c N f a m w h) : NX k h x (bL_law_795 Ls xs k h 0 77 89 x) := by
  obtain ⟨r, h1, h2, q1, q2, X, l1, l2⟩ := (o_kept R ).cl
  have c1 : ck h1 77 13 = some () := ck_pI q2
  have s0 : h.2.2.2[0]? = some (11, 0) := R.cs.sh 0 rfl
  have q2' : fX13_kept h1 77  = some (r, h2) := q2
  refine ⟨h2, X, l1, l2, ?_⟩
  simp only [bL_law_795, ck_at s0, q1, c1, q2', bd_some, bd2_some, eq_self, if_true]
theorem n_808 (R : RR p P c N f a m w h) (e1 : sld Ls xs (x + 1) = some y1) : NX k h x (bL_law_808 Ls xs k h 0 77 89 x) := by
  obtain ⟨r, h1, h2, q1, q2, X, l1, l2⟩ := (o_keptBy R y1).cl
  have c1 : ck h1 77 13 = some () := ck_pI q2
  have s0 : h.2.2.2[0]? = some (11, 0) := R.cs.sh 0 rfl
  have q2' : fX13_keptBy h1 77 y1 = some (r, h2) := q2
  refine ⟨h2, X, l1, l2, ?_⟩
  simp only [bL_law_808, e1, ck_at s0, q1, c1, q2', bd_some, bd2_some, eq_self, if_true]
theorem n_833 (R : RR p P c N f a m w h) : NX k h x (bL_law_833 Ls xs k h 0 77 89 x) := by
  obtain ⟨r, h1, h2, q1, q2, X, l1, l2⟩ := (o_toFill R ).cl
  have c1 : ck h1 77 13 = some () := ck_pI q2
  have s0 : h.2.2.2[0]? = some (11, 0) := R.cs.sh 0 rfl
  have q2' : fX13_toFill h1 77  = some (r, h2) := q2
  refine ⟨h2, X, l1, l2, ?_⟩
  simp only [bL_law_833, ck_at s0, q1, c1, q2', bd_some, bd2_some, eq_self, if_true]
theorem n_846 (R : RR p P c N f a m w h) : NX k h x (bL_law_846 Ls xs k h 0 77 89 x) := by
  obtain ⟨r, h1, h2, q1, q2, X, l1, l2⟩ := (o_worded R ).cl
  have c1 : ck h1 77 13 = some () := ck_pI q2
  have s0 : h.2.2.2[0]? = some (11, 0) := R.cs.sh 0 rfl
  have q2' : fX13_worded h1 77  = some (r, h2) := q2
  refine ⟨h2, X, l1, l2, ?_⟩
  simp only [bL_law_846, ck_at s0, q1, c1, q2', bd_some, bd2_some, eq_self, if_true]
theorem n_859 (R : RR p P c N f a m w h) (e1 : sld Ls xs (x + 1) = some y1) (e2 : sld Ls xs (x + 2) = some y2) (e3 : sld Ls xs (x + 3) = some y3) : NX k h x (bL_law_859 Ls xs k h 0 77 89 x) := by
  obtain ⟨r, h1, h2, q1, q2, X, l1, l2⟩ := (o_reword R y1 y2 y3).cl
  have c1 : ck h1 77 13 = some () := ck_pI q2
  have s0 : h.2.2.2[0]? = some (11, 0) := R.cs.sh 0 rfl
  have q2' : fX13_reword h1 77 y1 y2 y3 = some (r, h2) := q2
  refine ⟨h2, X, l1, l2, ?_⟩
  simp only [bL_law_859, e1, e2, e3, ck_at s0, q1, c1, q2', bd_some, bd2_some, eq_self, if_true]
theorem n_908 (R : RR p P c N f a m w h) (e1 : sld Ls xs (x + 1) = some y1) : NX k h x (bL_law_908 Ls xs k h 0 77 89 x) := by
  obtain ⟨r, h1, h2, q1, q2, X, l1, l2⟩ := (o_bestMark R y1).cl
  have c1 : ck h1 77 13 = some () := ck_pI q2
  have s0 : h.2.2.2[0]? = some (11, 0) := R.cs.sh 0 rfl
  have q2' : fX13_bestMark h1 77 y1 = some (r, h2) := q2
  refine ⟨h2, X, l1, l2, ?_⟩
  simp only [bL_law_908, e1, ck_at s0, q1, c1, q2', bd_some, bd2_some, eq_self, if_true]
theorem n_933 (R : RR p P c N f a m w h) (e1 : sld Ls xs (x + 1) = some y1) (e2 : sld Ls xs (x + 2) = some y2) : NX k h x (bL_law_933 Ls xs k h 0 77 89 x) := by
  have s0 : h.2.2.2[0]? = some (11, 0) := R.cs.sh 0 rfl
  by_cases z : y2 = 0
  · obtain ⟨r, h1, h2, q1, q2, X, l1, l2⟩ := (o_odds R y1 0).cl
    have c1 : ck h1 77 13 = some () := ck_pI q2
    have q2' : fX13_odds h1 77 y1 0 = some (r, h2) := q2
    refine ⟨h2, X, l1, l2, ?_⟩
    simp only [bL_law_933, bL_law_954, bL_law_978, e1, e2, if_pos z, ck_at s0, q1, c1, q2', bd_some, bd2_some, eq_self, if_true, lgs]
  · obtain ⟨r, h1, h2, q1, q2, X, l1, l2⟩ := (o_odds R y1 1).cl
    have c1 : ck h1 77 13 = some () := ck_pI q2
    have q2' : fX13_odds h1 77 y1 1 = some (r, h2) := q2
    refine ⟨h2, X, l1, l2, ?_⟩
    simp only [bL_law_933, bL_law_954, bL_law_978, e1, e2, if_neg z, ck_at s0, q1, c1, q2', bd_some, bd2_some, eq_self, if_true, lgs]
theorem n_987 (R : RR p P c N f a m w h) : NX k h x (bL_law_987 Ls xs k h 0 77 89 x) := by
  obtain ⟨r, h1, h2, q1, q2, X, l1, l2⟩ := (o_likeliest R ).cl
  have c1 : ck h1 77 13 = some () := ck_pI q2
  have s0 : h.2.2.2[0]? = some (11, 0) := R.cs.sh 0 rfl
  have q2' : fX13_likeliest h1 77  = some (r, h2) := q2
  refine ⟨h2, X, l1, l2, ?_⟩
  simp only [bL_law_987, ck_at s0, q1, c1, q2', bd_some, bd2_some, eq_self, if_true]
theorem n_1000 (R : RR p P c N f a m w h) (e1 : sld Ls xs (x + 1) = some y1) (e2 : sld Ls xs (x + 2) = some y2) (e3 : sld Ls xs (x + 3) = some y3) (e4 : sld Ls xs (x + 4) = some y4) : NX k h x (bL_law_1000 Ls xs k h 0 77 89 x) := by
  have s0 : h.2.2.2[0]? = some (11, 0) := R.cs.sh 0 rfl
  by_cases z : y4 = 0
  · obtain ⟨r, h1, h2, q1, q2, X, l1, l2⟩ := (o_next R y1 y2 y3 0).cl
    have c1 : ck h1 77 13 = some () := ck_pI q2
    have q2' : fX13_next h1 77 y1 y2 y3 0 = some (r, h2) := q2
    refine ⟨h2, X, l1, l2, ?_⟩
    simp only [bL_law_1000, bL_law_1033, bL_law_1069, e1, e2, e3, e4, if_pos z, ck_at s0, q1, c1, q2', bd_some, bd2_some, eq_self, if_true, lgs]
  · obtain ⟨r, h1, h2, q1, q2, X, l1, l2⟩ := (o_next R y1 y2 y3 1).cl
    have c1 : ck h1 77 13 = some () := ck_pI q2
    have q2' : fX13_next h1 77 y1 y2 y3 1 = some (r, h2) := q2
    refine ⟨h2, X, l1, l2, ?_⟩
    simp only [bL_law_1000, bL_law_1033, bL_law_1069, e1, e2, e3, e4, if_neg z, ck_at s0, q1, c1, q2', bd_some, bd2_some, eq_self, if_true, lgs]
theorem n_1078 (R : RR p P c N f a m w h) : NX k h x (bL_law_1078 Ls xs k h 0 77 89 x) := by
  obtain ⟨r, h1, h2, q1, q2, X, l1, l2⟩ := (o_laws R ).cl
  have c1 : ck h1 77 13 = some () := ck_pI q2
  have s0 : h.2.2.2[0]? = some (11, 0) := R.cs.sh 0 rfl
  have q2' : fX13_laws h1 77  = some (r, h2) := q2
  refine ⟨h2, X, l1, l2, ?_⟩
  simp only [bL_law_1078, ck_at s0, q1, c1, q2', bd_some, bd2_some, eq_self, if_true]
theorem n_1091 (R : RR p P c N f a m w h) (e1 : sld Ls xs (x + 1) = some y1) : NX k h x (bL_law_1091 Ls xs k h 0 77 89 x) := by
  obtain ⟨r, h1, h2, q1, q2, X, l1, l2⟩ := (o_lawSays R y1).cl
  have c1 : ck h1 77 13 = some () := ck_pI q2
  have s0 : h.2.2.2[0]? = some (11, 0) := R.cs.sh 0 rfl
  have q2' : fX13_lawSays h1 77 y1 = some (r, h2) := q2
  refine ⟨h2, X, l1, l2, ?_⟩
  simp only [bL_law_1091, e1, ck_at s0, q1, c1, q2', bd_some, bd2_some, eq_self, if_true]
theorem n_1116 (R : RR p P c N f a m w h) : NX k h x (bL_law_1116 Ls xs k h 0 77 89 x) := by
  obtain ⟨r, h1, h2, q1, q2, X, l1, l2⟩ := (o_tryNext R ).cl
  have c1 : ck h1 77 13 = some () := ck_pI q2
  have s0 : h.2.2.2[0]? = some (11, 0) := R.cs.sh 0 rfl
  have q2' : fX13_tryNext h1 77  = some (r, h2) := q2
  refine ⟨h2, X, l1, l2, ?_⟩
  simp only [bL_law_1116, ck_at s0, q1, c1, q2', bd_some, bd2_some, eq_self, if_true]
theorem n_1129 (R : RR p P c N f a m w h) : NX k h x (bL_law_1129 Ls xs k h 0 77 89 x) := by
  obtain ⟨r, h1, h2, q1, q2, X, l1, l2⟩ := (o_tryLeaves R ).cl
  have c1 : ck h1 77 13 = some () := ck_pI q2
  have s0 : h.2.2.2[0]? = some (11, 0) := R.cs.sh 0 rfl
  have q2' : fX13_tryLeaves h1 77  = some (r, h2) := q2
  refine ⟨h2, X, l1, l2, ?_⟩
  simp only [bL_law_1129, ck_at s0, q1, c1, q2', bd_some, bd2_some, eq_self, if_true]
theorem n_1142 (R : RR p P c N f a m w h) (e1 : sld Ls xs (x + 1) = some y1) (e2 : sld Ls xs (x + 2) = some y2) : NX k h x (bL_law_1142 Ls xs k h 0 77 89 x) := by
  obtain ⟨r, h1, h2, q1, q2, X, l1, l2⟩ := (o_judges R y1 y2).cl
  have c1 : ck h1 77 13 = some () := ck_pI q2
  have s0 : h.2.2.2[0]? = some (11, 0) := R.cs.sh 0 rfl
  have q2' : fX13_judges h1 77 y1 y2 = some (r, h2) := q2
  refine ⟨h2, X, l1, l2, ?_⟩
  simp only [bL_law_1142, e1, e2, ck_at s0, q1, c1, q2', bd_some, bd2_some, eq_self, if_true]
theorem n_1179 (R : RR p P c N f a m w h) (e1 : sld Ls xs (x + 1) = some y1) : NX k h x (bL_law_1179 Ls xs k h 0 77 89 x) := by
  obtain ⟨r, h1, h2, q1, q2, X, l1, l2⟩ := (o_good R y1).cl
  have c1 : ck h1 77 13 = some () := ck_pI q2
  have s0 : h.2.2.2[0]? = some (11, 0) := R.cs.sh 0 rfl
  have q2' : fX13_good h1 77 y1 = some (r, h2) := q2
  refine ⟨h2, X, l1, l2, ?_⟩
  simp only [bL_law_1179, e1, ck_at s0, q1, c1, q2', bd_some, bd2_some, eq_self, if_true]
theorem n_1204 (R : RR p P c N f a m w h) : NX k h x (bL_law_1204 Ls xs k h 0 77 89 x) := by
  obtain ⟨r, h1, h2, q1, q2, X, l1, l2⟩ := (o_settled R ).cl
  have c1 : ck h1 77 13 = some () := ck_pI q2
  have s0 : h.2.2.2[0]? = some (11, 0) := R.cs.sh 0 rfl
  have q2' : fX13_settled h1 77  = some (r, h2) := q2
  refine ⟨h2, X, l1, l2, ?_⟩
  simp only [bL_law_1204, ck_at s0, q1, c1, q2', bd_some, bd2_some, eq_self, if_true]
theorem n_1217 (R : RR p P c N f a m w h) : NX k h x (bL_law_1217 Ls xs k h 0 77 89 x) := by
  obtain ⟨r, h1, h2, q1, q2, X, l1, l2⟩ := (o_steady R ).cl
  have c1 : ck h1 77 13 = some () := ck_pI q2
  have s0 : h.2.2.2[0]? = some (11, 0) := R.cs.sh 0 rfl
  have q2' : fX13_steady h1 77  = some (r, h2) := q2
  refine ⟨h2, X, l1, l2, ?_⟩
  simp only [bL_law_1217, ck_at s0, q1, c1, q2', bd_some, bd2_some, eq_self, if_true]
theorem n_1230 (R : RR p P c N f a m w h) (e1 : sld Ls xs (x + 1) = some y1) (e2 : sld Ls xs (x + 2) = some y2) : NX k h x (bL_law_1230 Ls xs k h 0 77 89 x) := by
  obtain ⟨r, h1, h2, q1, q2, X, l1, l2⟩ := (o_has R y1 y2).cl
  have c1 : ck h1 77 13 = some () := ck_pI q2
  have s0 : h.2.2.2[0]? = some (11, 0) := R.cs.sh 0 rfl
  have q2' : fX13_has h1 77 y1 y2 = some (r, h2) := q2
  refine ⟨h2, X, l1, l2, ?_⟩
  simp only [bL_law_1230, e1, e2, ck_at s0, q1, c1, q2', bd_some, bd2_some, eq_self, if_true]
theorem n_1267 (R : RR p P c N f a m w h) : NX k h x (bL_law_1267 Ls xs k h 0 77 89 x) := by
  obtain ⟨r, h1, h2, q1, q2, X, l1, l2⟩ := (o_clerks R ).cl
  have c1 : ck h1 77 13 = some () := ck_pI q2
  have s0 : h.2.2.2[0]? = some (11, 0) := R.cs.sh 0 rfl
  have q2' : fX13_clerks h1 77  = some (r, h2) := q2
  refine ⟨h2, X, l1, l2, ?_⟩
  simp only [bL_law_1267, ck_at s0, q1, c1, q2', bd_some, bd2_some, eq_self, if_true]
theorem n_1280 (R : RR p P c N f a m w h) : NX k h x (bL_law_1280 Ls xs k h 0 77 89 x) := by
  obtain ⟨r, h1, h2, q1, q2, X, l1, l2⟩ := (o_applicants R ).cl
  have c1 : ck h1 77 13 = some () := ck_pI q2
  have s0 : h.2.2.2[0]? = some (11, 0) := R.cs.sh 0 rfl
  have q2' : fX13_applicants h1 77  = some (r, h2) := q2
  refine ⟨h2, X, l1, l2, ?_⟩
  simp only [bL_law_1280, ck_at s0, q1, c1, q2', bd_some, bd2_some, eq_self, if_true]
theorem n_1293 (R : RR p P c N f a m w h) : NX k h x (bL_law_1293 Ls xs k h 0 77 89 x) := by
  obtain ⟨r, h1, h2, q1, q2, X, l1, l2⟩ := (o_clerkPicks R ).cl
  have c1 : ck h1 77 13 = some () := ck_pI q2
  have s0 : h.2.2.2[0]? = some (11, 0) := R.cs.sh 0 rfl
  have q2' : fX13_clerkPicks h1 77  = some (r, h2) := q2
  refine ⟨h2, X, l1, l2, ?_⟩
  simp only [bL_law_1293, ck_at s0, q1, c1, q2', bd_some, bd2_some, eq_self, if_true]
theorem n_1306 (R : RR p P c N f a m w h) : NX k h x (bL_law_1306 Ls xs k h 0 77 89 x) := by
  obtain ⟨r, h1, h2, q1, q2, X, l1, l2⟩ := (o_even R ).cl
  have c1 : ck h1 77 13 = some () := ck_pI q2
  have s0 : h.2.2.2[0]? = some (11, 0) := R.cs.sh 0 rfl
  have q2' : fX13_even h1 77  = some (r, h2) := q2
  refine ⟨h2, X, l1, l2, ?_⟩
  simp only [bL_law_1306, ck_at s0, q1, c1, q2', bd_some, bd2_some, eq_self, if_true]
theorem n_1319 (R : RR p P c N f a m w h) (e1 : sld Ls xs (x + 1) = some y1) (e2 : sld Ls xs (x + 2) = some y2) (e3 : sld Ls xs (x + 3) = some y3) (e4 : sld Ls xs (x + 4) = some y4) (e5 : sld Ls xs (x + 5) = some y5) : NX k h x (bL_law_1319 Ls xs k h 0 77 89 x) := by
  have s0 : h.2.2.2[0]? = some (11, 0) := R.cs.sh 0 rfl
  by_cases z : y5 = 0
  · obtain ⟨r, h1, h2, q1, q2, X, l1, l2⟩ := (o_sure R y1 y2 y3 y4 0).cl
    have c1 : ck h1 77 13 = some () := ck_pI q2
    have q2' : fX13_sure h1 77 y1 y2 y3 y4 0 = some (r, h2) := q2
    refine ⟨h2, X, l1, l2, ?_⟩
    simp only [bL_law_1319, bL_law_1358, bL_law_1400, e1, e2, e3, e4, e5, if_pos z, ck_at s0, q1, c1, q2', bd_some, bd2_some, eq_self, if_true, lgs]
  · obtain ⟨r, h1, h2, q1, q2, X, l1, l2⟩ := (o_sure R y1 y2 y3 y4 1).cl
    have c1 : ck h1 77 13 = some () := ck_pI q2
    have q2' : fX13_sure h1 77 y1 y2 y3 y4 1 = some (r, h2) := q2
    refine ⟨h2, X, l1, l2, ?_⟩
    simp only [bL_law_1319, bL_law_1358, bL_law_1400, e1, e2, e3, e4, e5, if_neg z, ck_at s0, q1, c1, q2', bd_some, bd2_some, eq_self, if_true, lgs]
theorem n_1409 (R : RR p P c N f a m w h) (e1 : sld Ls xs (x + 1) = some y1) (e2 : sld Ls xs (x + 2) = some y2) (e3 : sld Ls xs (x + 3) = some y3) : NX k h x (bL_law_1409 Ls xs k h 0 77 89 x) := by
  have s0 : h.2.2.2[0]? = some (11, 0) := R.cs.sh 0 rfl
  by_cases z : y3 = 0
  · obtain ⟨r, h1, h2, q1, q2, X, l1, l2⟩ := (o_mean R y1 y2 0).cl
    have c1 : ck h1 77 13 = some () := ck_pI q2
    have q2' : fX13_mean h1 77 y1 y2 0 = some (r, h2) := q2
    refine ⟨h2, X, l1, l2, ?_⟩
    simp only [bL_law_1409, bL_law_1436, bL_law_1466, e1, e2, e3, if_pos z, ck_at s0, q1, c1, q2', bd_some, bd2_some, eq_self, if_true, lgs]
  · obtain ⟨r, h1, h2, q1, q2, X, l1, l2⟩ := (o_mean R y1 y2 1).cl
    have c1 : ck h1 77 13 = some () := ck_pI q2
    have q2' : fX13_mean h1 77 y1 y2 1 = some (r, h2) := q2
    refine ⟨h2, X, l1, l2, ?_⟩
    simp only [bL_law_1409, bL_law_1436, bL_law_1466, e1, e2, e3, if_neg z, ck_at s0, q1, c1, q2', bd_some, bd2_some, eq_self, if_true, lgs]
theorem n_1475 (R : RR p P c N f a m w h) (e1 : sld Ls xs (x + 1) = some y1) (e2 : sld Ls xs (x + 2) = some y2) (e3 : sld Ls xs (x + 3) = some y3) : NX k h x (bL_law_1475 Ls xs k h 0 77 89 x) := by
  obtain ⟨r, h1, h2, q1, q2, X, l1, l2⟩ := (o_presses R y1 y2 y3).cl
  have c1 : ck h1 77 13 = some () := ck_pI q2
  have s0 : h.2.2.2[0]? = some (11, 0) := R.cs.sh 0 rfl
  have q2' : fX13_presses h1 77 y1 y2 y3 = some (r, h2) := q2
  refine ⟨h2, X, l1, l2, ?_⟩
  simp only [bL_law_1475, e1, e2, e3, ck_at s0, q1, c1, q2', bd_some, bd2_some, eq_self, if_true]
theorem n_1524 (R : RR p P c N f a m w h) (e1 : sld Ls xs (x + 1) = some y1) (e2 : sld Ls xs (x + 2) = some y2) : NX k h x (bL_law_1524 Ls xs k h 0 77 89 x) := by
  obtain ⟨r, h1, h2, q1, q2, X, l1, l2⟩ := (o_birds R y1 y2).cl
  have c1 : ck h1 77 13 = some () := ck_pI q2
  have s0 : h.2.2.2[0]? = some (11, 0) := R.cs.sh 0 rfl
  have q2' : fX13_birds h1 77 y1 y2 = some (r, h2) := q2
  refine ⟨h2, X, l1, l2, ?_⟩
  simp only [bL_law_1524, e1, e2, ck_at s0, q1, c1, q2', bd_some, bd2_some, eq_self, if_true]
theorem n_1561 (R : RR p P c N f a m w h) (e1 : sld Ls xs (x + 1) = some y1) (e2 : sld Ls xs (x + 2) = some y2) (e3 : sld Ls xs (x + 3) = some y3) : NX k h x (bL_law_1561 Ls xs k h 0 77 89 x) := by
  obtain ⟨r, h1, h2, q1, q2, X, l1, l2⟩ := (o_printed R y1 y2 y3).cl
  have c1 : ck h1 77 13 = some () := ck_pI q2
  have s0 : h.2.2.2[0]? = some (11, 0) := R.cs.sh 0 rfl
  have q2' : fX13_printed h1 77 y1 y2 y3 = some (r, h2) := q2
  refine ⟨h2, X, l1, l2, ?_⟩
  simp only [bL_law_1561, e1, e2, e3, ck_at s0, q1, c1, q2', bd_some, bd2_some, eq_self, if_true]
theorem n_1610 (R : RR p P c N f a m w h) (e1 : sld Ls xs (x + 1) = some y1) (e2 : sld Ls xs (x + 2) = some y2) (e3 : sld Ls xs (x + 3) = some y3) : NX k h x (bL_law_1610 Ls xs k h 0 77 89 x) := by
  obtain ⟨r, h1, h2, q1, q2, X, l1, l2⟩ := o_press R y1 y2 y3
  have c1 : ck h1 77 13 = some () := ck_pI q2
  have s0 : h.2.2.2[0]? = some (11, 0) := R.cs.sh 0 rfl
  have q2' : fX13_press h1 77 y1 y2 y3 = some (r, h2) := q2
  refine ⟨h2, X, l1, l2, ?_⟩
  simp only [bL_law_1610, e1, e2, e3, ck_at s0, q1, c1, q2', bd_some, bd2_some, eq_self, if_true]
theorem n_1659 (R : RR p P c N f a m w h) (e1 : sld Ls xs (x + 1) = some y1) (e2 : sld Ls xs (x + 2) = some y2) : NX k h x (bL_law_1659 Ls xs k h 0 77 89 x) := by
  obtain ⟨r, h1, h2, q1, q2, X, l1, l2⟩ := o_carve R y1 y2
  have c1 : ck h1 77 13 = some () := ck_pI q2
  have s0 : h.2.2.2[0]? = some (11, 0) := R.cs.sh 0 rfl
  have q2' : fX13_carve h1 77 y1 y2 = some (r, h2) := q2
  refine ⟨h2, X, l1, l2, ?_⟩
  simp only [bL_law_1659, e1, e2, ck_at s0, q1, c1, q2', bd_some, bd2_some, eq_self, if_true]
theorem n_1696 (R : RR p P c N f a m w h) (e1 : sld Ls xs (x + 1) = some y1) (e2 : sld Ls xs (x + 2) = some y2) (e3 : sld Ls xs (x + 3) = some y3) : NX k h x (bL_law_1696 Ls xs k h 0 77 89 x) := by
  have s0 : h.2.2.2[0]? = some (11, 0) := R.cs.sh 0 rfl
  by_cases z : y3 = 0
  · obtain ⟨r, h1, h2, q1, q2, X, l1, l2⟩ := o_mark R y1 y2 0
    have c1 : ck h1 77 13 = some () := ck_pI q2
    have q2' : fX13_mark h1 77 y1 y2 0 = some (r, h2) := q2
    refine ⟨h2, X, l1, l2, ?_⟩
    simp only [bL_law_1696, bL_law_1723, bL_law_1753, e1, e2, e3, if_pos z, ck_at s0, q1, c1, q2', bd_some, bd2_some, eq_self, if_true]
  · obtain ⟨r, h1, h2, q1, q2, X, l1, l2⟩ := o_mark R y1 y2 1
    have c1 : ck h1 77 13 = some () := ck_pI q2
    have q2' : fX13_mark h1 77 y1 y2 1 = some (r, h2) := q2
    refine ⟨h2, X, l1, l2, ?_⟩
    simp only [bL_law_1696, bL_law_1723, bL_law_1753, e1, e2, e3, if_neg z, ck_at s0, q1, c1, q2', bd_some, bd2_some, eq_self, if_true]
theorem n_1761 (R : RR p P c N f a m w h) (e1 : sld Ls xs (x + 1) = some y1) (e2 : sld Ls xs (x + 2) = some y2) : NX k h x (bL_law_1761 Ls xs k h 0 77 89 x) := by
  obtain ⟨r, h1, h2, q1, q2, X, l1, l2⟩ := o_fill R y1 y2
  have c1 : ck h1 77 13 = some () := ck_pI q2
  have s0 : h.2.2.2[0]? = some (11, 0) := R.cs.sh 0 rfl
  have q2' : fX13_fill h1 77 y1 y2 = some (r, h2) := q2
  refine ⟨h2, X, l1, l2, ?_⟩
  simp only [bL_law_1761, e1, e2, ck_at s0, q1, c1, q2', bd_some, bd2_some, eq_self, if_true]
theorem n_1798 (R : RR p P c N f a m w h) : NX k h x (bL_law_1798 Ls xs k h 0 77 89 x) := by
  obtain ⟨r, h1, h2, q1, q2, X, l1, l2⟩ := a_undo R 
  have c1 : ck h1 77 13 = some () := ck_pI q2
  have s0 : h.2.2.2[0]? = some (11, 0) := R.cs.sh 0 rfl
  have q2' : fX13_undo h1 77  = some (r, h2) := q2
  refine ⟨h2, X, l1, l2, ?_⟩
  simp only [bL_law_1798, ck_at s0, q1, c1, q2', bd_some, bd2_some, eq_self, if_true]
theorem n_1811 (R : RR p P c N f a m w h) : NX k h x (bL_law_1811 Ls xs k h 0 77 89 x) := by
  obtain ⟨r, h1, h2, q1, q2, X, l1, l2⟩ := a_image R 
  have c1 : ck h1 77 13 = some () := ck_pI q2
  have s0 : h.2.2.2[0]? = some (11, 0) := R.cs.sh 0 rfl
  have q2' : fX13_image h1 77  = some (r, h2) := q2
  refine ⟨h2, X, l1, l2, ?_⟩
  simp only [bL_law_1811, ck_at s0, q1, c1, q2', bd_some, bd2_some, eq_self, if_true]
theorem n_1824 (R : RR p P c N f a m w h) (e1 : sld Ls xs (x + 1) = some y1) : NX k h x (bL_law_1824 Ls xs k h 0 77 89 x) := by
  obtain ⟨r, h1, h2, q1, q2, X, l1, l2⟩ := a_back R y1
  have c1 : ck h1 77 13 = some () := ck_pI q2
  have s0 : h.2.2.2[0]? = some (11, 0) := R.cs.sh 0 rfl
  have q2' : fX13_back h1 77 y1 = some (r, h2) := q2
  refine ⟨h2, X, l1, l2, ?_⟩
  simp only [bL_law_1824, e1, ck_at s0, q1, c1, q2', bd_some, bd2_some, eq_self, if_true]
theorem n_1849 (R : RR p P c N f a m w h) (e1 : sld Ls xs (x + 1) = some y1) : NX k h x (bL_law_1849 Ls xs k h 0 77 89 x) := by
  obtain ⟨r, h1, b, h2, q1, q2, q3, q4, q5, X, l1, l2⟩ := a_led R y1
  have c1 : ck h1 77 13 = some () := ck_pI q2
  obtain ⟨p', P', c', N', f', a', m', w', R'⟩ := id X
  have s77 : h2.2.2.2[77]? = some (13, 0) := R'.cs.sh 77 rfl
  have s89 : h2.2.2.2[89]? = some (16, 1) := R'.cs.sh 89 rfl
  refine ⟨h2, X, l1, l2, ?_⟩
  have t1 : fX13_thrown h2 77 = some (r, h2) := by
    unfold fX13_thrown
    rw [gI_at s77, q3, bd_some]
  have j1 : lJ h2 89 0 = some (h2.2.1 89 0) := lJ_at (i := 0) s89 (by decide) (by decide)
  rcases q4 with rfl | rfl
  · simp only [bL_law_1849, e1, q1, c1, q2, ck_at s77, t1, j1, q5 rfl, lgs, bd_some, bd2_some, eq_self, if_true]
  · simp only [bL_law_1849, e1, q1, c1, q2, ck_at s77, t1, i10, if_false, bd_some, bd2_some, eq_self, if_true]
theorem n_1905 (R : RR p P c N f a m w h) (e1 : sld Ls xs (x + 1) = some y1) : NX k h x (bL_law_1905 Ls xs k h 0 77 89 x) := by
  obtain ⟨r, h1, h2, q1, q2, X, l1, l2⟩ := (o_size R y1).cl
  have c1 : ck h1 77 13 = some () := ck_pI q2
  have s0 : h.2.2.2[0]? = some (11, 0) := R.cs.sh 0 rfl
  have q2' : fX13_size h1 77 y1 = some (r, h2) := q2
  refine ⟨h2, X, l1, l2, ?_⟩
  simp only [bL_law_1905, e1, ck_at s0, q1, c1, q2', bd_some, bd2_some, eq_self, if_true]
theorem n_1930 (R : RR p P c N f a m w h) : NX k h x (bL_law_1930 Ls xs k h 0 77 89 x) := by
  obtain ⟨r, h1, h2, q1, q2, X, l1, l2⟩ := (o_trouble R ).cl
  have c1 : ck h1 77 13 = some () := ck_pI q2
  have s0 : h.2.2.2[0]? = some (11, 0) := R.cs.sh 0 rfl
  have q2' : fX13_trouble h1 77  = some (r, h2) := q2
  refine ⟨h2, X, l1, l2, ?_⟩
  simp only [bL_law_1930, ck_at s0, q1, c1, q2', bd_some, bd2_some, eq_self, if_true]
end LCS
