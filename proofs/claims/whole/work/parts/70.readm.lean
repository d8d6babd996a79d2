/-! ===== READING: the class's lines ===== -/
theorem fd_app (l : NT) (y : Nat × Nat × Nat) (x : Nat) : fd (l ++ [y]) x = match fd l x with
    | some z => some z
    | none => if y.1 = x then some y else none := by
  induction l with
  | nil => rfl
  | cons a l ih =>
    show (if a.1 = x then some a else fd (l ++ [y]) x) = match (if a.1 = x then some a else fd l x) with
      | some z => some z
      | none => if y.1 = x then some y else none
    by_cases z : a.1 = x
    · rw [if_pos z, if_pos z]
    · rw [if_neg z, if_neg z]; exact ih
theorem lk_app (l : NT) {w s n r : Nat} (hs : s ≠ r) (x : Nat) : lk (l ++ [(w, s, n)]) x r = lk l x r := by
  unfold lk
  rw [fd_app]
  cases fd l x with
  | some z => rfl
  | none =>
    by_cases z : w = x
    · show (match (if w = x then some (w, s, n) else none) with
        | none => none
        | some e => if e.2.1 = r then some e.2.2 else none) = none
      rw [if_pos z]
      exact if_neg hs
    · show (match (if w = x then some (w, s, n) else none) with
        | none => none
        | some e => if e.2.1 = r then some e.2.2 else none) = none
      rw [if_neg z]
theorem pOld_app {B : Nat → Int32} {L : Nat} (l : NT) {w s n r : Nat} (hs : s ≠ r) (q : Nat) : pOld B L (l ++ [(w, s, n)]) r q = pOld B L l r q := by
  unfold pOld
  rw [lk_app l hs]
theorem pMk_app {B : Nat → Int32} {L : Nat} (l : NT) {w s n : Nat} (hs : s ≠ 1) : ∀ m b q, pMk B L (l ++ [(w, s, n)]) m b q = pMk B L l m b q
  | 0, b, q => rfl
  | m + 1, b, q => by
    unfold pMk
    rw [pOld_app l hs]
    cases pOld B L l 1 (tTo B L q) with
    | inl e => rfl
    | inr j =>
      show (if tSo B L q = 4 then (if b.testBit j = true then _ else pMk B L (l ++ [(w, s, n)]) m (b ||| 1 <<< j) (tTo B L (tTo B L q))) else _) = _
      rw [pMk_app l hs m]
theorem cpt5 (t : Nat) (ht : t < 12) : (cpt t = 2 ∧ t < 2) ∨ (cpt t = 3 ∧ 2 ≤ t ∧ t < 4) ∨ (cpt t = 4 ∧ 4 ≤ t ∧ t < 7) ∨ (cpt t = 5 ∧ 7 ≤ t ∧ t < 9) ∨ (cpt t = 7 ∧ 9 ≤ t) := by
  unfold cpt
  repeat' split
  all_goals omega
theorem xD_up {c : CT} {k v t i : Nat} (h : xD (upN c k v) t i) : (cpt t ≠ k ∧ xD c t i) ∨ (cpt t = k ∧ i < v) := by
  unfold xD upN at h
  by_cases z : cpt t = k
  · rw [if_pos z] at h; exact Or.inr ⟨z, h⟩
  · rw [if_neg z] at h; exact Or.inl ⟨z, h⟩
theorem WD.ad {D : DD} (V : WD D) {w s n : Nat} (hl : D.2.2.2.length < 17) (hw : w < 1099511627776) (hs : s < 6) (hn : n < 5) : WD (adN D w s n) := by
  refine ⟨?_, fun i e hi => ?_⟩
  · show (D.2.2.2 ++ [(w, s, n)]).length ≤ 17
    rw [List.length_append]
    simp only [List.length_cons, List.length_nil]
    omega
  · have hi' : (D.2.2.2 ++ [(w, s, n)])[i]? = some e := hi
    by_cases zi : i < D.2.2.2.length
    · rw [List.getElem?_append_left zi] at hi'; exact V.2 i e hi'
    · rw [List.getElem?_append_right (by omega)] at hi'
      have zi2 : i - D.2.2.2.length = 0 := by
        have := (List.getElem?_eq_some_iff.mp hi').1
        simp only [List.length_cons, List.length_nil] at this
        omega
      rw [zi2] at hi'
      have hy : e = (w, s, n) := (Option.some.inj hi').symm
      rw [hy]; exact ⟨hw, hs, hn⟩
section CLN
variable {p : Nat} {h h0 : MH} {B : Nat → Int32} {L q : Nat} {D : DD}
/-- a line's outcome -/
def LO (B : Nat → Int32) (L p : Nat) (h0 : MH) (R : RS (DD × Nat)) (F : Option (Int32 × MH)) : Prop := ∃ v h', F = some (v, h') ∧ ((v = 1 ∧ ∃ r, R = .inr r ∧ KC B L p h0 (xD r.1.1) r.1 r.2 h') ∨ (v = 0 ∧ ∃ e, R = .inl e ∧ KF p h0 e h'))
theorem c_lOf (T : tBy B L p h0) (W : RW h0.2.1) (K : KC B L p h0 (xD D.1) D q h) : LO B L p h0 (lOf B L D q) (fX8_readOffice h 3) := by
  obtain ⟨h1, e1, K1⟩ := c_w8 T K
  obtain ⟨v2, h2, e2, hv2⟩ := c_filler (i := 0) T W K1 rfl
  have e2' : fX8_takeFiller h1 3 0 = some (v2, h2) := e2
  rcases hv2 with ⟨rfl, q2, a1, K2⟩ | ⟨rfl, y, a1, a2⟩
  · obtain ⟨v3, h3, e3, hv3⟩ := c_whole (mx := 100) T K2 (by omega)
    have e3' : fX8_takeWhole h2 3 100 = some (v3, h3) := e3
    rcases hv3 with ⟨i, q3, b1, rfl, K3⟩ | ⟨rfl, y, b1, b2⟩
    · obtain ⟨h4, e4, K4⟩ := c_wC T K3 0 12 (by omega) rfl i
      refine ⟨1, h4, ?_, Or.inl ⟨rfl, _, by unfold lOf; rw [bS_r a1, bS_r b1], K4.wk fun t j ht hx => ?_⟩⟩
      · simp only [fX8_readOffice, e1, ck_at (r3 T K1.1), e2', i10, if_false, g39 T K2.1, ck_at (r3 T K2.1), e3', e4, g12 T K4, if_true, bd_some, bd2_some]
      · have h5 := cpt5 t ht
        rcases xD_up hx with ⟨z, hx⟩ | ⟨z, hx⟩
        · rcases xD_up hx with ⟨z, hx⟩ | ⟨z, hx⟩
          · exact hx
          · omega
        · omega
    · obtain ⟨v, ev, hv⟩ := f_wC T b2 12
      obtain ⟨h4, e4, K4⟩ := hv 0
      refine ⟨0, h4, ?_, Or.inr ⟨rfl, y, by unfold lOf; rw [bS_r a1, bS_l b1], K4⟩⟩
      simp only [fX8_readOffice, e1, ck_at (r3 T K1.1), e2', i10, if_false, g39 T K2.1, ck_at (r3 T K2.1), e3', e4, f12 T K4, if_neg (f12n K4), bd_some, bd2_some]
  · refine ⟨0, h2, ?_, Or.inr ⟨rfl, y, by unfold lOf; rw [bS_l a1], a2⟩⟩
    simp only [fX8_readOffice, e1, ck_at (r3 T K1.1), e2', if_true, bd_some, bd2_some]
theorem c_lMa (T : tBy B L p h0) (W : RW h0.2.1) (V : WD D) (hl : D.2.2.2.length < 17) (K : KC B L p h0 (xD D.1) D q h) : LO B L p h0 (lMa B L D q) (fX8_readMark h 3) := by
  have gc := gCt T K 1 13 (by omega) rfl
  obtain ⟨v1, h1, e1, hv1⟩ := c_new (s := 1) (n := D.1 1) T W K V hl
  have e1' : fX8_takeNewName h 3 1 (Int32.ofNat (D.1 1)) = some (v1, h1) := e1
  rcases hv1 with ⟨rfl, w, q1, a1, aw, K1⟩ | ⟨rfl, y, a1, a2⟩
  · have gc1 : gI h1 (42 - p) 7 13 = some (Int32.ofNat (D.1 1)) := gCt T K1 1 13 (by omega) rfl
    obtain ⟨h2, e2, K2⟩ := c_wC T K1 1 13 (by omega) rfl (D.1 1 + 1)
    refine ⟨1, h2, ?_, Or.inl ⟨rfl, _, by unfold lMa; rw [bS_r a1], K2.wk fun t j ht hx => ?_⟩⟩
    · simp only [fX8_readMark, g39 T K.1, gc, ck_at (r3 T K.1), e1', i10, if_false, g39 T K1.1, gc1, k_succ, e2, bd_some, bd2_some]
    · have h5 := cpt5 t ht
      rcases xD_up hx with ⟨z, hx⟩ | ⟨z, hx⟩
      · exact hx
      · omega
  · refine ⟨0, h1, ?_, Or.inr ⟨rfl, y, by unfold lMa; rw [bS_l a1], a2⟩⟩
    simp only [fX8_readMark, g39 T K.1, gc, ck_at (r3 T K.1), e1', if_true, bd_some, bd2_some]
theorem c_lPa (T : tBy B L p h0) (W : RW h0.2.1) (V : WD D) (hl : D.2.2.2.length < 17) (hc : D.1 2 < 5) (K : KC B L p h0 (xD D.1) D q h) : LO B L p h0 (lPa B L D q) (fX8_readPaper h 3) := by
  have gc := gCt T K 2 14 (by omega) rfl
  obtain ⟨v1, h1, e1, hv1⟩ := c_new (s := 2) (n := D.1 2) T W K V hl
  have e1' : fX8_takeNewName h 3 2 (Int32.ofNat (D.1 2)) = some (v1, h1) := e1
  rcases hv1 with ⟨rfl, w, q1, a1, aw, K1⟩ | ⟨rfl, y, a1, a2⟩
  · have V1 := V.ad (s := 2) (n := D.1 2) hl aw (by omega) hc
    obtain ⟨v2, h2, e2, hv2⟩ := c_filler (i := 1) T W K1 rfl
    have e2' : fX8_takeFiller h1 3 1 = some (v2, h2) := e2
    rcases hv2 with ⟨rfl, q2, b1, K2⟩ | ⟨rfl, y, b1, b2⟩
    · obtain ⟨v3, h3, e3, hv3⟩ := c_whole (mx := 99) T K2 (by omega)
      have e3' : fX8_takeWhole h2 3 99 = some (v3, h3) := e3
      rcases hv3 with ⟨i, q3, c1, rfl, K3⟩ | ⟨rfl, y, c1, c2⟩
      · obtain ⟨h4, e4, K4⟩ := c_wP T K3 0 (by omega) (i := D.1 2) hc (Int32.ofNat i)
        obtain ⟨v5, h5, e5, hv5⟩ := c_mk (D := (D.1, upP D.2.1 0 (D.1 2) (Int32.ofNat i), D.2.2.1, D.2.2.2 ++ [(w, 2, D.1 2)])) T W V1 K4
        rcases hv5 with ⟨b, q5, d1, d2, rfl, K5⟩ | ⟨y, d1, d2⟩
        · have d1' : pMk B L D.2.2.2 6 0 q3 = .inr (b, q5) := by rw [← d1]; exact (pMk_app D.2.2.2 (by decide) 6 0 q3).symm
          obtain ⟨h6, e6, K6⟩ := c_wN T K5 (i := D.1 2) (by omega) (Int32.ofNat b)
          obtain ⟨h7, e7, K7⟩ := c_wP T K6 1 (by omega) (i := D.1 2) hc (-2)
          have gc7 : gI h7 (42 - p) 7 14 = some (Int32.ofNat (D.1 2)) := gCt T K7 2 14 (by omega) rfl
          obtain ⟨h8, e8, K8⟩ := c_wC T K7 2 14 (by omega) rfl (D.1 2 + 1)
          have es : fX4_setMarks h5 8 (Int32.ofNat (D.1 2)) (Int32.ofNat b) = some h6 := by
            simp only [fX4_setMarks, g80 T K5.1, bd_some, Int32.zero_add, e6]
          refine ⟨1, h8, ?_, Or.inl ⟨rfl, _, by unfold lPa; rw [bS_r a1, bS_r b1, bS_r c1, bS_r d1'], K8.wk fun t j ht hx => ?_⟩⟩
          · simp only [fX8_readPaper, g39 T K.1, gc, ck_at (r3 T K.1), e1', i10, if_false, ck_at (r3 T K1.1), e2', g39 T K2.1, gPt T K2.1 0 (by omega), ck_at (r3 T K2.1), e3', e4, g12 T K4, if_true, g35 T K4.1, ck_at (r3 T K4.1), e5, ck_at (r8 T K5.1), es, g39 T K6.1, gPt T K6.1 1 (by omega), e7, g39 T K7.1, gc7, k_succ, e8, g12 T K8, bd_some, bd2_some]
          · have h5 := cpt5 t ht
            rcases xD_up hx with ⟨z, hx⟩ | ⟨z, hx⟩
            · exact Or.inl (Or.inl hx)
            · by_cases zj : j < D.1 2
              · exact Or.inl (Or.inl (by unfold xD; rw [z]; exact zj))
              · by_cases zt : t = 0
                · exact Or.inl (Or.inr ⟨zt, by omega⟩)
                · exact Or.inr ⟨by omega, by omega⟩
        · have d1' : pMk B L D.2.2.2 6 0 q3 = .inl y := by rw [← d1]; exact (pMk_app D.2.2.2 (by decide) 6 0 q3).symm
          obtain ⟨h6, e6, K6⟩ := f_wN T d2 (i := D.1 2) (by omega) v5
          obtain ⟨h7, e7, K7⟩ := f_wP T K6 1 (by omega) (i := D.1 2) hc (-2)
          obtain ⟨v8, ev8, hv8⟩ := f_wC T K7 14
          obtain ⟨h8, e8, K8⟩ := hv8 (v8 + 1)
          have es : fX4_setMarks h5 8 (Int32.ofNat (D.1 2)) v5 = some h6 := by
            simp only [fX4_setMarks, g80 T d2.1, bd_some, Int32.zero_add, e6]
          refine ⟨0, h8, ?_, Or.inr ⟨rfl, y, by unfold lPa; rw [bS_r a1, bS_r b1, bS_r c1, bS_l d1'], K8⟩⟩
          simp only [fX8_readPaper, g39 T K.1, gc, ck_at (r3 T K.1), e1', i10, if_false, ck_at (r3 T K1.1), e2', g39 T K2.1, gPt T K2.1 0 (by omega), ck_at (r3 T K2.1), e3', e4, g12 T K4, if_true, g35 T K4.1, ck_at (r3 T K4.1), e5, ck_at (r8 T d2.1), es, g39 T K6.1, gPt T K6.1 1 (by omega), e7, g39 T K7.1, ev8, e8, f12 T K8, if_neg (f12n K8), bd_some, bd2_some]
      · obtain ⟨h4, e4, K4⟩ := f_wP T c2 0 (by omega) (i := D.1 2) hc 0
        refine ⟨0, h4, ?_, Or.inr ⟨rfl, y, by unfold lPa; rw [bS_r a1, bS_r b1, bS_l c1], K4⟩⟩
        simp only [fX8_readPaper, g39 T K.1, gc, ck_at (r3 T K.1), e1', i10, if_false, ck_at (r3 T K1.1), e2', g39 T K2.1, gPt T K2.1 0 (by omega), ck_at (r3 T K2.1), e3', e4, f12 T K4, if_neg (f12n K4), bd_some, bd2_some]
    · refine ⟨0, h2, ?_, Or.inr ⟨rfl, y, by unfold lPa; rw [bS_r a1, bS_l b1], b2⟩⟩
      simp only [fX8_readPaper, g39 T K.1, gc, ck_at (r3 T K.1), e1', i10, if_false, ck_at (r3 T K1.1), e2', if_true, bd_some, bd2_some]
  · refine ⟨0, h1, ?_, Or.inr ⟨rfl, y, by unfold lPa; rw [bS_l a1], a2⟩⟩
    simp only [fX8_readPaper, g39 T K.1, gc, ck_at (r3 T K.1), e1', if_true, bd_some, bd2_some]
end CLN
