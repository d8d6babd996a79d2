/-! ===== READING: the class's lines, the others ===== -/
section CLM
variable {p : Nat} {h h0 : MH} {B : Nat → Int32} {L q : Nat} {D : DD}
theorem k_10a (i : Nat) : (10 : Int32) + Int32.ofNat i = Int32.ofNat (10 + i) := by rw [show (10 : Int32) = Int32.ofNat 10 from rfl, k_add]
theorem k_18a (i : Nat) : (18 : Int32) + Int32.ofNat i = Int32.ofNat (18 + i) := by rw [show (18 : Int32) = Int32.ofNat 18 from rfl, k_add]
theorem c_lSt (T : tBy B L p h0) (W : RW h0.2.1) (V : WD D) (hl : D.2.2.2.length < 17) (hc : D.1 3 < 4) (K : KC B L p h0 (xD D.1) D q h) : LO B L p h0 (lSt B L D q) (fX8_readStamp h 3) := by
  have gc := gCt T K 3 15 (by omega) rfl
  obtain ⟨v1, h1, e1, hv1⟩ := c_new (s := 3) (n := D.1 3) T W K V hl
  have e1' : fX8_takeNewName h 3 3 (Int32.ofNat (D.1 3)) = some (v1, h1) := e1
  rcases hv1 with ⟨rfl, w, q1, a1, aw, K1⟩ | ⟨rfl, y, a1, a2⟩
  · have V1 := V.ad (s := 3) (n := D.1 3) hl aw (by omega) (by omega)
    obtain ⟨v2, h2, e2, hv2⟩ := c_filler (i := 2) T W K1 rfl
    have e2' : fX8_takeFiller h1 3 2 = some (v2, h2) := e2
    rcases hv2 with ⟨rfl, q2, b1, K2⟩ | ⟨rfl, y, b1, b2⟩
    · obtain ⟨v3, h3, e3, hv3⟩ := c_whole (mx := 9) T K2 (by omega)
      have e3' : fX8_takeWhole h2 3 9 = some (v3, h3) := e3
      rcases hv3 with ⟨i, q3, c1, rfl, K3⟩ | ⟨rfl, y, c1, c2⟩
      · obtain ⟨h4, e4, K4⟩ := c_wN T K3 (i := 10 + D.1 3) (by omega) (Int32.ofNat i)
        have es : fX4_setInk h3 8 (Int32.ofNat (D.1 3)) (Int32.ofNat i) = some h4 := by
          simp only [fX4_setInk, g80 T K3.1, bd_some, k_10a, e4]
        obtain ⟨v5, h5, e5, hv5⟩ := c_filler (i := 3) T W K4 rfl
        have e5' : fX8_takeFiller h4 3 3 = some (v5, h5) := e5
        rcases hv5 with ⟨rfl, q5, d1, K5⟩ | ⟨rfl, y, d1, d2⟩
        · obtain ⟨v6, h6, e6, hv6⟩ := c_take (l := nT6) T K5 (by decide) (c_ch6 T W K5)
          rcases hv6 with ⟨o, q6, f1, rfl, K6⟩ | ⟨y, f1, f2⟩
          · obtain ⟨h7, e7, K7⟩ := c_wP T K6 2 (by omega) (i := D.1 3) hc (Int32.ofNat o)
            obtain ⟨v8, h8, e8, hv8⟩ := c_mk (D := (D.1, upP D.2.1 2 (D.1 3) (Int32.ofNat o), upN D.2.2.1 (10 + D.1 3) (Int32.ofNat i), D.2.2.2 ++ [(w, 3, D.1 3)])) T W V1 K7
            rcases hv8 with ⟨b, q8, m1, m2, rfl, K8⟩ | ⟨y, m1, m2⟩
            · have m1' : pMk B L D.2.2.2 6 0 q6 = .inr (b, q8) := by rw [← m1]; exact (pMk_app D.2.2.2 (by decide) 6 0 q6).symm
              obtain ⟨h9, e9, K9⟩ := c_wP T K8 3 (by omega) (i := D.1 3) hc (Int32.ofNat b)
              have gc9 : gI h9 (42 - p) 7 15 = some (Int32.ofNat (D.1 3)) := gCt T K9 3 15 (by omega) rfl
              obtain ⟨h10, e10, K10⟩ := c_wC T K9 3 15 (by omega) rfl (D.1 3 + 1)
              refine ⟨1, h10, ?_, Or.inl ⟨rfl, _, by unfold lSt; rw [bS_r a1, bS_r b1, bS_r c1, bS_r d1, bS_r f1, bS_r m1'], K10.wk fun t j ht hx => ?_⟩⟩
              · simp only [fX8_readStamp, g39 T K.1, gc, ck_at (r3 T K.1), e1', i10, if_false, ck_at (r3 T K1.1), e2', g35 T K2.1, ck_at (r3 T K2.1), e3', ck_at (r8 T K3.1), es, g12 T K4, if_true, ck_at (r3 T K4.1), e5', g39 T K5.1, gPt T K5.1 2 (by omega), g33 T K5.1, ck_at (r3 T K5.1), e6, e7, g12 T K7, g39 T K7.1, gPt T K7.1 3 (by omega), ck_at (r3 T K7.1), e8, e9, g39 T K9.1, gc9, k_succ, e10, g12 T K10, bd_some, bd2_some]
              · have h5 := cpt5 t ht
                rcases xD_up hx with ⟨z, hx⟩ | ⟨z, hx⟩
                · exact Or.inl (Or.inl hx)
                · by_cases zj : j < D.1 3
                  · exact Or.inl (Or.inl (by unfold xD; rw [z]; exact zj))
                  · by_cases zt : t = 2
                    · exact Or.inl (Or.inr ⟨zt, by omega⟩)
                    · exact Or.inr ⟨by omega, by omega⟩
            · have m1' : pMk B L D.2.2.2 6 0 q6 = .inl y := by rw [← m1]; exact (pMk_app D.2.2.2 (by decide) 6 0 q6).symm
              obtain ⟨h9, e9, K9⟩ := f_wP T m2 3 (by omega) (i := D.1 3) hc v8
              obtain ⟨v10, ev10, hv10⟩ := f_wC T K9 15
              obtain ⟨h10, e10, K10⟩ := hv10 (v10 + 1)
              refine ⟨0, h10, ?_, Or.inr ⟨rfl, y, by unfold lSt; rw [bS_r a1, bS_r b1, bS_r c1, bS_r d1, bS_r f1, bS_l m1'], K10⟩⟩
              simp only [fX8_readStamp, g39 T K.1, gc, ck_at (r3 T K.1), e1', i10, if_false, ck_at (r3 T K1.1), e2', g35 T K2.1, ck_at (r3 T K2.1), e3', ck_at (r8 T K3.1), es, g12 T K4, if_true, ck_at (r3 T K4.1), e5', g39 T K5.1, gPt T K5.1 2 (by omega), g33 T K5.1, ck_at (r3 T K5.1), e6, e7, g12 T K7, g39 T K7.1, gPt T K7.1 3 (by omega), ck_at (r3 T K7.1), e8, e9, g39 T K9.1, ev10, e10, f12 T K10, if_neg (f12n K10), bd_some, bd2_some]
          · obtain ⟨h7, e7, K7⟩ := f_wP T f2 2 (by omega) (i := D.1 3) hc v6
            refine ⟨0, h7, ?_, Or.inr ⟨rfl, y, by unfold lSt; rw [bS_r a1, bS_r b1, bS_r c1, bS_r d1, bS_l f1], K7⟩⟩
            simp only [fX8_readStamp, g39 T K.1, gc, ck_at (r3 T K.1), e1', i10, if_false, ck_at (r3 T K1.1), e2', g35 T K2.1, ck_at (r3 T K2.1), e3', ck_at (r8 T K3.1), es, g12 T K4, if_true, ck_at (r3 T K4.1), e5', g39 T K5.1, gPt T K5.1 2 (by omega), g33 T K5.1, ck_at (r3 T K5.1), e6, e7, f12 T K7, if_neg (f12n K7), bd_some, bd2_some]
        · refine ⟨0, h5, ?_, Or.inr ⟨rfl, y, by unfold lSt; rw [bS_r a1, bS_r b1, bS_r c1, bS_l d1], d2⟩⟩
          simp only [fX8_readStamp, g39 T K.1, gc, ck_at (r3 T K.1), e1', i10, if_false, ck_at (r3 T K1.1), e2', g35 T K2.1, ck_at (r3 T K2.1), e3', ck_at (r8 T K3.1), es, g12 T K4, if_true, ck_at (r3 T K4.1), e5', bd_some, bd2_some]
      · obtain ⟨h4, e4, K4⟩ := f_wN T c2 (i := 10 + D.1 3) (by omega) 0
        have es : fX4_setInk h3 8 (Int32.ofNat (D.1 3)) 0 = some h4 := by
          simp only [fX4_setInk, g80 T c2.1, bd_some, k_10a, e4]
        refine ⟨0, h4, ?_, Or.inr ⟨rfl, y, by unfold lSt; rw [bS_r a1, bS_r b1, bS_l c1], K4⟩⟩
        simp only [fX8_readStamp, g39 T K.1, gc, ck_at (r3 T K.1), e1', i10, if_false, ck_at (r3 T K1.1), e2', g35 T K2.1, ck_at (r3 T K2.1), e3', ck_at (r8 T c2.1), es, f12 T K4, if_neg (f12n K4), bd_some, bd2_some]
    · refine ⟨0, h2, ?_, Or.inr ⟨rfl, y, by unfold lSt; rw [bS_r a1, bS_l b1], b2⟩⟩
      simp only [fX8_readStamp, g39 T K.1, gc, ck_at (r3 T K.1), e1', i10, if_false, ck_at (r3 T K1.1), e2', if_true, bd_some, bd2_some]
  · refine ⟨0, h1, ?_, Or.inr ⟨rfl, y, by unfold lSt; rw [bS_l a1], a2⟩⟩
    simp only [fX8_readStamp, g39 T K.1, gc, ck_at (r3 T K.1), e1', if_true, bd_some, bd2_some]
theorem c_lHa (T : tBy B L p h0) (W : RW h0.2.1) (V : WD D) (hl : D.2.2.2.length < 17) (hc : D.1 5 < 3) (K : KC B L p h0 (xD D.1) D q h) : LO B L p h0 (lHa B L D q) (fX8_readHand h 3) := by
  have gc := gCt T K 5 17 (by omega) rfl
  obtain ⟨v1, h1, e1, hv1⟩ := c_new (s := 5) (n := D.1 5) T W K V hl
  have e1' : fX8_takeNewName h 3 5 (Int32.ofNat (D.1 5)) = some (v1, h1) := e1
  rcases hv1 with ⟨rfl, w, q1, a1, aw, K1⟩ | ⟨rfl, y, a1, a2⟩
  · obtain ⟨v2, h2, e2, hv2⟩ := c_take (l := nT7) T K1 (by decide) (c_ch7 T W K1)
    rcases hv2 with ⟨k, q2, b1, rfl, K2⟩ | ⟨y, b1, b2⟩
    · obtain ⟨h3, e3, K3⟩ := c_wP T K2 7 (by omega) (i := D.1 5) hc (Int32.ofNat k)
      obtain ⟨v4, h4, e4, hv4⟩ := c_filler (i := 4) T W K3 rfl
      have e4' : fX8_takeFiller h3 3 4 = some (v4, h4) := e4
      rcases hv4 with ⟨rfl, q4, c1, K4⟩ | ⟨rfl, y, c1, c2⟩
      · obtain ⟨v5, h5, e5, hv5⟩ := c_whole (mx := 100) T K4 (by omega)
        have e5' : fX8_takeWhole h4 3 100 = some (v5, h5) := e5
        rcases hv5 with ⟨i, q5, d1, rfl, K5⟩ | ⟨rfl, y, d1, d2⟩
        · obtain ⟨h6, e6, K6⟩ := c_wP T K5 8 (by omega) (i := D.1 5) hc (Int32.ofNat i)
          have gc6 : gI h6 (42 - p) 7 17 = some (Int32.ofNat (D.1 5)) := gCt T K6 5 17 (by omega) rfl
          obtain ⟨h7, e7, K7⟩ := c_wC T K6 5 17 (by omega) rfl (D.1 5 + 1)
          refine ⟨1, h7, ?_, Or.inl ⟨rfl, _, by unfold lHa; rw [bS_r a1, bS_r b1, bS_r c1, bS_r d1], K7.wk fun t j ht hx => ?_⟩⟩
          · simp only [fX8_readHand, g39 T K.1, gc, ck_at (r3 T K.1), e1', i10, if_false, g39 T K1.1, gPt T K1.1 7 (by omega), g34 T K1.1, ck_at (r3 T K1.1), e2, e3, g12 T K3, if_true, ck_at (r3 T K3.1), e4', g39 T K4.1, gPt T K4.1 8 (by omega), ck_at (r3 T K4.1), e5', e6, g39 T K6.1, gc6, k_succ, e7, g12 T K7, bd_some, bd2_some]
          · have h5 := cpt5 t ht
            rcases xD_up hx with ⟨z, hx⟩ | ⟨z, hx⟩
            · exact Or.inl (Or.inl hx)
            · by_cases zj : j < D.1 5
              · exact Or.inl (Or.inl (by unfold xD; rw [z]; exact zj))
              · by_cases zt : t = 7
                · exact Or.inl (Or.inr ⟨zt, by omega⟩)
                · exact Or.inr ⟨by omega, by omega⟩
        · obtain ⟨h6, e6, K6⟩ := f_wP T d2 8 (by omega) (i := D.1 5) hc 0
          obtain ⟨v7, ev7, hv7⟩ := f_wC T K6 17
          obtain ⟨h7, e7, K7⟩ := hv7 (v7 + 1)
          refine ⟨0, h7, ?_, Or.inr ⟨rfl, y, by unfold lHa; rw [bS_r a1, bS_r b1, bS_r c1, bS_l d1], K7⟩⟩
          simp only [fX8_readHand, g39 T K.1, gc, ck_at (r3 T K.1), e1', i10, if_false, g39 T K1.1, gPt T K1.1 7 (by omega), g34 T K1.1, ck_at (r3 T K1.1), e2, e3, g12 T K3, if_true, ck_at (r3 T K3.1), e4', g39 T K4.1, gPt T K4.1 8 (by omega), ck_at (r3 T K4.1), e5', e6, g39 T K6.1, ev7, e7, f12 T K7, if_neg (f12n K7), bd_some, bd2_some]
      · refine ⟨0, h4, ?_, Or.inr ⟨rfl, y, by unfold lHa; rw [bS_r a1, bS_r b1, bS_l c1], c2⟩⟩
        simp only [fX8_readHand, g39 T K.1, gc, ck_at (r3 T K.1), e1', i10, if_false, g39 T K1.1, gPt T K1.1 7 (by omega), g34 T K1.1, ck_at (r3 T K1.1), e2, e3, g12 T K3, if_true, ck_at (r3 T K3.1), e4', bd_some, bd2_some]
    · obtain ⟨h3, e3, K3⟩ := f_wP T b2 7 (by omega) (i := D.1 5) hc v2
      refine ⟨0, h3, ?_, Or.inr ⟨rfl, y, by unfold lHa; rw [bS_r a1, bS_l b1], K3⟩⟩
      simp only [fX8_readHand, g39 T K.1, gc, ck_at (r3 T K.1), e1', i10, if_false, g39 T K1.1, gPt T K1.1 7 (by omega), g34 T K1.1, ck_at (r3 T K1.1), e2, e3, f12 T K3, if_neg (f12n K3), bd_some, bd2_some]
  · refine ⟨0, h1, ?_, Or.inr ⟨rfl, y, by unfold lHa; rw [bS_l a1], a2⟩⟩
    simp only [fX8_readHand, g39 T K.1, gc, ck_at (r3 T K.1), e1', if_true, bd_some, bd2_some]
theorem c_lPr (T : tBy B L p h0) (W : RW h0.2.1) (V : WD D) (hc : D.1 7 < 4) (K : KC B L p h0 (xD D.1) D q h) : LO B L p h0 (lPr B L D q) (fX8_readPrint h 3) := by
  have gc := gCt T K 7 19 (by omega) rfl
  obtain ⟨v1, h1, e1, hv1⟩ := c_tOld (s := 2) T W K V (by omega)
  have e1' : fX8_takeOldName h 3 2 = some (v1, h1) := e1
  rcases hv1 with ⟨i, a1, ai, rfl, K1⟩ | ⟨y, a1, a2⟩
  · obtain ⟨h2, e2, K2⟩ := c_wP T K1 9 (by omega) (i := D.1 7) hc (Int32.ofNat i)
    obtain ⟨v3, h3, e3, hv3⟩ := c_tOld (s := 5) (D := (D.1, upP D.2.1 9 (D.1 7) (Int32.ofNat i), D.2.2.1, D.2.2.2)) T W K2 V (by omega)
    have e3' : fX8_takeOldName h2 3 5 = some (v3, h3) := e3
    rcases hv3 with ⟨j, b1, bj, rfl, K3⟩ | ⟨y, b1, b2⟩
    · obtain ⟨h4, e4, K4⟩ := c_wP T K3 10 (by omega) (i := D.1 7) hc (Int32.ofNat j)
      obtain ⟨v5, h5, e5, hv5⟩ := c_take (l := nT6) T K4 (by decide) (c_ch6 T W K4)
      rcases hv5 with ⟨k, q5, c1, rfl, K5⟩ | ⟨y, c1, c2⟩
      · obtain ⟨h6, e6, K6⟩ := c_wP T K5 11 (by omega) (i := D.1 7) hc (Int32.ofNat k)
        have gc6 : gI h6 (42 - p) 7 19 = some (Int32.ofNat (D.1 7)) := gCt T K6 7 19 (by omega) rfl
        obtain ⟨h7, e7, K7⟩ := c_wC T K6 7 19 (by omega) rfl (D.1 7 + 1)
        refine ⟨1, h7, ?_, Or.inl ⟨rfl, _, by unfold lPr; rw [bS_r a1, bS_r b1, bS_r c1], K7.wk fun t j ht hx => ?_⟩⟩
        · simp only [fX8_readPrint, g39 T K.1, gc, gPt T K.1 9 (by omega), ck_at (r3 T K.1), e1', e2, g12 T K2, if_true, g39 T K2.1, gPt T K2.1 10 (by omega), ck_at (r3 T K2.1), e3', e4, g12 T K4, g39 T K4.1, gPt T K4.1 11 (by omega), g33 T K4.1, ck_at (r3 T K4.1), e5, e6, g39 T K6.1, gc6, k_succ, e7, g12 T K7, bd_some, bd2_some]
        · have h5 := cpt5 t ht
          rcases xD_up hx with ⟨z, hx⟩ | ⟨z, hx⟩
          · exact Or.inl (Or.inl (Or.inl hx))
          · by_cases zj : j < D.1 7
            · exact Or.inl (Or.inl (Or.inl (by unfold xD; rw [z]; exact zj)))
            · by_cases zt : t = 9
              · exact Or.inl (Or.inl (Or.inr ⟨zt, by omega⟩))
              · by_cases zt2 : t = 10
                · exact Or.inl (Or.inr ⟨zt2, by omega⟩)
                · exact Or.inr ⟨by omega, by omega⟩
      · obtain ⟨h6, e6, K6⟩ := f_wP T c2 11 (by omega) (i := D.1 7) hc v5
        obtain ⟨v7, ev7, hv7⟩ := f_wC T K6 19
        obtain ⟨h7, e7, K7⟩ := hv7 (v7 + 1)
        refine ⟨0, h7, ?_, Or.inr ⟨rfl, y, by unfold lPr; rw [bS_r a1, bS_r b1, bS_l c1], K7⟩⟩
        simp only [fX8_readPrint, g39 T K.1, gc, gPt T K.1 9 (by omega), ck_at (r3 T K.1), e1', e2, g12 T K2, if_true, g39 T K2.1, gPt T K2.1 10 (by omega), ck_at (r3 T K2.1), e3', e4, g12 T K4, g39 T K4.1, gPt T K4.1 11 (by omega), g33 T K4.1, ck_at (r3 T K4.1), e5, e6, g39 T K6.1, ev7, e7, f12 T K7, if_neg (f12n K7), bd_some, bd2_some]
    · obtain ⟨h4, e4, K4⟩ := f_wP T b2 10 (by omega) (i := D.1 7) hc v3
      refine ⟨0, h4, ?_, Or.inr ⟨rfl, y, by unfold lPr; rw [bS_r a1, bS_l b1], K4⟩⟩
      simp only [fX8_readPrint, g39 T K.1, gc, gPt T K.1 9 (by omega), ck_at (r3 T K.1), e1', e2, g12 T K2, if_true, g39 T K2.1, gPt T K2.1 10 (by omega), ck_at (r3 T K2.1), e3', e4, f12 T K4, if_neg (f12n K4), bd_some, bd2_some]
  · obtain ⟨h2, e2, K2⟩ := f_wP T a2 9 (by omega) (i := D.1 7) hc v1
    refine ⟨0, h2, ?_, Or.inr ⟨rfl, y, by unfold lPr; rw [bS_l a1], K2⟩⟩
    simp only [fX8_readPrint, g39 T K.1, gc, gPt T K.1 9 (by omega), ck_at (r3 T K.1), e1', e2, f12 T K2, if_neg (f12n K2), bd_some, bd2_some]
theorem c_lWa (T : tBy B L p h0) (W : RW h0.2.1) (V : WD D) (hb : ∀ j, pOld B L D.2.2.2 2 q = .inr j → j < D.1 2) (K : KC B L p h0 (xD D.1) D q h) : LO B L p h0 (lWa B L D q) (fX8_readWant h 3) := by
  obtain ⟨v1, h1, e1, hv1⟩ := c_old (s := 2) T W K V (by omega)
  have e1' : fX8_findOldName h 3 2 = some (v1, h1) := e1
  rcases hv1 with ⟨i, a1, ai, rfl, rfl⟩ | ⟨rfl, y, a1, a2⟩
  · have c6 : (0 : Int32) ≤ Int32.ofNat i := (k_le (i := 0) (n := i) (by decide) (by omega)).mpr (Nat.zero_le _)
    have li : lI h1 (43 - p + 1) (Int32.ofNat i) = some (D.2.1 1 i) := by rw [lI_at ((KC.cs T K.1).plA' 1 (by omega)).2 (show i < 5 by omega) (by decide), K.2.2.2.2.2.2.2.1 1 i (by omega) (hb i a1)]
    by_cases z : D.2.1 1 i = -2
    · obtain ⟨h2, e2, K2⟩ := c_adv T K
      obtain ⟨v3, h3, e3, hv3⟩ := c_take (l := nT6) T K2 (by decide) (c_ch6 T W K2)
      rcases hv3 with ⟨k, q3, c1, rfl, K3⟩ | ⟨y, c1, c2⟩
      · obtain ⟨h4, e4, K4⟩ := c_wP T K3 1 (by omega) (i := i) (show i < 5 by omega) (Int32.ofNat k)
        have gc4 : gI h4 (42 - p) 7 18 = some (Int32.ofNat (D.1 6)) := gCt T K4 6 18 (by omega) rfl
        obtain ⟨h5, e5, K5⟩ := c_wC T K4 6 18 (by omega) rfl (D.1 6 + 1)
        refine ⟨1, h5, ?_, Or.inl ⟨rfl, _, by unfold lWa; rw [bS_r a1, if_pos z, bS_r c1], K5.wk fun t j ht hx => ?_⟩⟩
        · simp only [fX8_readWant, ck_at (r3 T K.1), e1', if_pos c6, g39 T K.1, gPt T K.1 1 (by omega), li, if_pos z, g30 T K.1, ck_at (r1 T K.1), e2, g39 T K2.1, gPt T K2.1 1 (by omega), g33 T K2.1, ck_at (r3 T K2.1), e3, e4, g39 T K4.1, gc4, k_succ, e5, g12 T K5, if_true, bd_some, bd2_some]
        · have h5 := cpt5 t ht
          rcases xD_up hx with ⟨z, hx⟩ | ⟨z, hx⟩
          · exact Or.inl hx
          · omega
      · obtain ⟨h4, e4, K4⟩ := f_wP T c2 1 (by omega) (i := i) (show i < 5 by omega) v3
        obtain ⟨v5, ev5, hv5⟩ := f_wC T K4 18
        obtain ⟨h5, e5, K5⟩ := hv5 (v5 + 1)
        refine ⟨0, h5, ?_, Or.inr ⟨rfl, y, by unfold lWa; rw [bS_r a1, if_pos z, bS_l c1], K5⟩⟩
        simp only [fX8_readWant, ck_at (r3 T K.1), e1', if_pos c6, g39 T K.1, gPt T K.1 1 (by omega), li, if_pos z, g30 T K.1, ck_at (r1 T K.1), e2, g39 T K2.1, gPt T K2.1 1 (by omega), g33 T K2.1, ck_at (r3 T K2.1), e3, e4, g39 T K4.1, ev5, e5, f12 T K5, if_neg (f12n K5), bd_some, bd2_some]
    · obtain ⟨f3, e3, K3⟩ := c_fail T K.1 K.2.1.2.2.1 (n := 3) (by omega)
      have e3' : fX8_fail h1 3 3 = some (0, f3) := e3
      refine ⟨0, f3, ?_, Or.inr ⟨rfl, _, by unfold lWa; rw [bS_r a1, if_neg z], K3⟩⟩
      simp only [fX8_readWant, ck_at (r3 T K.1), e1', if_pos c6, g39 T K.1, gPt T K.1 1 (by omega), li, if_neg z, e3', rB0, bd_some, bd2_some]
  · refine ⟨0, h1, ?_, Or.inr ⟨rfl, y, by unfold lWa; rw [bS_l a1], a2⟩⟩
    simp only [fX8_readWant, ck_at (r3 T K.1), e1', if_neg (show ¬ (0 : Int32) ≤ -1 by decide), bd_some, bd2_some]
theorem c_ru74 {s nt : Nat} {q2 : Nat} (T : tBy B L p h0) (W : RW h0.2.1) (V : WD D) (hc : D.1 4 < 10) (K : KC B L p h0 (xP (xP (xP (xD D.1) 4 (D.1 4)) 6 (D.1 4)) 6 (D.1 4)) (D.1, upP (upP D.2.1 4 (D.1 4) (Int32.ofNat s)) 6 (D.1 4) (Int32.ofNat nt), D.2.2.1, D.2.2.2) q2 h) :
    LO B L p h0 (bS (pOld B L D.2.2.2 1 q2) fun m => bS (pCh B L nT6 (tTo B L q2)) fun v => .inr ((upN D.1 4 (D.1 4 + 1), upP (upP (upP D.2.1 4 (D.1 4) (Int32.ofNat s)) 6 (D.1 4) (Int32.ofNat nt)) 5 (D.1 4) (Int32.ofNat m), upN D.2.2.1 (18 + D.1 4) (Int32.ofNat v.1), D.2.2.2), v.2)) (bX8_readRule_74 h 3 (Int32.ofNat (D.1 4))) := by
  obtain ⟨v1, h1, e1, hv1⟩ := c_tOld (s := 1) (D := (D.1, upP (upP D.2.1 4 (D.1 4) (Int32.ofNat s)) 6 (D.1 4) (Int32.ofNat nt), D.2.2.1, D.2.2.2)) T W K V (by omega)
  have e1' : fX8_takeOldName h 3 1 = some (v1, h1) := e1
  rcases hv1 with ⟨m, a1, ai, rfl, K1⟩ | ⟨y, a1, a2⟩
  · obtain ⟨h2, e2, K2⟩ := c_wP T K1 5 (by omega) (i := D.1 4) hc (Int32.ofNat m)
    obtain ⟨v3, h3, e3, hv3⟩ := c_take (l := nT6) T K2 (by decide) (c_ch6 T W K2)
    rcases hv3 with ⟨k, q3, c1, rfl, K3⟩ | ⟨y, c1, c2⟩
    · obtain ⟨h4, e4, K4⟩ := c_wN T K3 (i := 18 + D.1 4) (by omega) (Int32.ofNat k)
      have es : fX4_setVerdict h3 8 (Int32.ofNat (D.1 4)) (Int32.ofNat k) = some h4 := by
        simp only [fX4_setVerdict, g80 T K3.1, bd_some, k_18a, e4]
      have gc4 : gI h4 (42 - p) 7 16 = some (Int32.ofNat (D.1 4)) := gCt T K4 4 16 (by omega) rfl
      obtain ⟨h5, e5, K5⟩ := c_wC T K4 4 16 (by omega) rfl (D.1 4 + 1)
      refine ⟨1, h5, ?_, Or.inl ⟨rfl, _, by rw [bS_r a1, bS_r c1], K5.wk fun t j ht hx => ?_⟩⟩
      · simp only [bX8_readRule_74, g39 T K.1, gPt T K.1 5 (by omega), ck_at (r3 T K.1), e1', e2, g12 T K2, if_true, g35 T K2.1, g33 T K2.1, ck_at (r3 T K2.1), e3, ck_at (r8 T K3.1), es, g39 T K4.1, gc4, k_succ, e5, g12 T K5, bd_some, bd2_some]
      · have h5 := cpt5 t ht
        rcases xD_up hx with ⟨z, hx⟩ | ⟨z, hx⟩
        · exact Or.inl (Or.inl (Or.inl (Or.inl hx)))
        · by_cases zj : j < D.1 4
          · exact Or.inl (Or.inl (Or.inl (Or.inl (by unfold xD; rw [z]; exact zj))))
          · by_cases zt : t = 4
            · exact Or.inl (Or.inl (Or.inl (Or.inr ⟨zt, by omega⟩)))
            · by_cases zt2 : t = 6
              · exact Or.inl (Or.inr ⟨zt2, by omega⟩)
              · exact Or.inr ⟨by omega, by omega⟩
    · obtain ⟨h4, e4, K4⟩ := f_wN T c2 (i := 18 + D.1 4) (by omega) v3
      have es : fX4_setVerdict h3 8 (Int32.ofNat (D.1 4)) v3 = some h4 := by
        simp only [fX4_setVerdict, g80 T c2.1, bd_some, k_18a, e4]
      obtain ⟨v5, ev5, hv5⟩ := f_wC T K4 16
      obtain ⟨h5, e5, K5⟩ := hv5 (v5 + 1)
      refine ⟨0, h5, ?_, Or.inr ⟨rfl, y, by rw [bS_r a1, bS_l c1], K5⟩⟩
      simp only [bX8_readRule_74, g39 T K.1, gPt T K.1 5 (by omega), ck_at (r3 T K.1), e1', e2, g12 T K2, if_true, g35 T K2.1, g33 T K2.1, ck_at (r3 T K2.1), e3, ck_at (r8 T c2.1), es, g39 T K4.1, ev5, e5, f12 T K5, if_neg (f12n K5), bd_some, bd2_some]
  · obtain ⟨h2, e2, K2⟩ := f_wP T a2 5 (by omega) (i := D.1 4) hc v1
    refine ⟨0, h2, ?_, Or.inr ⟨rfl, y, by rw [bS_l a1], K2⟩⟩
    simp only [bX8_readRule_74, g39 T K.1, gPt T K.1 5 (by omega), ck_at (r3 T K.1), e1', e2, f12 T K2, if_neg (f12n K2), bd_some, bd2_some]
theorem upP_2 (P : PT) (t i : Nat) (x y : Int32) : upP (upP P t i x) t i y = upP P t i y := by
  funext t' i'
  unfold upP
  by_cases z : t' = t ∧ i' = i
  · rw [if_pos z, if_pos z]
  · rw [if_neg z, if_neg z, if_neg z]
theorem c_lRu (T : tBy B L p h0) (W : RW h0.2.1) (V : WD D) (hc : D.1 4 < 10) (K : KC B L p h0 (xD D.1) D q h) : LO B L p h0 (lRu B L D q) (fX8_readRule h 3) := by
  have gc := gCt T K 4 16 (by omega) rfl
  obtain ⟨v1, h1, e1, hv1⟩ := c_tOld (s := 3) T W K V (by omega)
  have e1' : fX8_takeOldName h 3 3 = some (v1, h1) := e1
  rcases hv1 with ⟨s, a1, ai, rfl, K1⟩ | ⟨y, a1, a2⟩
  · obtain ⟨h2, e2, K2⟩ := c_wP T K1 4 (by omega) (i := D.1 4) hc (Int32.ofNat s)
    obtain ⟨h3, e3, K3⟩ := c_wP T K2 6 (by omega) (i := D.1 4) hc 0
    have c := c_ch4 T W K3
    have c2 : (oN (ix nT4 (tWd B L (tTo B L q))) = 8) ↔ ix nT4 (tWd B L (tTo B L q)) = some 8 := oN_eq (i := 8) (ix_b (l := nT4) (w := tWd B L (tTo B L q)) (by decide)) (by omega)
    unfold lRu
    rw [bS_r a1]
    by_cases z : ix nT4 (tWd B L (tTo B L q)) = some 8
    · obtain ⟨h5, e5, K5⟩ := c_wP T K3 6 (by omega) (i := D.1 4) hc (Int32.ofNat 1)
      have e5' : tI h3 (43 - p + 6) (Int32.ofNat (D.1 4)) 1 = some h5 := e5
      obtain ⟨h6, e6, K6⟩ := c_adv T K5
      have en : nOt B L (tTo B L q) = (1, tTo B L (tTo B L q)) := by unfold nOt; rw [if_pos z]
      rw [en]
      have K6' : KC B L p h0 (xP (xP (xP (xD D.1) 4 (D.1 4)) 6 (D.1 4)) 6 (D.1 4)) (D.1, upP (upP D.2.1 4 (D.1 4) (Int32.ofNat s)) 6 (D.1 4) (Int32.ofNat 1), D.2.2.1, D.2.2.2) (tTo B L (tTo B L q)) h6 := by
        have := K6
        rw [show upP (D.1, upP (D.1, upP D.2.1 4 (D.1 4) (Int32.ofNat s), D.2.2.1, D.2.2.2).2.1 6 (D.1 4) 0, D.2.2.1, D.2.2.2).2.1 6 (D.1 4) (Int32.ofNat 1) = upP (upP D.2.1 4 (D.1 4) (Int32.ofNat s)) 6 (D.1 4) (Int32.ofNat 1) from upP_2 _ _ _ _ _] at this
        exact this
      have R := c_ru74 T W V hc K6'
      have st : fX8_readRule h 3 = bX8_readRule_74 h6 3 (Int32.ofNat (D.1 4)) := by
        simp only [fX8_readRule, g39 T K.1, gc, gPt T K.1 4 (by omega), ck_at (r3 T K.1), e1', e2, g12 T K2, if_true, g39 T K2.1, gPt T K2.1 6 (by omega), e3, g30 T K3.1, g31 T K3.1, ck_at (r1 T K3.1), c, if_pos (c2.mpr z), g39 T K3.1, gPt T K3.1 6 (by omega), e5', g30 T K5.1, ck_at (r1 T K5.1), e6, bd_some, bd2_some]
      rw [st]; exact R
    · have en : nOt B L (tTo B L q) = (0, tTo B L q) := by unfold nOt; rw [if_neg z]
      rw [en]
      have R := c_ru74 (s := s) (nt := 0) T W V hc (K3.wk fun t j ht hx => by
        rcases hx with hx | hx
        · exact hx
        · exact Or.inr hx)
      have st : fX8_readRule h 3 = bX8_readRule_74 h3 3 (Int32.ofNat (D.1 4)) := by
        simp only [fX8_readRule, g39 T K.1, gc, gPt T K.1 4 (by omega), ck_at (r3 T K.1), e1', e2, g12 T K2, if_true, g39 T K2.1, gPt T K2.1 6 (by omega), e3, g30 T K3.1, g31 T K3.1, ck_at (r1 T K3.1), c, if_neg (fun x => z (c2.mp x)), bd_some, bd2_some]
      rw [st]; exact R
  · obtain ⟨h2, e2, K2⟩ := f_wP T a2 4 (by omega) (i := D.1 4) hc v1
    refine ⟨0, h2, ?_, Or.inr ⟨rfl, y, by unfold lRu; rw [bS_l a1], K2⟩⟩
    simp only [fX8_readRule, g39 T K.1, gc, gPt T K.1 4 (by omega), ck_at (r3 T K.1), e1', e2, f12 T K2, if_neg (f12n K2), bd_some, bd2_some]
end CLM
