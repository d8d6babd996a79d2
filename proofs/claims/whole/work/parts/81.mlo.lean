/-! ===== READING: the model's lines, the others ===== -/
section MLO
variable {p o : Nat} {h h0 h' : MH} {B : Nat → Int32} {L q : Nat} {X X' : Nat → Nat → Prop} {D : DD} {e : Nat × Nat}
theorem m_lSt (T : tBm B L p o h0) (V : WI D) (hw : tSo B L q = 1) (K : KM B L o h0 (xD D.1) D q h) : LM B L o h0 (if D.1 8 = 0 then .inl (6, tFr B L q) else if 4 ≤ D.1 3 then .inl (5, tFr B L q) else lSt B L D (tTo B L q)) (fX13_readStamp h 77) := by
  have VL := V.2.1
  obtain ⟨b0, b1, b2, b3, b4, b5, b7, b8⟩ := V.1
  obtain ⟨h1, e1, hv⟩ := m_beg (n := D.1 3) (most := 4) T K V hw b3 (by omega) (fun z => by have := V.2.2.2.1 z 3 (by omega); omega)
  have e1' : fX13_lineBegins h 77 (Int32.ofNat (D.1 3)) 4 = some h1 := e1
  have gc := mGC T K 3 (by omega) (by omega)
  have ov : ∀ y, KO o h0 y h1 → fX13_readStamp h 77 = some h1 := fun y K2 => by
    obtain ⟨w, ew⟩ := o_fresh T K2
    simp only [fX13_readStamp, mR4 T K.1, gc, ck_at (m77 T K.1), e1', ck_at (m77 T K2.1), ew, o_prt T K2 (show 16 < 26 by omega), o_needs T K2 (show 17 < 26 by omega), o_verd T K2, o_marks T K2, o12 T K2, if_true, bd_some, bd2_some]
  rcases hv with ⟨z8, zf, K1⟩ | ⟨z8, K2⟩ | ⟨z8, zf, K2⟩
  · rw [if_neg z8, if_neg (by omega)]
    obtain ⟨w', h2, e2, hv⟩ := m_fresh T K1 V.wd
    rcases hv with ⟨w, q2, a1, rfl, K2⟩ | ⟨y, a1, K2⟩
    · obtain ⟨v3, h3, e3, hv⟩ := m_prt (t := 16) (w := 9675) (mx := 9) T K2 V.wd (by omega) (by omega) rfl (by omega)
      have e3' : fX13_readPart h2 77 16 0 9 = some (v3, h3) := e3
      have og : ∀ y, KO o h0 y h3 → fX13_readStamp h 77 = some h3 := fun y K3 => by
        simp only [fX13_readStamp, mR4 T K.1, gc, ck_at (m77 T K.1), e1', ck_at (m77 T K1.1), e2, ck_at (m77 T K2.1), e3', ck_at (m77 T K3.1), o_needs T K3 (show 17 < 26 by omega), o_verd T K3, o_marks T K3, o12 T K3, if_true, bd_some, bd2_some]
      rcases hv with ⟨q3, i, q4, c1, c2, rfl, K3⟩ | ⟨y, c1, K3⟩ | ⟨q3, y, c1, c2, K3⟩
      · obtain ⟨h4, e4, hv⟩ := m_needs (t := 17) (w := 176741) T K3 V.wd (by omega) (by omega) rfl
        rcases hv with ⟨q5, d1, K4⟩ | ⟨y, d1, K4⟩
        · obtain ⟨v5, h5, e5, hv⟩ := m_verd T K4 V.wd
          rcases hv with ⟨vd, q6, f1, rfl, K5⟩ | ⟨y, f1, K5⟩
          · obtain ⟨v6, h6, e6, hv⟩ := m_marks T K5 V.wd V.2.2.1
            rcases hv with ⟨b, q7, m1, rfl, K6⟩ | ⟨y, m1, K6⟩
            · obtain ⟨h7, e7, K7⟩ := m_nms T K6 (by omega) w 3 (D.1 3) rfl
              have e7' : fX13_names h6 77 (Int64.ofNat w) 2 (Int32.ofNat (D.1 3)) = some h7 := e7
              have gc6 := mGC T K6 3 (by omega) (by omega)
              have gc7 : gI h7 o 12 3 = some (Int32.ofNat (D.1 3)) := mGC T K7 3 (by omega) (by omega)
              obtain ⟨h8, e8, K8⟩ := m_wN T K7 (a := 4) (i := D.1 3) (n := 10 + D.1 3) (Int32.ofNat i) (Or.inr (Or.inl ⟨rfl, rfl, zf⟩))
              have e8' : tI h7 (o + 1 + 3) (Int32.ofNat (D.1 3)) (Int32.ofNat i) = some h8 := e8
              have gc8 : gI h8 o 12 3 = some (Int32.ofNat (D.1 3)) := mGC T K8 3 (by omega) (by omega)
              obtain ⟨h9, e9, K9⟩ := m_wP T K8 2 (by omega) (i := D.1 3) zf (by omega) (Int32.ofNat vd)
              have e9' : tI h8 (o + 1 + 4) (Int32.ofNat (D.1 3)) (Int32.ofNat vd) = some h9 := e9
              have gc9 : gI h9 o 12 3 = some (Int32.ofNat (D.1 3)) := mGC T K9 3 (by omega) (by omega)
              obtain ⟨h10, e10, K10⟩ := m_wP T K9 3 (by omega) (i := D.1 3) zf (by omega) (Int32.ofNat b)
              have e10' : tI h9 (o + 1 + 5) (Int32.ofNat (D.1 3)) (Int32.ofNat b) = some h10 := e10
              have gc10 : gI h10 o 12 3 = some (Int32.ofNat (D.1 3)) := mGC T K10 3 (by omega) (by omega)
              obtain ⟨h11, e11, K11⟩ := m_wC T K10 3 (by omega) (by omega) (D.1 3 + 1) (by omega)
              have r7 := (mAr T K7.1 3 (k := 15) (n := 4) (w := 12) rfl rfl).1
              have r8 := (mAr T K8.1 4 (k := 15) (n := 4) (w := 13) rfl rfl).1
              have r9 := (mAr T K9.1 5 (k := 15) (n := 4) (w := 14) rfl rfl).1
              refine ⟨h11, ?_, Or.inl ⟨_, by unfold lSt; rw [bS_r a1, bS_r c1, bS_r c2, bS_r d1, bS_r f1, bS_r m1], K11.wk fun t j ht hx => ?_⟩⟩
              · simp only [fX13_readStamp, mR4 T K.1, gc, ck_at (m77 T K.1), e1', ck_at (m77 T K1.1), e2, ck_at (m77 T K2.1), e3', ck_at (m77 T K3.1), e4, ck_at (m77 T K4.1), e5, ck_at (m77 T K5.1), e6, m12 T K6, if_neg (msI_6 _), mR4 T K6.1, gc6, ck_at (m77 T K6.1), e7', mR4 T K7.1, r7, gc7, e8', mR4 T K8.1, r8, gc8, e9', mR4 T K9.1, r9, gc9, e10', mR4 T K10.1, gc10, k_succ, e11, bd_some, bd2_some]
              · have h5 := cpt5 t ht
                rcases xD_up hx with ⟨z, hx⟩ | ⟨z, hx⟩
                · exact Or.inl (Or.inl hx)
                · by_cases zj : j < D.1 3
                  · exact Or.inl (Or.inl (by unfold xD; rw [z]; exact zj))
                  · by_cases zt : t = 2
                    · exact Or.inl (Or.inr ⟨zt, by omega⟩)
                    · exact Or.inr ⟨by omega, by omega⟩
            · refine ⟨h6, ?_, Or.inr ⟨y, by unfold lSt; rw [bS_r a1, bS_r c1, bS_r c2, bS_r d1, bS_r f1, bS_l m1], K6⟩⟩
              simp only [fX13_readStamp, mR4 T K.1, gc, ck_at (m77 T K.1), e1', ck_at (m77 T K1.1), e2, ck_at (m77 T K2.1), e3', ck_at (m77 T K3.1), e4, ck_at (m77 T K4.1), e5, ck_at (m77 T K5.1), e6, o12 T K6, if_true, bd_some, bd2_some]
          · refine ⟨h5, ?_, Or.inr ⟨y, by unfold lSt; rw [bS_r a1, bS_r c1, bS_r c2, bS_r d1, bS_l f1], K5⟩⟩
            simp only [fX13_readStamp, mR4 T K.1, gc, ck_at (m77 T K.1), e1', ck_at (m77 T K1.1), e2, ck_at (m77 T K2.1), e3', ck_at (m77 T K3.1), e4, ck_at (m77 T K4.1), e5, ck_at (m77 T K5.1), o_marks T K5, o12 T K5, if_true, bd_some, bd2_some]
        · refine ⟨h4, ?_, Or.inr ⟨y, by unfold lSt; rw [bS_r a1, bS_r c1, bS_r c2, bS_l d1], K4⟩⟩
          simp only [fX13_readStamp, mR4 T K.1, gc, ck_at (m77 T K.1), e1', ck_at (m77 T K1.1), e2, ck_at (m77 T K2.1), e3', ck_at (m77 T K3.1), e4, ck_at (m77 T K4.1), o_verd T K4, o_marks T K4, o12 T K4, if_true, bd_some, bd2_some]
      · exact ⟨h3, og _ K3, Or.inr ⟨y, by unfold lSt; rw [bS_r a1, bS_l c1], K3⟩⟩
      · exact ⟨h3, og _ K3, Or.inr ⟨y, by unfold lSt; rw [bS_r a1, bS_r c1, bS_l c2], K3⟩⟩
    · refine ⟨h2, ?_, Or.inr ⟨y, by unfold lSt; rw [bS_l a1], K2⟩⟩
      simp only [fX13_readStamp, mR4 T K.1, gc, ck_at (m77 T K.1), e1', ck_at (m77 T K1.1), e2, ck_at (m77 T K2.1), o_prt T K2 (show 16 < 26 by omega), o_needs T K2 (show 17 < 26 by omega), o_verd T K2, o_marks T K2, o12 T K2, if_true, bd_some, bd2_some]
  · rw [if_pos z8]; exact ⟨h1, ov _ K2, Or.inr ⟨_, rfl, K2⟩⟩
  · rw [if_neg z8, if_pos (by omega)]; exact ⟨h1, ov _ K2, Or.inr ⟨_, rfl, K2⟩⟩
theorem m_lPr (T : tBm B L p o h0) (V : WI D) (hw : tSo B L q = 1) (K : KM B L o h0 (xD D.1) D q h) : LM B L o h0 (if D.1 8 = 0 then .inl (6, tFr B L q) else if 4 ≤ D.1 7 then .inl (5, tFr B L q) else lPr B L D (tTo B L q)) (fX13_readPrint h 77) := by
  obtain ⟨b0, b1, b2, b3, b4, b5, b7, b8⟩ := V.1
  obtain ⟨h1, e1, hv⟩ := m_beg (n := D.1 7) (most := 4) T K V hw b7 (by omega) (fun z => by have := V.2.2.2.1 z 7 (by omega); omega)
  have e1' : fX13_lineBegins h 77 (Int32.ofNat (D.1 7)) 4 = some h1 := e1
  have gc := mGC T K 7 (by omega) (by omega)
  have ov : ∀ y, KO o h0 y h1 → fX13_readPrint h 77 = some h1 := fun y K2 => by
    simp only [fX13_readPrint, mR4 T K.1, gc, ck_at (m77 T K.1), e1', ck_at (m77 T K2.1), o_rKn T K2, o_verd T K2, o12 T K2, if_true, bd_some, bd2_some]
  rcases hv with ⟨z8, zf, K1⟩ | ⟨z8, K2⟩ | ⟨z8, zf, K2⟩
  · rw [if_neg z8, if_neg (by omega)]
    obtain ⟨v2, h2, e2, hv⟩ := m_rKn (s := 2) (x := 1) T K1 V.wd V.2.2.1 (Or.inr (Or.inl rfl)) rfl
    rcases hv with ⟨i, a1, ai, rfl, K2⟩ | ⟨y, a1, K2⟩
    · obtain ⟨v3, h3, e3, hv⟩ := m_rKn (s := 5) (x := 3) T K2 V.wd V.2.2.1 (Or.inr (Or.inr (Or.inr rfl))) rfl
      rcases hv with ⟨j, c1, cj, rfl, K3⟩ | ⟨y, c1, K3⟩
      · obtain ⟨v4, h4, e4, hv⟩ := m_verd T K3 V.wd
        rcases hv with ⟨vd, q6, f1, rfl, K4⟩ | ⟨y, f1, K4⟩
        · have gc4 := mGC T K4 7 (by omega) (by omega)
          obtain ⟨h5, e5, K5⟩ := m_wP T K4 9 (by omega) (i := D.1 7) zf (by omega) (Int32.ofNat i)
          have e5' : tI h4 (o + 1 + 12) (Int32.ofNat (D.1 7)) (Int32.ofNat i) = some h5 := e5
          have gc5 : gI h5 o 12 7 = some (Int32.ofNat (D.1 7)) := mGC T K5 7 (by omega) (by omega)
          obtain ⟨h6, e6, K6⟩ := m_wP T K5 10 (by omega) (i := D.1 7) zf (by omega) (Int32.ofNat j)
          have e6' : tI h5 (o + 1 + 13) (Int32.ofNat (D.1 7)) (Int32.ofNat j) = some h6 := e6
          have gc6 : gI h6 o 12 7 = some (Int32.ofNat (D.1 7)) := mGC T K6 7 (by omega) (by omega)
          obtain ⟨h7, e7, K7⟩ := m_wP T K6 11 (by omega) (i := D.1 7) zf (by omega) (Int32.ofNat vd)
          have e7' : tI h6 (o + 1 + 14) (Int32.ofNat (D.1 7)) (Int32.ofNat vd) = some h7 := e7
          have gc7 : gI h7 o 12 7 = some (Int32.ofNat (D.1 7)) := mGC T K7 7 (by omega) (by omega)
          obtain ⟨h8, e8, K8⟩ := m_wC T K7 7 (by omega) (by omega) (D.1 7 + 1) (by omega)
          have r4 := (mAr T K4.1 12 (k := 15) (n := 4) (w := 21) rfl rfl).1
          have r5 := (mAr T K5.1 13 (k := 15) (n := 4) (w := 22) rfl rfl).1
          have r6 := (mAr T K6.1 14 (k := 15) (n := 4) (w := 23) rfl rfl).1
          refine ⟨h8, ?_, Or.inl ⟨_, by unfold lPr; rw [bS_r a1, bS_r c1, bS_r f1], K8.wk fun t j ht hx => ?_⟩⟩
          · simp only [fX13_readPrint, mR4 T K.1, gc, ck_at (m77 T K.1), e1', ck_at (m77 T K1.1), e2, ck_at (m77 T K2.1), e3, ck_at (m77 T K3.1), e4, m12 T K4, if_neg (msI_6 _), mR4 T K4.1, r4, gc4, e5', mR4 T K5.1, r5, gc5, e6', mR4 T K6.1, r6, gc6, e7', mR4 T K7.1, gc7, k_succ, e8, bd_some, bd2_some]
          · have h5 := cpt5 t ht
            rcases xD_up hx with ⟨z, hx⟩ | ⟨z, hx⟩
            · exact Or.inl (Or.inl (Or.inl hx))
            · by_cases zj : j < D.1 7
              · exact Or.inl (Or.inl (Or.inl (by unfold xD; rw [z]; exact zj)))
              · by_cases zt : t = 9
                · exact Or.inl (Or.inl (Or.inr ⟨zt, by omega⟩))
                · by_cases zt2 : t = 10
                  · exact Or.inl (Or.inr ⟨zt2, by omega⟩)
                  · exact Or.inr ⟨by omega, by omega⟩
        · refine ⟨h4, ?_, Or.inr ⟨y, by unfold lPr; rw [bS_r a1, bS_r c1, bS_l f1], K4⟩⟩
          simp only [fX13_readPrint, mR4 T K.1, gc, ck_at (m77 T K.1), e1', ck_at (m77 T K1.1), e2, ck_at (m77 T K2.1), e3, ck_at (m77 T K3.1), e4, o12 T K4, if_true, bd_some, bd2_some]
      · refine ⟨h3, ?_, Or.inr ⟨y, by unfold lPr; rw [bS_r a1, bS_l c1], K3⟩⟩
        simp only [fX13_readPrint, mR4 T K.1, gc, ck_at (m77 T K.1), e1', ck_at (m77 T K1.1), e2, ck_at (m77 T K2.1), e3, ck_at (m77 T K3.1), o_verd T K3, o12 T K3, if_true, bd_some, bd2_some]
    · refine ⟨h2, ?_, Or.inr ⟨y, by unfold lPr; rw [bS_l a1], K2⟩⟩
      simp only [fX13_readPrint, mR4 T K.1, gc, ck_at (m77 T K.1), e1', ck_at (m77 T K1.1), e2, ck_at (m77 T K2.1), o_rKn T K2, o_verd T K2, o12 T K2, if_true, bd_some, bd2_some]
  · rw [if_pos z8]; exact ⟨h1, ov _ K2, Or.inr ⟨_, rfl, K2⟩⟩
  · rw [if_neg z8, if_pos (by omega)]; exact ⟨h1, ov _ K2, Or.inr ⟨_, rfl, K2⟩⟩
end MLO
