/-! ===== READING: the model's lines, the last ===== -/
section MLQ
variable {p o : Nat} {h h0 h' : MH} {B : Nat → Int32} {L q : Nat} {X X' : Nat → Nat → Prop} {D : DD} {e : Nat × Nat}
theorem o_85 (T : tBm B L p o h0) (K : KO o h0 e h) (w : Int64) (x : Int32) : bX13_readHand_85 h 77 w x = some h := by
  simp only [bX13_readHand_85, ck_at (m77 T K.1), o_adv T K, o_prt T K (show 25 < 26 by omega), o12 T K, if_true, bd_some, bd2_some]
theorem o_74 (T : tBm B L p o h0) (K : KO o h0 e h) (w : Int64) : bX13_readHand_74 h 77 w (-1) = some h := by
  simp only [bX13_readHand_74, if_true, ck_at (m77 T K.1), o_flaw T K, o_85 T K, bd_some]
theorem ix7 (w : Nat) : ix nT7 w = if w = 674915196180 then some 0 else if w = 370116 then some 1 else if w = 20584014 then some 2 else if w = 3751539 then some 3 else none := by
  show (if 674915196180 = w then some 0 else match (if 370116 = w then some 0 else match (if 20584014 = w then some 0 else match (if 3751539 = w then some 0 else match (none : Option Nat) with
    | none => none
    | some i => some (i + 1)) with
    | none => none
    | some i => some (i + 1)) with
    | none => none
    | some i => some (i + 1)) with
    | none => none
    | some i => some (i + 1)) = _
  by_cases z1 : w = 674915196180
  · rw [if_pos z1, if_pos z1.symm]
  · rw [if_neg z1, if_neg (fun x => z1 x.symm)]
    by_cases z2 : w = 370116
    · rw [if_pos z2, if_pos z2.symm]
    · rw [if_neg z2, if_neg (fun x => z2 x.symm)]
      by_cases z3 : w = 20584014
      · rw [if_pos z3, if_pos z3.symm]
      · rw [if_neg z3, if_neg (fun x => z3 x.symm)]
        by_cases z4 : w = 3751539
        · rw [if_pos z4, if_pos z4.symm]
        · rw [if_neg z4, if_neg (fun x => z4 x.symm)]
/-- a hand's line behind its kind -/
theorem m_85 (T : tBm B L p o h0) (V : WI D) (zf : D.1 5 < 3) {w k : Nat} (K : KM B L o h0 (xD D.1) D q h) (hs : tSo B L q = 1) : LM B L o h0 (bS (pFl B L 14138521 (tTo B L q)) fun q2 => bS (pWh B L 100 q2) fun v =>
  .inr ((upN D.1 5 (D.1 5 + 1), upP (upP D.2.1 7 (D.1 5) (Int32.ofNat k)) 8 (D.1 5) (Int32.ofNat v.1), D.2.2.1, D.2.2.2 ++ [(w, 5, D.1 5)]), v.2)) (bX13_readHand_85 h 77 (Int64.ofNat w) (Int32.ofNat k)) := by
  have VL := V.2.1
  obtain ⟨b0, b1, b2, b3, b4, b5, b7, b8⟩ := V.1
  obtain ⟨h1, e1, K1⟩ := m_adv T K (by rw [hs]; decide)
  obtain ⟨v2, h2, e2, hv⟩ := m_prt (t := 25) (w := 14138521) (mx := 100) T K1 V.wd (by omega) (by omega) rfl (by omega)
  have e2' : fX13_readPart h1 77 25 0 100 = some (v2, h2) := e2
  rcases hv with ⟨q3, i, q4, c1, c2, rfl, K2⟩ | ⟨y, c1, K2⟩ | ⟨q3, y, c1, c2, K2⟩
  · obtain ⟨h3, e3, K3⟩ := m_nms T K2 (by omega) w 5 (D.1 5) rfl
    have e3' : fX13_names h2 77 (Int64.ofNat w) 3 (Int32.ofNat (D.1 5)) = some h3 := e3
    have gc2 := mGC T K2 5 (by omega) (by omega)
    have gc3 : gI h3 o 12 5 = some (Int32.ofNat (D.1 5)) := mGC T K3 5 (by omega) (by omega)
    obtain ⟨h4, e4, K4⟩ := m_wP T K3 7 (by omega) (i := D.1 5) zf (by omega) (Int32.ofNat k)
    have e4' : tI h3 (o + 1 + 10) (Int32.ofNat (D.1 5)) (Int32.ofNat k) = some h4 := e4
    have gc4 : gI h4 o 12 5 = some (Int32.ofNat (D.1 5)) := mGC T K4 5 (by omega) (by omega)
    obtain ⟨h5, e5, K5⟩ := m_wP T K4 8 (by omega) (i := D.1 5) zf (by omega) (Int32.ofNat i)
    have e5' : tI h4 (o + 1 + 11) (Int32.ofNat (D.1 5)) (Int32.ofNat i) = some h5 := e5
    have gc5 : gI h5 o 12 5 = some (Int32.ofNat (D.1 5)) := mGC T K5 5 (by omega) (by omega)
    obtain ⟨h6, e6, K6⟩ := m_wC T K5 5 (by omega) (by omega) (D.1 5 + 1) (by omega)
    have r3 := (mAr T K3.1 10 (k := 15) (n := 3) (w := 19) rfl rfl).1
    have r4 := (mAr T K4.1 11 (k := 15) (n := 3) (w := 20) rfl rfl).1
    refine ⟨h6, ?_, Or.inl ⟨_, by rw [bS_r c1, bS_r c2], K6.wk fun t j ht hx => ?_⟩⟩
    · simp only [bX13_readHand_85, ck_at (m77 T K.1), e1, ck_at (m77 T K1.1), e2', m12 T K2, if_neg (msI_6 _), mR4 T K2.1, gc2, ck_at (m77 T K2.1), e3', mR4 T K3.1, r3, gc3, e4', mR4 T K4.1, r4, gc4, e5', mR4 T K5.1, gc5, k_succ, e6, bd_some, bd2_some]
    · have h5 := cpt5 t ht
      rcases xD_up hx with ⟨z, hx⟩ | ⟨z, hx⟩
      · exact Or.inl (Or.inl hx)
      · by_cases zj : j < D.1 5
        · exact Or.inl (Or.inl (by unfold xD; rw [z]; exact zj))
        · by_cases zt : t = 7
          · exact Or.inl (Or.inr ⟨zt, by omega⟩)
          · exact Or.inr ⟨by omega, by omega⟩
  · refine ⟨h2, ?_, Or.inr ⟨y, by rw [bS_l c1], K2⟩⟩
    simp only [bX13_readHand_85, ck_at (m77 T K.1), e1, ck_at (m77 T K1.1), e2', o12 T K2, if_true, bd_some, bd2_some]
  · refine ⟨h2, ?_, Or.inr ⟨y, by rw [bS_r c1, bS_l c2], K2⟩⟩
    simp only [bX13_readHand_85, ck_at (m77 T K.1), e1, ck_at (m77 T K1.1), e2', o12 T K2, if_true, bd_some, bd2_some]
theorem m_lHa (T : tBm B L p o h0) (V : WI D) (hw : tSo B L q = 1) (K : KM B L o h0 (xD D.1) D q h) : LM B L o h0 (if D.1 8 = 0 then .inl (6, tFr B L q) else if 3 ≤ D.1 5 then .inl (5, tFr B L q) else lHa B L D (tTo B L q)) (fX13_readHand h 77) := by
  obtain ⟨b0, b1, b2, b3, b4, b5, b7, b8⟩ := V.1
  obtain ⟨h1, e1, hv⟩ := m_beg (n := D.1 5) (most := 3) T K V hw b5 (by omega) (fun z => by have := V.2.2.2.1 z 5 (by omega); omega)
  have e1' : fX13_lineBegins h 77 (Int32.ofNat (D.1 5)) 3 = some h1 := e1
  have gc := mGC T K 5 (by omega) (by omega)
  have ov : ∀ y, KO o h0 y h1 → fX13_readHand h 77 = some h1 := fun y K2 => by
    obtain ⟨w, ew⟩ := o_fresh T K2
    simp only [fX13_readHand, mR4 T K.1, gc, ck_at (m77 T K.1), e1', ck_at (m77 T K2.1), ew, o_word T K2 (show 21 < 26 by omega), o_word T K2 (show 22 < 26 by omega), o_word T K2 (show 23 < 26 by omega), o_word T K2 (show 24 < 26 by omega), o_74 T K2, if_true, bd_some, bd2_some]
  rcases hv with ⟨z8, zf, K1⟩ | ⟨z8, K2⟩ | ⟨z8, zf, K2⟩
  · rw [if_neg z8, if_neg (by omega)]
    obtain ⟨w', h2, e2, hv⟩ := m_fresh T K1 V.wd
    rcases hv with ⟨w, q2, a1, rfl, K2⟩ | ⟨y, a1, K2⟩
    · have w21 : fX13_isWord h2 77 21 = some (if tWd B L q2 = 674915196180 then 1 else 0, h2) := m_word T K2 (by omega) (by omega)
      have w22 : fX13_isWord h2 77 22 = some (if tWd B L q2 = 370116 then 1 else 0, h2) := m_word T K2 (by omega) (by omega)
      have w23 : fX13_isWord h2 77 23 = some (if tWd B L q2 = 20584014 then 1 else 0, h2) := m_word T K2 (by omega) (by omega)
      have w24 : fX13_isWord h2 77 24 = some (if tWd B L q2 = 3751539 then 1 else 0, h2) := m_word T K2 (by omega) (by omega)
      have x7 := ix7 (tWd B L q2)
      unfold lHa
      rw [bS_r a1]
      have ok : ∀ k, ix nT7 (tWd B L q2) = some k → tWd B L q2 ≠ 0 → fX13_readHand h 77 = bX13_readHand_85 h2 77 (Int64.ofNat w) (Int32.ofNat k) → LM B L o h0 (bS (pCh B L nT7 q2) fun k => bS (pFl B L 14138521 k.2) fun q2 => bS (pWh B L 100 q2) fun v =>
          .inr ((upN D.1 5 (D.1 5 + 1), upP (upP D.2.1 7 (D.1 5) (Int32.ofNat k.1)) 8 (D.1 5) (Int32.ofNat v.1), D.2.2.1, D.2.2.2 ++ [(w, 5, D.1 5)]), v.2)) (fX13_readHand h 77) := fun k hk hn hF => by
        have ec : pCh B L nT7 q2 = .inr (k, tTo B L q2) := by unfold pCh; rw [hk]
        rw [bS_r ec, hF]
        exact m_85 T V zf K2 (tSo_w hn)
      by_cases z1 : tWd B L q2 = 674915196180
      · rw [if_pos z1] at x7
        refine ok 0 x7 (by omega) ?_
        simp only [fX13_readHand, mR4 T K.1, gc, ck_at (m77 T K.1), e1', ck_at (m77 T K1.1), e2, ck_at (m77 T K2.1), w21, if_pos z1, i10, if_false, bX13_readHand_74, if_neg (show ¬ (0 : Int32) = -1 by decide), bd_some, bd2_some]
        rfl
      · rw [if_neg z1] at x7
        by_cases z2 : tWd B L q2 = 370116
        · rw [if_pos z2] at x7
          refine ok 1 x7 (by omega) ?_
          simp only [fX13_readHand, mR4 T K.1, gc, ck_at (m77 T K.1), e1', ck_at (m77 T K1.1), e2, ck_at (m77 T K2.1), w21, if_neg z1, if_true, w22, if_pos z2, i10, if_false, bX13_readHand_74, if_neg (show ¬ (1 : Int32) = -1 by decide), bd_some, bd2_some]
          rfl
        · rw [if_neg z2] at x7
          by_cases z3 : tWd B L q2 = 20584014
          · rw [if_pos z3] at x7
            refine ok 2 x7 (by omega) ?_
            simp only [fX13_readHand, mR4 T K.1, gc, ck_at (m77 T K.1), e1', ck_at (m77 T K1.1), e2, ck_at (m77 T K2.1), w21, if_neg z1, if_true, w22, if_neg z2, w23, if_pos z3, i10, if_false, bX13_readHand_74, if_neg (show ¬ (2 : Int32) = -1 by decide), bd_some, bd2_some]
            rfl
          · rw [if_neg z3] at x7
            by_cases z4 : tWd B L q2 = 3751539
            · rw [if_pos z4] at x7
              refine ok 3 x7 (by omega) ?_
              simp only [fX13_readHand, mR4 T K.1, gc, ck_at (m77 T K.1), e1', ck_at (m77 T K1.1), e2, ck_at (m77 T K2.1), w21, if_neg z1, if_true, w22, if_neg z2, w23, if_neg z3, w24, if_pos z4, i10, if_false, bX13_readHand_74, if_neg (show ¬ (3 : Int32) = -1 by decide), bd_some, bd2_some]
              rfl
            · rw [if_neg z4] at x7
              obtain ⟨f, e3, K3⟩ := m_flaw T K2 V.wd (n := 1) (by omega)
              have e3' : fX13_flaw h2 77 1 = some f := e3
              have ec : pCh B L nT7 q2 = .inl (1, tFr B L q2) := by unfold pCh; rw [x7]
              rw [bS_l ec]
              refine ⟨f, ?_, Or.inr ⟨_, rfl, K3⟩⟩
              simp only [fX13_readHand, mR4 T K.1, gc, ck_at (m77 T K.1), e1', ck_at (m77 T K1.1), e2, ck_at (m77 T K2.1), w21, if_neg z1, if_true, w22, if_neg z2, w23, if_neg z3, w24, if_neg z4, bX13_readHand_74, e3', o_85 T K3, bd_some, bd2_some]
    · refine ⟨h2, ?_, Or.inr ⟨y, by unfold lHa; rw [bS_l a1], K2⟩⟩
      simp only [fX13_readHand, mR4 T K.1, gc, ck_at (m77 T K.1), e1', ck_at (m77 T K1.1), e2, ck_at (m77 T K2.1), o_word T K2 (show 21 < 26 by omega), o_word T K2 (show 22 < 26 by omega), o_word T K2 (show 23 < 26 by omega), o_word T K2 (show 24 < 26 by omega), o_74 T K2, if_true, bd_some, bd2_some]
  · rw [if_pos z8]; exact ⟨h1, ov _ K2, Or.inr ⟨_, rfl, K2⟩⟩
  · rw [if_neg z8, if_pos (by omega)]; exact ⟨h1, ov _ K2, Or.inr ⟨_, rfl, K2⟩⟩
end MLQ
