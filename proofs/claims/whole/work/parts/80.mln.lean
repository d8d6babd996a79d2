/-! ===== READING: the model's lines ===== -/
section MLN
variable {p o : Nat} {h h0 h' : MH} {B : Nat → Int32} {L q : Nat} {X X' : Nat → Nat → Prop} {D : DD} {e : Nat × Nat}
def LM (B : Nat → Int32) (L o : Nat) (h0 : MH) (R : RS (DD × Nat)) (F : Option MH) : Prop := ∃ h', F = some h' ∧ ((∃ r, R = .inr r ∧ KM B L o h0 (xD r.1.1) r.1 r.2 h') ∨ (∃ e, R = .inl e ∧ KO o h0 e h'))
theorem m_lOf (T : tBm B L p o h0) (V : WI D) (hw : tSo B L q = 1) (K : KM B L o h0 (xD D.1) D q h) : LM B L o h0 (if D.1 8 = 0 then lOf B L D (tTo B L q) else .inl (3, tFr B L q)) (fX13_readOffice h 77) := by
  have a0 := V.1.1
  have g0 : gI h o 12 0 = some (if D.1 8 = 0 then -1 else Int32.ofNat (D.1 0)) := by rw [gI_at (mOk T K.1), K.2.2.2.2.1]
  by_cases z8 : D.1 8 = 0
  · rw [if_pos z8] at g0 ⊢
    obtain ⟨h1, e1, K1⟩ := m_adv T K (by rw [hw]; decide)
    obtain ⟨v2, h2, e2, hv⟩ := m_prt (t := 6) (w := 2410643) (mx := 100) T K1 V.wd (by omega) (by omega) rfl (by omega)
    have e2' : fX13_readPart h1 77 6 0 100 = some (v2, h2) := e2
    rcases hv with ⟨q1, i, q2, b1, b2, rfl, K2⟩ | ⟨y, b1, K2⟩ | ⟨q1, y, b1, b2, K2⟩
    · obtain ⟨h3, e3, K3⟩ := m_w0 T K2 i
      refine ⟨h3, ?_, Or.inl ⟨_, by unfold lOf; rw [bS_r b1, bS_r b2], K3.wk fun t j ht hx => ?_⟩⟩
      · simp only [fX13_readOffice, mR4 T K.1, g0, if_true, bX13_readOffice_16, ck_at (m77 T K.1), e1, ck_at (m77 T K1.1), e2', m12 T K2, if_neg (msI_6 _), mR4 T K2.1, e3, bd_some, bd2_some]
      · have h5 := cpt5 t ht
        rcases xD_up hx with ⟨z, hx⟩ | ⟨z, hx⟩
        · rcases xD_up hx with ⟨z, hx⟩ | ⟨z, hx⟩
          · exact hx
          · omega
        · omega
    · refine ⟨h2, ?_, Or.inr ⟨y, by unfold lOf; rw [bS_l b1], K2⟩⟩
      simp only [fX13_readOffice, mR4 T K.1, g0, if_true, bX13_readOffice_16, ck_at (m77 T K.1), e1, ck_at (m77 T K1.1), e2', o12 T K2, bd_some, bd2_some]
    · refine ⟨h2, ?_, Or.inr ⟨y, by unfold lOf; rw [bS_r b1, bS_l b2], K2⟩⟩
      simp only [fX13_readOffice, mR4 T K.1, g0, if_true, bX13_readOffice_16, ck_at (m77 T K.1), e1, ck_at (m77 T K1.1), e2', o12 T K2, bd_some, bd2_some]
  · rw [if_neg z8] at g0 ⊢
    obtain ⟨f, e2, K2⟩ := m_flaw T K V.wd (n := 3) (by omega)
    have e2' : fX13_flaw h 77 3 = some f := e2
    refine ⟨f, ?_, Or.inr ⟨_, rfl, K2⟩⟩
    simp only [fX13_readOffice, mR4 T K.1, g0, if_neg (k_n1 (show D.1 0 < 2147483648 by omega)), ck_at (m77 T K.1), e2', bX13_readOffice_16, ck_at (m77 T K2.1), o_adv T K2, o_prt T K2 (show 6 < 26 by omega), o12 T K2, if_true, bd_some, bd2_some]
theorem m_lMa (T : tBm B L p o h0) (V : WI D) (hw : tSo B L q = 1) (K : KM B L o h0 (xD D.1) D q h) : LM B L o h0 (if D.1 8 = 0 then .inl (6, tFr B L q) else if 5 ≤ D.1 1 then .inl (5, tFr B L q) else lMa B L D (tTo B L q)) (fX13_readMark h 77) := by
  have VC := V.1
  have VL := V.2.1
  obtain ⟨b0, b1, b2, b3, b4, b5, b7, b8⟩ := V.1
  obtain ⟨h1, e1, hv⟩ := m_beg (n := D.1 1) (most := 5) T K V hw VC.2.1 (by omega) (fun z => by have := V.2.2.2.1 z 1 (by omega); omega)
  have e1' : fX13_lineBegins h 77 (Int32.ofNat (D.1 1)) 5 = some h1 := e1
  have gc := mGC T K 1 (by omega) (by omega)
  have ov : ∀ y, KO o h0 y h1 → fX13_readMark h 77 = some h1 := fun y K2 => by
    obtain ⟨w, ew⟩ := o_fresh T K2
    simp only [fX13_readMark, mR4 T K.1, gc, ck_at (m77 T K.1), e1', ck_at (m77 T K2.1), ew, o12 T K2, if_true, bd_some, bd2_some]
  rcases hv with ⟨z8, zf, K1⟩ | ⟨z8, K2⟩ | ⟨z8, zf, K2⟩
  · rw [if_neg z8, if_neg (by omega)]
    obtain ⟨w', h2, e2, hv⟩ := m_fresh T K1 V.wd
    rcases hv with ⟨w, q2, a1, rfl, K2⟩ | ⟨y, a1, K2⟩
    · obtain ⟨h3, e3, K3⟩ := m_nms T K2 (by omega) w 1 (D.1 1) rfl
      have e3' : fX13_names h2 77 (Int64.ofNat w) 0 (Int32.ofNat (D.1 1)) = some h3 := e3
      have gc2 := mGC T K2 1 (by omega) (by omega)
      have gc3 : gI h3 o 12 1 = some (Int32.ofNat (D.1 1)) := mGC T K3 1 (by omega) (by omega)
      obtain ⟨h4, e4, K4⟩ := m_wC T K3 1 (by omega) (by omega) (D.1 1 + 1) (by omega)
      refine ⟨h4, ?_, Or.inl ⟨_, by unfold lMa; rw [bS_r a1], K4.wk fun t j ht hx => ?_⟩⟩
      · simp only [fX13_readMark, mR4 T K.1, gc, ck_at (m77 T K.1), e1', ck_at (m77 T K1.1), e2, m12 T K2, if_neg (msI_6 _), mR4 T K2.1, gc2, ck_at (m77 T K2.1), e3', mR4 T K3.1, gc3, k_succ, e4, bd_some, bd2_some]
      · have h5 := cpt5 t ht
        rcases xD_up hx with ⟨z, hx⟩ | ⟨z, hx⟩
        · exact hx
        · omega
    · refine ⟨h2, ?_, Or.inr ⟨y, by unfold lMa; rw [bS_l a1], K2⟩⟩
      simp only [fX13_readMark, mR4 T K.1, gc, ck_at (m77 T K.1), e1', ck_at (m77 T K1.1), e2, o12 T K2, if_true, bd_some, bd2_some]
  · rw [if_pos z8]; exact ⟨h1, ov _ K2, Or.inr ⟨_, rfl, K2⟩⟩
  · rw [if_neg z8, if_pos (by omega)]; exact ⟨h1, ov _ K2, Or.inr ⟨_, rfl, K2⟩⟩
theorem m_lPa (T : tBm B L p o h0) (V : WI D) (hw : tSo B L q = 1) (K : KM B L o h0 (xD D.1) D q h) : LM B L o h0 (if D.1 8 = 0 then .inl (6, tFr B L q) else if 5 ≤ D.1 2 then .inl (5, tFr B L q) else lPa B L D (tTo B L q)) (fX13_readPaper h 77) := by
  have VC := V.1
  have VL := V.2.1
  obtain ⟨b0, b1, b2, b3, b4, b5, b7, b8⟩ := VC
  obtain ⟨h1, e1, hv⟩ := m_beg (n := D.1 2) (most := 5) T K V hw b2 (by omega) (fun z => by have := V.2.2.2.1 z 2 (by omega); omega)
  have e1' : fX13_lineBegins h 77 (Int32.ofNat (D.1 2)) 5 = some h1 := e1
  have gc := mGC T K 2 (by omega) (by omega)
  have ov : ∀ y, KO o h0 y h1 → fX13_readPaper h 77 = some h1 := fun y K2 => by
    obtain ⟨w, ew⟩ := o_fresh T K2
    simp only [fX13_readPaper, mR4 T K.1, gc, ck_at (m77 T K.1), e1', ck_at (m77 T K2.1), ew, o_prt T K2 (show 15 < 26 by omega), o_marks T K2, o12 T K2, if_true, bd_some, bd2_some]
  rcases hv with ⟨z8, zf, K1⟩ | ⟨z8, K2⟩ | ⟨z8, zf, K2⟩
  · rw [if_neg z8, if_neg (by omega)]
    obtain ⟨w', h2, e2, hv⟩ := m_fresh T K1 V.wd
    rcases hv with ⟨w, q2, a1, rfl, K2⟩ | ⟨y, a1, K2⟩
    · obtain ⟨v3, h3, e3, hv⟩ := m_prt (t := 15) (w := 24627848) (mx := 99) T K2 V.wd (by omega) (by omega) rfl (by omega)
      have e3' : fX13_readPart h2 77 15 0 99 = some (v3, h3) := e3
      have og : ∀ y, KO o h0 y h3 → fX13_readPaper h 77 = some h3 := fun y K3 => by
        simp only [fX13_readPaper, mR4 T K.1, gc, ck_at (m77 T K.1), e1', ck_at (m77 T K1.1), e2, ck_at (m77 T K2.1), e3', ck_at (m77 T K3.1), o_marks T K3, o12 T K3, if_true, bd_some, bd2_some]
      rcases hv with ⟨q3, i, q4, c1, c2, rfl, K3⟩ | ⟨y, c1, K3⟩ | ⟨q3, y, c1, c2, K3⟩
      · obtain ⟨v4, h4, e4, hv⟩ := m_marks T K3 V.wd V.2.2.1
        rcases hv with ⟨b, q5, d1, rfl, K4⟩ | ⟨y, d1, K4⟩
        · obtain ⟨h5, e5, K5⟩ := m_nms T K4 (by omega) w 2 (D.1 2) rfl
          have e5' : fX13_names h4 77 (Int64.ofNat w) 1 (Int32.ofNat (D.1 2)) = some h5 := e5
          have gc4 := mGC T K4 2 (by omega) (by omega)
          have gc5 : gI h5 o 12 2 = some (Int32.ofNat (D.1 2)) := mGC T K5 2 (by omega) (by omega)
          obtain ⟨h6, e6, K6⟩ := m_wP T K5 0 (by omega) (i := D.1 2) zf (by omega) (Int32.ofNat i)
          have e6' : tI h5 (o + 1 + 0) (Int32.ofNat (D.1 2)) (Int32.ofNat i) = some h6 := e6
          have gc6 : gI h6 o 12 2 = some (Int32.ofNat (D.1 2)) := mGC T K6 2 (by omega) (by omega)
          obtain ⟨h7, e7, K7⟩ := m_wN T K6 (a := 2) (i := D.1 2) (n := D.1 2) (Int32.ofNat b) (Or.inl ⟨rfl, rfl, zf⟩)
          have e7' : tI h6 (o + 1 + 1) (Int32.ofNat (D.1 2)) (Int32.ofNat b) = some h7 := e7
          have gc7 : gI h7 o 12 2 = some (Int32.ofNat (D.1 2)) := mGC T K7 2 (by omega) (by omega)
          have K7' := m_w1 K7 zf
          obtain ⟨h8, e8, K8⟩ := m_wC T K7' 2 (by omega) (by omega) (D.1 2 + 1) (fun _ => Nat.le_succ _)
          have r5 := (mAr T K5.1 0 (k := 15) (n := 5) (w := 9) rfl rfl).1
          have r6 := (mAr T K6.1 1 (k := 15) (n := 5) (w := 10) rfl rfl).1
          refine ⟨h8, ?_, Or.inl ⟨_, by unfold lPa; rw [bS_r a1, bS_r c1, bS_r c2, bS_r d1], K8.wk fun t j ht hx => ?_⟩⟩
          · simp only [fX13_readPaper, mR4 T K.1, gc, ck_at (m77 T K.1), e1', ck_at (m77 T K1.1), e2, ck_at (m77 T K2.1), e3', ck_at (m77 T K3.1), e4, m12 T K4, if_neg (msI_6 _), mR4 T K4.1, gc4, ck_at (m77 T K4.1), e5', mR4 T K5.1, r5, gc5, e6', mR4 T K6.1, r6, gc6, e7', mR4 T K7.1, gc7, k_succ, e8, bd_some, bd2_some]
          · have h5 := cpt5 t ht
            rcases xD_up hx with ⟨z, hx⟩ | ⟨z, hx⟩
            · exact Or.inl (Or.inl hx)
            · by_cases zj : j < D.1 2
              · exact Or.inl (Or.inl (by unfold xD; rw [z]; exact zj))
              · by_cases zt : t = 0
                · exact Or.inl (Or.inr ⟨zt, by omega⟩)
                · exact Or.inr ⟨by omega, show j = D.1 2 by omega⟩
        · refine ⟨h4, ?_, Or.inr ⟨y, by unfold lPa; rw [bS_r a1, bS_r c1, bS_r c2, bS_l d1], K4⟩⟩
          simp only [fX13_readPaper, mR4 T K.1, gc, ck_at (m77 T K.1), e1', ck_at (m77 T K1.1), e2, ck_at (m77 T K2.1), e3', ck_at (m77 T K3.1), e4, o12 T K4, if_true, bd_some, bd2_some]
      · exact ⟨h3, og _ K3, Or.inr ⟨y, by unfold lPa; rw [bS_r a1, bS_l c1], K3⟩⟩
      · exact ⟨h3, og _ K3, Or.inr ⟨y, by unfold lPa; rw [bS_r a1, bS_r c1, bS_l c2], K3⟩⟩
    · refine ⟨h2, ?_, Or.inr ⟨y, by unfold lPa; rw [bS_l a1], K2⟩⟩
      simp only [fX13_readPaper, mR4 T K.1, gc, ck_at (m77 T K.1), e1', ck_at (m77 T K1.1), e2, ck_at (m77 T K2.1), o_prt T K2 (show 15 < 26 by omega), o_marks T K2, o12 T K2, if_true, bd_some, bd2_some]
  · rw [if_pos z8]; exact ⟨h1, ov _ K2, Or.inr ⟨_, rfl, K2⟩⟩
  · rw [if_neg z8, if_pos (by omega)]; exact ⟨h1, ov _ K2, Or.inr ⟨_, rfl, K2⟩⟩
end MLN
