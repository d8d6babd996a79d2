/-! ===== READING: the model's rule and want ===== -/
section MLR
variable {p o : Nat} {h h0 h' : MH} {B : Nat → Int32} {L q : Nat} {X X' : Nat → Nat → Prop} {D : DD} {e : Nat × Nat}
theorem ix48 (w : Nat) : ix nT4 w = some 8 ↔ w = 14836 := by
  constructor
  · intro e
    have := (ix_lt _ _ _ e).2
    have h2 : nT4[8]? = some 14836 := rfl
    rw [h2] at this; cases this; rfl
  · rintro rfl; decide
theorem upP_c (P : PT) {t u : Nat} (i j : Nat) (x y : Int32) (h : t ≠ u) : upP (upP P t i x) u j y = upP (upP P u j y) t i x := by
  funext a b
  unfold upP
  by_cases z1 : a = u ∧ b = j
  · rw [if_pos z1, if_neg (fun z => h (z.1.symm.trans z1.1)), if_pos z1]
  · rw [if_neg z1]
    by_cases z2 : a = t ∧ b = i
    · rw [if_pos z2, if_pos z2]
    · rw [if_neg z2, if_neg z2, if_neg z1]
theorem o_34 (T : tBm B L p o h0) (K : KO o h0 e h) (x y : Int32) : bX13_readRule_34 h 77 x y = some h := by
  simp only [bX13_readRule_34, ck_at (m77 T K.1), o_rKn T K, o_verd T K, o12 T K, if_true, bd_some, bd2_some]
theorem m_34 (T : tBm B L p o h0) (V : WI D) (zf : D.1 4 < 10) {s nt : Nat} (hn : nt ≤ 1) (K : KM B L o h0 (xD D.1) D q h) : LM B L o h0 (bS (pOld B L D.2.2.2 1 q) fun m => bS (pCh B L nT6 (tTo B L q)) fun v =>
  .inr ((upN D.1 4 (D.1 4 + 1), upP (upP (upP D.2.1 4 (D.1 4) (Int32.ofNat s)) 6 (D.1 4) (Int32.ofNat nt)) 5 (D.1 4) (Int32.ofNat m), upN D.2.2.1 (18 + D.1 4) (Int32.ofNat v.1), D.2.2.2), v.2)) (bX13_readRule_34 h 77 (Int32.ofNat s) (Int32.ofNat nt)) := by
  obtain ⟨v1, h1, e1, hv⟩ := m_rKn (s := 1) (x := 0) T K V.wd V.2.2.1 (Or.inl rfl) rfl
  rcases hv with ⟨m, a1, ai, rfl, K1⟩ | ⟨y, a1, K1⟩
  · obtain ⟨v2, h2, e2, hv⟩ := m_verd T K1 V.wd
    rcases hv with ⟨vd, q3, c1, rfl, K2⟩ | ⟨y, c1, K2⟩
    · have gc2 := mGC T K2 4 (by omega) (by omega)
      obtain ⟨h3, e3, K3⟩ := m_wP T K2 4 (by omega) (i := D.1 4) zf (by omega) (Int32.ofNat s)
      have e3' : tI h2 (o + 1 + 6) (Int32.ofNat (D.1 4)) (Int32.ofNat s) = some h3 := e3
      obtain ⟨h4, e4, K4⟩ := m_wP T K3 5 (by omega) (i := D.1 4) zf (by omega) (Int32.ofNat m)
      have e4' : tI h3 (o + 1 + 7) (Int32.ofNat (D.1 4)) (Int32.ofNat m) = some h4 := e4
      obtain ⟨h5, e5, K5⟩ := m_wP T K4 6 (by omega) (i := D.1 4) zf (by omega) (Int32.ofNat nt)
      have e5' : tI h4 (o + 1 + 8) (Int32.ofNat (D.1 4)) (Int32.ofNat nt) = some h5 := e5
      obtain ⟨h6, e6, K6⟩ := m_wN T K5 (a := 10) (i := D.1 4) (n := 18 + D.1 4) (Int32.ofNat vd) (Or.inr (Or.inr ⟨rfl, rfl, zf⟩))
      have e6' : tI h5 (o + 1 + 9) (Int32.ofNat (D.1 4)) (Int32.ofNat vd) = some h6 := e6
      have gc6 : gI h6 o 12 4 = some (Int32.ofNat (D.1 4)) := mGC T K6 4 (by omega) (by omega)
      obtain ⟨h7, e7, K7⟩ := m_wC T K6 4 (by omega) (by omega) (D.1 4 + 1) (by omega)
      have r2 := (mAr T K2.1 6 (k := 15) (n := 10) (w := 15) rfl rfl).1
      have r3 := (mAr T K3.1 7 (k := 15) (n := 10) (w := 16) rfl rfl).1
      have r4 := (mAr T K4.1 8 (k := 15) (n := 10) (w := 17) rfl rfl).1
      have r5 := (mAr T K5.1 9 (k := 15) (n := 10) (w := 18) rfl rfl).1
      have K7' : KM B L o h0 _ (upN D.1 4 (D.1 4 + 1), upP (upP (upP D.2.1 4 (D.1 4) (Int32.ofNat s)) 5 (D.1 4) (Int32.ofNat m)) 6 (D.1 4) (Int32.ofNat nt), upN D.2.2.1 (18 + D.1 4) (Int32.ofNat vd), D.2.2.2) q3 h7 := K7
      rw [upP_c _ _ _ _ _ (show (5 : Nat) ≠ 6 by decide)] at K7'
      refine ⟨h7, ?_, Or.inl ⟨_, by rw [bS_r a1, bS_r c1], K7'.wk fun t j ht hx => ?_⟩⟩
      · have k105 : bX13_readRule_105 h4 77 (Int32.ofNat vd) (Int32.ofNat (D.1 4)) (Int32.ofNat nt) (Int32.ofNat (D.1 4)) (o + 1 + 8) = some h7 := by
          simp only [bX13_readRule_105, e5', mR4 T K5.1, r5, e6', mR4 T K6.1, gc6, k_succ, e7, bd_some]
        have sp : ∀ F : Option MH, (if Int32.ofNat nt = 0 then bX13_readRule_105 h4 77 (Int32.ofNat vd) (Int32.ofNat (D.1 4)) 0 (Int32.ofNat (D.1 4)) (o + 1 + 8) else bX13_readRule_105 h4 77 (Int32.ofNat vd) (Int32.ofNat (D.1 4)) 1 (Int32.ofNat (D.1 4)) (o + 1 + 8)) = bX13_readRule_105 h4 77 (Int32.ofNat vd) (Int32.ofNat (D.1 4)) (Int32.ofNat nt) (Int32.ofNat (D.1 4)) (o + 1 + 8) := fun _ => by
          rcases (show nt = 0 ∨ nt = 1 by omega) with rfl | rfl
          · rfl
          · rfl
        simp only [bX13_readRule_34, ck_at (m77 T K.1), e1, ck_at (m77 T K1.1), e2, m12 T K2, if_neg (msI_6 _), mR4 T K2.1, gc2, r2, e3', mR4 T K3.1, r3, e4', mR4 T K4.1, r4, bd_some, bd2_some]
        rw [sp none]; exact k105
      · have h5 := cpt5 t ht
        rcases xD_up hx with ⟨z, hx⟩ | ⟨z, hx⟩
        · exact Or.inl (Or.inl (Or.inl hx))
        · by_cases zj : j < D.1 4
          · exact Or.inl (Or.inl (Or.inl (by unfold xD; rw [z]; exact zj)))
          · by_cases zt : t = 4
            · exact Or.inl (Or.inl (Or.inr ⟨zt, by omega⟩))
            · by_cases zt2 : t = 5
              · exact Or.inl (Or.inr ⟨zt2, by omega⟩)
              · exact Or.inr ⟨by omega, by omega⟩
    · refine ⟨h2, ?_, Or.inr ⟨y, by rw [bS_r a1, bS_l c1], K2⟩⟩
      simp only [bX13_readRule_34, ck_at (m77 T K.1), e1, ck_at (m77 T K1.1), e2, o12 T K2, if_true, bd_some, bd2_some]
  · refine ⟨h1, ?_, Or.inr ⟨y, by rw [bS_l a1], K1⟩⟩
    simp only [bX13_readRule_34, ck_at (m77 T K.1), e1, ck_at (m77 T K1.1), o_verd T K1, o12 T K1, if_true, bd_some, bd2_some]
theorem m_lRu (T : tBm B L p o h0) (V : WI D) (hw : tSo B L q = 1) (K : KM B L o h0 (xD D.1) D q h) : LM B L o h0 (if D.1 8 = 0 then .inl (6, tFr B L q) else if 10 ≤ D.1 4 then .inl (5, tFr B L q) else lRu B L D (tTo B L q)) (fX13_readRule h 77) := by
  obtain ⟨b0, b1, b2, b3, b4, b5, b7, b8⟩ := V.1
  obtain ⟨h1, e1, hv⟩ := m_beg (n := D.1 4) (most := 10) T K V hw b4 (by omega) (fun z => by have := V.2.2.2.1 z 4 (by omega); omega)
  have e1' : fX13_lineBegins h 77 (Int32.ofNat (D.1 4)) 10 = some h1 := e1
  have gc := mGC T K 4 (by omega) (by omega)
  have ov : ∀ y, KO o h0 y h1 → fX13_readRule h 77 = some h1 := fun y K2 => by
    simp only [fX13_readRule, mR4 T K.1, gc, ck_at (m77 T K.1), e1', ck_at (m77 T K2.1), o_rKn T K2, o_word T K2 (show 14 < 26 by omega), if_true, o_34 T K2, bd_some, bd2_some]
  rcases hv with ⟨z8, zf, K1⟩ | ⟨z8, K2⟩ | ⟨z8, zf, K2⟩
  · rw [if_neg z8, if_neg (by omega)]
    obtain ⟨v2, h2, e2, hv⟩ := m_rKn (s := 3) (x := 2) T K1 V.wd V.2.2.1 (Or.inr (Or.inr (Or.inl rfl))) rfl
    rcases hv with ⟨s, a1, ai, rfl, K2⟩ | ⟨y, a1, K2⟩
    · have w14 : fX13_isWord h2 77 14 = some (if tWd B L (tTo B L (tTo B L q)) = 14836 then 1 else 0, h2) := m_word T K2 (by omega) (by omega)
      unfold lRu
      rw [bS_r a1]
      by_cases z : tWd B L (tTo B L (tTo B L q)) = 14836
      · have en : nOt B L (tTo B L (tTo B L q)) = (1, tTo B L (tTo B L (tTo B L q))) := by unfold nOt; rw [if_pos ((ix48 _).mpr z)]
        rw [en]
        obtain ⟨h3, e3, K3⟩ := m_adv T K2 (by rw [tSo_w (by omega)]; decide)
        have st : fX13_readRule h 77 = bX13_readRule_34 h3 77 (Int32.ofNat s) (Int32.ofNat 1) := by
          simp only [fX13_readRule, mR4 T K.1, gc, ck_at (m77 T K.1), e1', ck_at (m77 T K1.1), e2, ck_at (m77 T K2.1), w14, if_pos z, i10, if_false, e3, bd_some, bd2_some]
          rfl
        rw [st]
        exact m_34 T V zf (Nat.le_refl 1) K3
      · have en : nOt B L (tTo B L (tTo B L q)) = (0, tTo B L (tTo B L q)) := by unfold nOt; rw [if_neg (fun x => z ((ix48 _).mp x))]
        rw [en]
        have st : fX13_readRule h 77 = bX13_readRule_34 h2 77 (Int32.ofNat s) (Int32.ofNat 0) := by
          simp only [fX13_readRule, mR4 T K.1, gc, ck_at (m77 T K.1), e1', ck_at (m77 T K1.1), e2, ck_at (m77 T K2.1), w14, if_neg z, if_true, bd_some, bd2_some]
          rfl
        rw [st]
        exact m_34 T V zf (Nat.zero_le 1) K2
    · refine ⟨h2, ?_, Or.inr ⟨y, by unfold lRu; rw [bS_l a1], K2⟩⟩
      simp only [fX13_readRule, mR4 T K.1, gc, ck_at (m77 T K.1), e1', ck_at (m77 T K1.1), e2, ck_at (m77 T K2.1), o_word T K2 (show 14 < 26 by omega), if_true, o_34 T K2, bd_some, bd2_some]
  · rw [if_pos z8]; exact ⟨h1, ov _ K2, Or.inr ⟨_, rfl, K2⟩⟩
  · rw [if_neg z8, if_pos (by omega)]; exact ⟨h1, ov _ K2, Or.inr ⟨_, rfl, K2⟩⟩
theorem o_40 (T : tBm B L p o h0) (K : KO o h0 e h) (x : Int32) : bX13_readWant_40 h 77 x = some h := by
  simp only [bX13_readWant_40, ck_at (m77 T K.1), o_adv T K, o_verd T K, o12 T K, if_true, bd_some, bd2_some]
theorem m_lWa (T : tBm B L p o h0) (V : WI D) (hw : tSo B L q = 1) (K : KM B L o h0 (xD D.1) D q h) : LM B L o h0 (if D.1 8 = 0 then .inl (6, tFr B L q) else lWa B L D (tTo B L q)) (fX13_readWant h 77) := by
  obtain ⟨b0, b1, b2, b3, b4, b5, b7, b8⟩ := V.1
  obtain ⟨h1, e1, hv⟩ := m_beg (n := 0) (most := 1) T K V hw (by omega) (by omega) (fun z => by omega)
  have e1' : fX13_lineBegins h 77 0 1 = some h1 := e1
  rcases hv with ⟨z8, zf, K1⟩ | ⟨z8, K2⟩ | ⟨z8, zf, K2⟩
  · rw [if_neg z8]
    obtain ⟨v2, h2, e2, hv⟩ := m_known (s := 2) (x := 1) T K1 V.wd V.2.2.1 (Or.inr (Or.inl rfl)) rfl
    rcases hv with ⟨i, a1, ai, rfl, rfl, as⟩ | ⟨y, a1, a2, K2⟩
    · have hi := i_OldW V a1
      obtain ⟨r1, s3⟩ := mAr T K1.1 2 (k := 15) (n := 5) (w := 11) rfl rfl
      have li : lI h2 (o + 1 + 2) (Int32.ofNat i) = some (D.2.1 1 i) := by
        rw [lI_at s3 ai (by decide)]
        exact congrArg some (K1.2.2.2.2.2.2.2.1 1 i (by omega) (show i < D.1 2 by omega))
      unfold lWa
      rw [bS_r a1]
      by_cases z : D.2.1 1 i = -2
      · rw [if_pos z]
        obtain ⟨h3, e3, K3⟩ := m_adv T K1 (by rw [as]; decide)
        obtain ⟨v4, h4, e4, hv⟩ := m_verd T K3 V.wd
        rcases hv with ⟨vd, q3, c1, rfl, K4⟩ | ⟨y, c1, K4⟩
        · obtain ⟨h5, e5, K5⟩ := m_wP T K4 1 (by omega) (i := i) ai (fun _ => by omega) (Int32.ofNat vd)
          have e5' : tI h4 (o + 1 + 2) (Int32.ofNat i) (Int32.ofNat vd) = some h5 := e5
          have gc5 : gI h5 o 12 6 = some (Int32.ofNat (D.1 6)) := mGC T K5 6 (by omega) (by omega)
          obtain ⟨h6, e6, K6⟩ := m_wC T K5 6 (by omega) (by omega) (D.1 6 + 1) (by omega)
          have r4 := (mAr T K4.1 2 (k := 15) (n := 5) (w := 11) rfl rfl).1
          refine ⟨h6, ?_, Or.inl ⟨_, by rw [bS_r c1], K6.wk fun t j ht hx => ?_⟩⟩
          · simp only [fX13_readWant, ck_at (m77 T K.1), e1', ck_at (m77 T K1.1), e2, m12 T K1, if_neg (msI_6 _), mR4 T K1.1, r1, li, if_pos z, bX13_readWant_40, e3, ck_at (m77 T K3.1), e4, m12 T K4, mR4 T K4.1, r4, e5', mR4 T K5.1, gc5, k_succ, e6, bd_some, bd2_some]
          · have h5 := cpt5 t ht
            rcases xD_up hx with ⟨z, hx⟩ | ⟨z, hx⟩
            · exact Or.inl hx
            · omega
        · refine ⟨h4, ?_, Or.inr ⟨y, by rw [bS_l c1], K4⟩⟩
          simp only [fX13_readWant, ck_at (m77 T K.1), e1', ck_at (m77 T K1.1), e2, m12 T K1, if_neg (msI_6 _), mR4 T K1.1, r1, li, if_pos z, bX13_readWant_40, e3, ck_at (m77 T K3.1), e4, o12 T K4, if_true, bd_some, bd2_some]
      · rw [if_neg z]
        obtain ⟨f, e3, K3⟩ := m_flaw T K1 V.wd (n := 3) (by omega)
        have e3' : fX13_flaw h2 77 3 = some f := e3
        refine ⟨f, ?_, Or.inr ⟨_, rfl, K3⟩⟩
        simp only [fX13_readWant, ck_at (m77 T K.1), e1', ck_at (m77 T K1.1), e2, m12 T K1, if_neg (msI_6 _), mR4 T K1.1, r1, li, if_neg z, e3', o_40 T K3, bd_some, bd2_some]
    · refine ⟨h2, ?_, Or.inr ⟨y, by unfold lWa; rw [bS_l a1], K2⟩⟩
      simp only [fX13_readWant, ck_at (m77 T K.1), e1', ck_at (m77 T K1.1), e2, o12 T K2, if_true, o_40 T K2, bd_some, bd2_some]
  · rw [if_pos z8]
    refine ⟨h1, ?_, Or.inr ⟨_, rfl, K2⟩⟩
    simp only [fX13_readWant, ck_at (m77 T K.1), e1', ck_at (m77 T K2.1), o_known T K2, o12 T K2, if_true, o_40 T K2, bd_some, bd2_some]
  · omega
end MLR
