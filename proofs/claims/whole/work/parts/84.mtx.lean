/-! ===== READING: the model's line and text ===== -/
section MTX
variable {p o : Nat} {h h0 h' : MH} {B : Nat → Int32} {L q : Nat} {X X' : Nat → Nat → Prop} {D : DD} {e : Nat × Nat}
theorem LM.b {R : RS (DD × Nat)} {F : Option MH} (H : LM B L o h0 R F) : LM B L o h0 R (bd F fun h => some h) := by
  obtain ⟨h', e, hv⟩ := H
  rw [e]
  exact ⟨h', rfl, hv⟩
theorem m_lnN (T : tBm B L p o h0) (V : WI D) (K : KM B L o h0 (xD D.1) D q h) (hz : pLn B L D q = .inl (1, tFr B L q)) (hn : ¬ tWd B L q = 509813861 ∧ ¬ tWd B L q = 427595 ∧ ¬ tWd B L q = 16826546 ∧ ¬ tWd B L q = 20579760 ∧ ¬ tWd B L q = 611717 ∧ ¬ tWd B L q = 263620 ∧ ¬ tWd B L q = 755156 ∧ ¬ tWd B L q = 17376724) : LM B L o h0 (pLn B L D q) (fX13_readLine h 77) := by
  obtain ⟨n1, n2, n3, n4, n5, n6, n7, n8⟩ := hn
  have w5 : fX13_isWord h 77 5 = some (if tWd B L q = 509813861 then 1 else 0, h) := m_word T K (by omega) (by omega)
  rw [if_neg n1] at w5
  have w7 : fX13_isWord h 77 7 = some (if tWd B L q = 427595 then 1 else 0, h) := m_word T K (by omega) (by omega)
  rw [if_neg n2] at w7
  have w8 : fX13_isWord h 77 8 = some (if tWd B L q = 16826546 then 1 else 0, h) := m_word T K (by omega) (by omega)
  rw [if_neg n3] at w8
  have w9 : fX13_isWord h 77 9 = some (if tWd B L q = 20579760 then 1 else 0, h) := m_word T K (by omega) (by omega)
  rw [if_neg n4] at w9
  have w10 : fX13_isWord h 77 10 = some (if tWd B L q = 611717 then 1 else 0, h) := m_word T K (by omega) (by omega)
  rw [if_neg n5] at w10
  have w11 : fX13_isWord h 77 11 = some (if tWd B L q = 263620 then 1 else 0, h) := m_word T K (by omega) (by omega)
  rw [if_neg n6] at w11
  have w12 : fX13_isWord h 77 12 = some (if tWd B L q = 755156 then 1 else 0, h) := m_word T K (by omega) (by omega)
  rw [if_neg n7] at w12
  have w13 : fX13_isWord h 77 13 = some (if tWd B L q = 17376724 then 1 else 0, h) := m_word T K (by omega) (by omega)
  rw [if_neg n8] at w13
  obtain ⟨f, e1, K1⟩ := m_flaw T K V.wd (n := 1) (by omega)
  have e1' : fX13_flaw h 77 1 = some f := e1
  refine ⟨f, ?_, Or.inr ⟨_, hz, K1⟩⟩
  simp only [fX13_readLine, ck_at (m77 T K.1), w5, w7, w8, w9, w10, w11, w12, w13, if_true, e1', bd_some, bd2_some]
theorem m_ln (T : tBm B L p o h0) (V : WI D) (K : KM B L o h0 (xD D.1) D q h) : LM B L o h0 (pLn B L D q) (fX13_readLine h 77) := by
  cases z : ix nT4 (tWd B L q) with
  | none =>
    obtain ⟨n1, n2, n3, n4, n5, n6, n7, n8, n9⟩ := ixn z
    exact m_lnN T V K (by unfold pLn; rw [z]) ⟨n1, n2, n3, n4, n5, n6, n7, n8⟩
  | some k =>
    have hk : k < 9 := (ix_lt _ _ _ z).1
    have hw := (ix_lt _ _ _ z).2
    rcases (show k = 8 ∨ k = 0 ∨ k = 1 ∨ k = 2 ∨ k = 3 ∨ k = 4 ∨ k = 5 ∨ k = 6 ∨ k = 7 by omega) with rfl | rfl | rfl | rfl | rfl | rfl | rfl | rfl | rfl
    · have h14 : 14836 = tWd B L q := Option.some.inj hw
      exact m_lnN T V K (by unfold pLn; rw [z]; rfl) (by rw [← h14]; decide)
    · have hv : 509813861 = tWd B L q := Option.some.inj hw
      have hs : tSo B L q = 1 := tSo_w (by omega)
      have w5 : fX13_isWord h 77 5 = some (1, h) := by
        have := m_word T K (t := 5) (by omega) (by omega)
        rw [← hv] at this; exact this
      have ep : pLn B L D q = (if D.1 8 = 0 then lOf B L D (tTo B L q) else .inl (3, tFr B L q)) := by unfold pLn; rw [z]; rfl
      rw [ep]
      have st : fX13_readLine h 77 = bd (fX13_readOffice h 77) fun h => some h := by
        simp only [fX13_readLine, ck_at (m77 T K.1), w5, if_true, i10, if_false, bd_some, bd2_some]
      rw [st]
      exact (m_lOf T V hs K).b
    · have hv : 427595 = tWd B L q := Option.some.inj hw
      have hs : tSo B L q = 1 := tSo_w (by omega)
      have w5 : fX13_isWord h 77 5 = some (0, h) := by
        have := m_word T K (t := 5) (by omega) (by omega)
        rw [← hv] at this; exact this
      have w7 : fX13_isWord h 77 7 = some (1, h) := by
        have := m_word T K (t := 7) (by omega) (by omega)
        rw [← hv] at this; exact this
      have fu : (fuN D.1 1 = true) ↔ 5 ≤ D.1 1 := ⟨fun x => by have := of_decide_eq_true x; omega, fun x => decide_eq_true (by omega)⟩
      have ep : pLn B L D q = (if D.1 8 = 0 then .inl (6, tFr B L q) else if fuN D.1 1 = true then .inl (5, tFr B L q) else lMa B L D (tTo B L q)) := by unfold pLn; rw [z]; rfl
      rw [ep]
      simp only [fu]
      have st : fX13_readLine h 77 = bd (fX13_readMark h 77) fun h => some h := by
        simp only [fX13_readLine, ck_at (m77 T K.1), w5, w7, if_true, i10, if_false, bd_some, bd2_some]
      rw [st]
      exact (m_lMa T V hs K).b
    · have hv : 16826546 = tWd B L q := Option.some.inj hw
      have hs : tSo B L q = 1 := tSo_w (by omega)
      have w5 : fX13_isWord h 77 5 = some (0, h) := by
        have := m_word T K (t := 5) (by omega) (by omega)
        rw [← hv] at this; exact this
      have w7 : fX13_isWord h 77 7 = some (0, h) := by
        have := m_word T K (t := 7) (by omega) (by omega)
        rw [← hv] at this; exact this
      have w8 : fX13_isWord h 77 8 = some (1, h) := by
        have := m_word T K (t := 8) (by omega) (by omega)
        rw [← hv] at this; exact this
      have fu : (fuN D.1 2 = true) ↔ 5 ≤ D.1 2 := ⟨fun x => by have := of_decide_eq_true x; omega, fun x => decide_eq_true (by omega)⟩
      have ep : pLn B L D q = (if D.1 8 = 0 then .inl (6, tFr B L q) else if fuN D.1 2 = true then .inl (5, tFr B L q) else lPa B L D (tTo B L q)) := by unfold pLn; rw [z]; rfl
      rw [ep]
      simp only [fu]
      have st : fX13_readLine h 77 = bd (fX13_readPaper h 77) fun h => some h := by
        simp only [fX13_readLine, ck_at (m77 T K.1), w5, w7, w8, if_true, i10, if_false, bd_some, bd2_some]
      rw [st]
      exact (m_lPa T V hs K).b
    · have hv : 20579760 = tWd B L q := Option.some.inj hw
      have hs : tSo B L q = 1 := tSo_w (by omega)
      have w5 : fX13_isWord h 77 5 = some (0, h) := by
        have := m_word T K (t := 5) (by omega) (by omega)
        rw [← hv] at this; exact this
      have w7 : fX13_isWord h 77 7 = some (0, h) := by
        have := m_word T K (t := 7) (by omega) (by omega)
        rw [← hv] at this; exact this
      have w8 : fX13_isWord h 77 8 = some (0, h) := by
        have := m_word T K (t := 8) (by omega) (by omega)
        rw [← hv] at this; exact this
      have w9 : fX13_isWord h 77 9 = some (1, h) := by
        have := m_word T K (t := 9) (by omega) (by omega)
        rw [← hv] at this; exact this
      have fu : (fuN D.1 3 = true) ↔ 4 ≤ D.1 3 := ⟨fun x => by have := of_decide_eq_true x; omega, fun x => decide_eq_true (by omega)⟩
      have ep : pLn B L D q = (if D.1 8 = 0 then .inl (6, tFr B L q) else if fuN D.1 3 = true then .inl (5, tFr B L q) else lSt B L D (tTo B L q)) := by unfold pLn; rw [z]; rfl
      rw [ep]
      simp only [fu]
      have st : fX13_readLine h 77 = bd (fX13_readStamp h 77) fun h => some h := by
        simp only [fX13_readLine, ck_at (m77 T K.1), w5, w7, w8, w9, if_true, i10, if_false, bd_some, bd2_some]
      rw [st]
      exact (m_lSt T V hs K).b
    · have hv : 611717 = tWd B L q := Option.some.inj hw
      have hs : tSo B L q = 1 := tSo_w (by omega)
      have w5 : fX13_isWord h 77 5 = some (0, h) := by
        have := m_word T K (t := 5) (by omega) (by omega)
        rw [← hv] at this; exact this
      have w7 : fX13_isWord h 77 7 = some (0, h) := by
        have := m_word T K (t := 7) (by omega) (by omega)
        rw [← hv] at this; exact this
      have w8 : fX13_isWord h 77 8 = some (0, h) := by
        have := m_word T K (t := 8) (by omega) (by omega)
        rw [← hv] at this; exact this
      have w9 : fX13_isWord h 77 9 = some (0, h) := by
        have := m_word T K (t := 9) (by omega) (by omega)
        rw [← hv] at this; exact this
      have w10 : fX13_isWord h 77 10 = some (1, h) := by
        have := m_word T K (t := 10) (by omega) (by omega)
        rw [← hv] at this; exact this
      have fu : (fuN D.1 4 = true) ↔ 10 ≤ D.1 4 := ⟨fun x => by have := of_decide_eq_true x; omega, fun x => decide_eq_true (by omega)⟩
      have ep : pLn B L D q = (if D.1 8 = 0 then .inl (6, tFr B L q) else if fuN D.1 4 = true then .inl (5, tFr B L q) else lRu B L D (tTo B L q)) := by unfold pLn; rw [z]; rfl
      rw [ep]
      simp only [fu]
      have st : fX13_readLine h 77 = bd (fX13_readRule h 77) fun h => some h := by
        simp only [fX13_readLine, ck_at (m77 T K.1), w5, w7, w8, w9, w10, if_true, i10, if_false, bd_some, bd2_some]
      rw [st]
      exact (m_lRu T V hs K).b
    · have hv : 263620 = tWd B L q := Option.some.inj hw
      have hs : tSo B L q = 1 := tSo_w (by omega)
      have w5 : fX13_isWord h 77 5 = some (0, h) := by
        have := m_word T K (t := 5) (by omega) (by omega)
        rw [← hv] at this; exact this
      have w7 : fX13_isWord h 77 7 = some (0, h) := by
        have := m_word T K (t := 7) (by omega) (by omega)
        rw [← hv] at this; exact this
      have w8 : fX13_isWord h 77 8 = some (0, h) := by
        have := m_word T K (t := 8) (by omega) (by omega)
        rw [← hv] at this; exact this
      have w9 : fX13_isWord h 77 9 = some (0, h) := by
        have := m_word T K (t := 9) (by omega) (by omega)
        rw [← hv] at this; exact this
      have w10 : fX13_isWord h 77 10 = some (0, h) := by
        have := m_word T K (t := 10) (by omega) (by omega)
        rw [← hv] at this; exact this
      have w11 : fX13_isWord h 77 11 = some (1, h) := by
        have := m_word T K (t := 11) (by omega) (by omega)
        rw [← hv] at this; exact this
      have fu : (fuN D.1 5 = true) ↔ 3 ≤ D.1 5 := ⟨fun x => by have := of_decide_eq_true x; omega, fun x => decide_eq_true (by omega)⟩
      have ep : pLn B L D q = (if D.1 8 = 0 then .inl (6, tFr B L q) else if fuN D.1 5 = true then .inl (5, tFr B L q) else lHa B L D (tTo B L q)) := by unfold pLn; rw [z]; rfl
      rw [ep]
      simp only [fu]
      have st : fX13_readLine h 77 = bd (fX13_readHand h 77) fun h => some h := by
        simp only [fX13_readLine, ck_at (m77 T K.1), w5, w7, w8, w9, w10, w11, if_true, i10, if_false, bd_some, bd2_some]
      rw [st]
      exact (m_lHa T V hs K).b
    · have hv : 755156 = tWd B L q := Option.some.inj hw
      have hs : tSo B L q = 1 := tSo_w (by omega)
      have w5 : fX13_isWord h 77 5 = some (0, h) := by
        have := m_word T K (t := 5) (by omega) (by omega)
        rw [← hv] at this; exact this
      have w7 : fX13_isWord h 77 7 = some (0, h) := by
        have := m_word T K (t := 7) (by omega) (by omega)
        rw [← hv] at this; exact this
      have w8 : fX13_isWord h 77 8 = some (0, h) := by
        have := m_word T K (t := 8) (by omega) (by omega)
        rw [← hv] at this; exact this
      have w9 : fX13_isWord h 77 9 = some (0, h) := by
        have := m_word T K (t := 9) (by omega) (by omega)
        rw [← hv] at this; exact this
      have w10 : fX13_isWord h 77 10 = some (0, h) := by
        have := m_word T K (t := 10) (by omega) (by omega)
        rw [← hv] at this; exact this
      have w11 : fX13_isWord h 77 11 = some (0, h) := by
        have := m_word T K (t := 11) (by omega) (by omega)
        rw [← hv] at this; exact this
      have w12 : fX13_isWord h 77 12 = some (1, h) := by
        have := m_word T K (t := 12) (by omega) (by omega)
        rw [← hv] at this; exact this
      have fu : ¬ fuN D.1 6 = true := fun x => by have := of_decide_eq_true x; omega
      have ep : pLn B L D q = (if D.1 8 = 0 then .inl (6, tFr B L q) else if fuN D.1 6 = true then .inl (5, tFr B L q) else lWa B L D (tTo B L q)) := by unfold pLn; rw [z]; rfl
      rw [ep, if_neg fu]
      have st : fX13_readLine h 77 = bd (fX13_readWant h 77) fun h => some h := by
        simp only [fX13_readLine, ck_at (m77 T K.1), w5, w7, w8, w9, w10, w11, w12, if_true, i10, if_false, bd_some, bd2_some]
      rw [st]
      exact (m_lWa T V hs K).b
    · have hv : 17376724 = tWd B L q := Option.some.inj hw
      have hs : tSo B L q = 1 := tSo_w (by omega)
      have w5 : fX13_isWord h 77 5 = some (0, h) := by
        have := m_word T K (t := 5) (by omega) (by omega)
        rw [← hv] at this; exact this
      have w7 : fX13_isWord h 77 7 = some (0, h) := by
        have := m_word T K (t := 7) (by omega) (by omega)
        rw [← hv] at this; exact this
      have w8 : fX13_isWord h 77 8 = some (0, h) := by
        have := m_word T K (t := 8) (by omega) (by omega)
        rw [← hv] at this; exact this
      have w9 : fX13_isWord h 77 9 = some (0, h) := by
        have := m_word T K (t := 9) (by omega) (by omega)
        rw [← hv] at this; exact this
      have w10 : fX13_isWord h 77 10 = some (0, h) := by
        have := m_word T K (t := 10) (by omega) (by omega)
        rw [← hv] at this; exact this
      have w11 : fX13_isWord h 77 11 = some (0, h) := by
        have := m_word T K (t := 11) (by omega) (by omega)
        rw [← hv] at this; exact this
      have w12 : fX13_isWord h 77 12 = some (0, h) := by
        have := m_word T K (t := 12) (by omega) (by omega)
        rw [← hv] at this; exact this
      have w13 : fX13_isWord h 77 13 = some (1, h) := by
        have := m_word T K (t := 13) (by omega) (by omega)
        rw [← hv] at this; exact this
      have fu : (fuN D.1 7 = true) ↔ 4 ≤ D.1 7 := ⟨fun x => by have := of_decide_eq_true x; omega, fun x => decide_eq_true (by omega)⟩
      have ep : pLn B L D q = (if D.1 8 = 0 then .inl (6, tFr B L q) else if fuN D.1 7 = true then .inl (5, tFr B L q) else lPr B L D (tTo B L q)) := by unfold pLn; rw [z]; rfl
      rw [ep]
      simp only [fu]
      have st : fX13_readLine h 77 = bd (fX13_readPrint h 77) fun h => some h := by
        simp only [fX13_readLine, ck_at (m77 T K.1), w5, w7, w8, w9, w10, w11, w12, w13, if_true, i10, if_false, bd_some, bd2_some]
      rw [st]
      exact (m_lPr T V hs K).b
theorem o_end (T : tBm B L p o h0) (K : KO o h0 e h) (n : Nat) : fX13_readAll_2 (n + 1) h 77 0 = some h := by
  have k32 : bX13_readAll_32 h 77 = some h := by
    simp only [bX13_readAll_32, mR4 T K.1, gI_at (mOk T K.1), ck_at (m77 T K.1), o_flaw T K, bd_some]
    split <;> rfl
  show bX13_readAll_2 _ h 77 0 = _
  simp only [bX13_readAll_2, if_true, o12 T K, if_neg (show ¬ (6 : Int32) = 1 by decide), ck_at (m77 T K.1), o_flaw T K, k32, bd_some]
theorem o_eats (T : tBm B L p o h0) (K : KO o h0 e h) : fX13_eats h 77 4 = some (0, h) := by
  simp only [fX13_eats, o12 T K, if_neg (show ¬ (6 : Int32) = 4 by decide), bX13_eats_13, if_true, rB0, bd_some]
theorem m_tx (T : tBm B L p o h0) : ∀ (m q n : Nat) (D : DD) (h : MH), L < q + m → WI D → KM B L o h0 (xD D.1) D q h → ∃ h', fX13_readAll_2 (n + m + 1 + 1) h 77 1 = some h' ∧ ((∃ D' q', pTx B L m D q = .inr D' ∧ KM B L o h0 (xD D'.1) D' q' h') ∨ (∃ e, pTx B L m D q = .inl e ∧ KO o h0 e h'))
  | 0, q, n, D, h, hm, V, K => by have := K.2.1.1; omega
  | m + 1, q, n, D, h, hm, V, K => by
    have hq := K.2.1.1
    obtain ⟨h1, e1, hv⟩ := m_ln T V K
    rcases hv with ⟨r, a1, K1⟩ | ⟨y, a1, K1⟩
    · obtain ⟨V1, q1, q2⟩ := i_Ln T.1.2.2.1 hq V a1
      have s1 := m77 T K1.1
      have g9 := m12 T K1
      have c4 : (msI (tSo B L r.2) = 4) ↔ tSo B L r.2 = 3 := msI_e (k := 3) (tSo_5 T.1.2.2.1) (by omega)
      have c1 : (msI (tSo B L r.2) = 1) ↔ tSo B L r.2 = 0 := msI_e (k := 0) (tSo_5 T.1.2.2.1) (by omega)
      have st : ∀ R, (if tSo B L r.2 = 0 then (if r.1.1 2 = 0 then .inl (6, tFr B L r.2) else .inr r.1) else if tSo B L r.2 = 3 then pTx B L m r.1 (tTo B L r.2) else .inl (1, tFr B L r.2)) = R → pTx B L (m + 1) D q = R := fun R hR => by
        unfold pTx; rw [bS_r a1]; exact hR
      have gc := mGC T K1 2 (by omega) (by omega)
      have cp : (Int32.ofNat (r.1.1 2) = 0) ↔ r.1.1 2 = 0 := kz (by have := V1.1.2.2.1; omega)
      by_cases z3 : tSo B L r.2 = 3
      · obtain ⟨h2, e2, K2⟩ := m_adv T K1 (by omega)
        have tt := tT (B := B) T.1.2.2.1 q2
        obtain ⟨h', e', hv'⟩ := m_tx T m (tTo B L r.2) n r.1 h2 (by omega) V1 K2
        have ea : fX13_eats h1 77 4 = some (1, h2) := by
          simp only [fX13_eats, g9, if_pos (c4.mpr z3), bX13_eats_13, i10, if_false, ck_at s1, e2, rB1, bd_some]
        refine ⟨h', ?_, ?_⟩
        · show bX13_readAll_2 (fX13_readAll_2 (n + m + 1 + 1)) h 77 1 = _
          simp only [bX13_readAll_2, i10, if_false, ck_at (m77 T K.1), e1, ck_at s1, ea, e', bd_some, bd2_some]
        · have se : pTx B L (m + 1) D q = pTx B L m r.1 (tTo B L r.2) := st _ (by rw [if_neg (by omega), if_pos z3])
          rw [se]; exact hv'
      · have ea : fX13_eats h1 77 4 = some (0, h1) := by
          simp only [fX13_eats, g9, if_neg (fun x => z3 (c4.mp x)), bX13_eats_13, if_true, rB0, bd_some]
        have nx : fX13_readAll_2 (n + (m + 1) + 1 + 1) h 77 1 = fX13_readAll_2 (n + m + 1 + 1) h1 77 0 := by
          show bX13_readAll_2 (fX13_readAll_2 (n + m + 1 + 1)) h 77 1 = _
          simp only [bX13_readAll_2, i10, if_false, ck_at (m77 T K.1), e1, ck_at s1, ea, bd_some, bd2_some]
        have nx2 : fX13_readAll_2 (n + m + 1 + 1) h1 77 0 = bX13_readAll_2 (fX13_readAll_2 (n + m + 1)) h1 77 0 := rfl
        rw [nx, nx2]
        by_cases z0 : tSo B L r.2 = 0
        · by_cases zp : r.1.1 2 = 0
          · obtain ⟨f, e2, K2⟩ := m_flaw T K1 V1.wd (n := 6) (by omega)
            have e2' : fX13_flaw h1 77 6 = some f := e2
            refine ⟨f, ?_, Or.inr ⟨_, st _ (by rw [if_pos z0, if_pos zp]), K2⟩⟩
            simp only [bX13_readAll_2, if_true, g9, if_pos (c1.mpr z0), bX13_readAll_32, mR4 T K1.1, gc, if_pos (cp.mpr zp), ck_at s1, e2', bd_some]
          · refine ⟨h1, ?_, Or.inl ⟨r.1, r.2, st _ (by rw [if_pos z0, if_neg zp]), K1⟩⟩
            simp only [bX13_readAll_2, if_true, g9, if_pos (c1.mpr z0), bX13_readAll_32, mR4 T K1.1, gc, if_neg (fun x => zp (cp.mp x)), bd_some]
        · obtain ⟨f, e2, K2⟩ := m_flaw T K1 V1.wd (n := 1) (by omega)
          have e2' : fX13_flaw h1 77 1 = some f := e2
          refine ⟨f, ?_, Or.inr ⟨_, st _ (by rw [if_neg z0, if_neg z3]), K2⟩⟩
          have k32 : bX13_readAll_32 f 77 = some f := by
            simp only [bX13_readAll_32, mR4 T K2.1, gI_at (mOk T K2.1), ck_at (m77 T K2.1), o_flaw T K2, bd_some]
            split <;> rfl
          simp only [bX13_readAll_2, if_true, g9, if_neg (fun x => z0 (c1.mp x)), ck_at s1, e2', k32, bd_some]
    · refine ⟨h1, ?_, Or.inr ⟨y, by unfold pTx; rw [bS_l a1], K1⟩⟩
      show bX13_readAll_2 (fX13_readAll_2 (n + m + 1 + 1)) h 77 1 = _
      simp only [bX13_readAll_2, i10, if_false, ck_at (m77 T K.1), e1, ck_at (m77 T K1.1), o_eats T K1, o_end T K1, bd_some, bd2_some]
end MTX
