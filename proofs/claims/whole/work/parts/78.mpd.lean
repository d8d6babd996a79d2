/-! ===== READING: the model's pieces, the others ===== -/
section KMQ
variable {p o : Nat} {h h0 h' : MH} {B : Nat → Int32} {L q : Nat} {X X' : Nat → Nat → Prop} {D : DD} {e : Nat × Nat}
theorem k_n1 {i : Nat} (hi : i < 2147483648) : ¬ Int32.ofNat i = -1 := fun x => k_neg hi (by rw [x]; decide)
theorem m_fresh (T : tBm B L p o h0) (K : KM B L o h0 X D q h) (V : WD D) : ∃ w' h', fX13_readFresh h 77 = some (w', h') ∧ ((∃ w q', pNew B L D.2.2.2 q = .inr (w, q') ∧ w' = Int64.ofNat w ∧ KM B L o h0 X D q' h') ∨ (∃ e, pNew B L D.2.2.2 q = .inl e ∧ KO o h0 e h')) := by
  have s := m77 T K.1
  have nm := m_name T K
  by_cases z : tSo B L q = 1 ∧ ix nT4 (tWd B L q) = none
  · rw [if_pos z] at nm
    have g14 : gJ h 77 13 14 = some (Int64.ofNat (tWd B L q)) := by rw [gJ_at s, K.2.1.2.2.2.2.2 z.1]
    obtain ⟨r, e1, hr⟩ := m_find T K V
    rcases hr with ⟨r1, r2⟩ | ⟨i, y, r1, r2, r3⟩
    · obtain ⟨h', e', K'⟩ := m_adv T K (by rw [z.1]; decide)
      refine ⟨_, h', ?_, Or.inl ⟨_, _, by unfold pNew; rw [if_pos z, r1], rfl, K'⟩⟩
      simp only [fX13_readFresh, ck_at s, nm, i10, if_false, bX13_readFresh_12, mR4 T K.1, g14, ck_at (mOk T K.1), e1, r2, if_true, e', bd_some, bd2_some]
    · have hi := (List.getElem?_eq_some_iff.mp r1).1
      have hv := V.1
      obtain ⟨f, e2, K2⟩ := m_flaw T K V (n := 3) (by omega)
      have e2' : fX13_flaw h 77 3 = some f := e2
      refine ⟨f.2.1 77 14, f, ?_, Or.inr ⟨_, by unfold pNew; rw [if_pos z, r2], K2⟩⟩
      simp only [fX13_readFresh, ck_at s, nm, i10, if_false, bX13_readFresh_12, mR4 T K.1, g14, ck_at (mOk T K.1), e1, r3, if_neg (k_n1 (show i < 2147483648 by omega)), e2', gJ_at (m77 T K2.1), ck_at (m77 T K2.1), o_adv T K2, bd_some, bd2_some]
  · rw [if_neg z] at nm
    obtain ⟨f, e2, K2⟩ := m_flaw T K V (n := 1) (by omega)
    have e2' : fX13_flaw h 77 1 = some f := e2
    obtain ⟨r, e1, hr⟩ := o_find T K2 (f.2.1 77 14)
    refine ⟨f.2.1 77 14, f, ?_, Or.inr ⟨_, by unfold pNew; rw [if_neg z], K2⟩⟩
    have s2 := m77 T K2.1
    by_cases zr : r = -1
    · simp only [fX13_readFresh, ck_at s, nm, if_true, e2', bX13_readFresh_12, mR4 T K2.1, gJ_at s2, ck_at (mOk T K2.1), e1, if_pos zr, ck_at s2, o_adv T K2, bd_some, bd2_some]
    · simp only [fX13_readFresh, ck_at s, nm, if_true, e2', bX13_readFresh_12, mR4 T K2.1, gJ_at s2, ck_at (mOk T K2.1), e1, if_neg zr, ck_at s2, o_flaw T K2, o_adv T K2, bd_some, bd2_some]
theorem o_fresh (T : tBm B L p o h0) (K : KO o h0 e h) : ∃ w, fX13_readFresh h 77 = some (w, h) := by
  obtain ⟨r, e1, hr⟩ := o_find T K (h.2.1 77 14)
  have s := m77 T K.1
  refine ⟨h.2.1 77 14, ?_⟩
  by_cases zr : r = -1
  · simp only [fX13_readFresh, ck_at s, o_name T K, if_true, o_flaw T K, bX13_readFresh_12, mR4 T K.1, gJ_at s, ck_at (mOk T K.1), e1, if_pos zr, o_adv T K, bd_some, bd2_some]
  · simp only [fX13_readFresh, ck_at s, o_name T K, if_true, o_flaw T K, bX13_readFresh_12, mR4 T K.1, gJ_at s, ck_at (mOk T K.1), e1, if_neg zr, o_adv T K, bd_some, bd2_some]
theorem o_kn12 (T : tBm B L p o h0) (K : KO o h0 e h) (x : Int32) : bX13_knownOne_12 h 77 x = some (0, h) := by
  obtain ⟨r, e1, hr⟩ := o_find T K (h.2.1 77 14)
  have s := m77 T K.1
  have k47 : ∀ v, bX13_knownOne_47 h 77 v = some (0, h) := fun v => by
    simp only [bX13_knownOne_47, gI_at s, K.2.1, if_true, bd_some]
  rcases hr with rfl | ⟨i, hi, rfl⟩
  · simp only [bX13_knownOne_12, mR4 T K.1, gJ_at s, ck_at (mOk T K.1), e1, if_true, ck_at s, o_flaw T K, k47, bd_some, bd2_some]
  · obtain ⟨g25, s17⟩ := mAr T K.1 16 (k := 15) (n := 17) (w := 25) rfl rfl
    have l1 : lI h (o + 1 + 16) (Int32.ofNat i) = some (h.1 (o + 1 + 16) i) := lI_at s17 hi (by decide)
    simp only [bX13_knownOne_12, mR4 T K.1, gJ_at s, ck_at (mOk T K.1), e1, if_neg (k_n1 (show i < 2147483648 by omega)), g25, l1, ck_at s, o_flaw T K, k47, bd_some, bd2_some]
    split <;> rfl
theorem o_known (T : tBm B L p o h0) (K : KO o h0 e h) (x : Int32) : fX13_knownOne h 77 x = some (0, h) := by
  simp only [fX13_knownOne, ck_at (m77 T K.1), o_name T K, if_true, o_flaw T K, o_kn12 T K, bd_some, bd2_some]
theorem o_rKn (T : tBm B L p o h0) (K : KO o h0 e h) (x : Int32) : fX13_readKnown h 77 x = some (0, h) := by
  simp only [fX13_readKnown, ck_at (m77 T K.1), o_known T K, o_adv T K, bd_some, bd2_some]
theorem sC_e {s t : Nat} (hs : s = 1 ∨ s = 2 ∨ s = 3 ∨ s = 5) (ht : t = 1 ∨ t = 2 ∨ t = 3 ∨ t = 5) : (sC s = sC t) ↔ s = t := by
  rcases hs with rfl | rfl | rfl | rfl <;> rcases ht with rfl | rfl | rfl | rfl <;> decide
theorem m_known (T : tBm B L p o h0) (K : KM B L o h0 X D q h) (V : WD D) (M : NMS D.1 D.2.2.2) {s : Nat} {x : Int32} (hs : s = 1 ∨ s = 2 ∨ s = 3 ∨ s = 5) (hx : x = sC s) : ∃ v h', fX13_knownOne h 77 x = some (v, h') ∧ ((∃ j, pOld B L D.2.2.2 s q = .inr j ∧ j < 5 ∧ v = Int32.ofNat j ∧ h' = h ∧ tSo B L q = 1) ∨ (∃ e, pOld B L D.2.2.2 s q = .inl e ∧ v = 0 ∧ KO o h0 e h')) := by
  subst hx
  have s7 := m77 T K.1
  have nm := m_name T K
  by_cases z : tSo B L q = 1 ∧ ix nT4 (tWd B L q) = none
  · rw [if_pos z] at nm
    have g14 : gJ h 77 13 14 = some (Int64.ofNat (tWd B L q)) := by rw [gJ_at s7, K.2.1.2.2.2.2.2 z.1]
    have g9 : gI h 77 13 9 = some (msI (tSo B L q)) := by rw [gI_at s7, K.2.1.2.2.1]
    obtain ⟨f, e2, K2⟩ := m_flaw T K V (n := 2) (by omega)
    have e2' : fX13_flaw h 77 2 = some f := e2
    have k47 : ∀ v, bX13_knownOne_47 f 77 v = some (0, f) := fun v => by
      simp only [bX13_knownOne_47, gI_at (m77 T K2.1), K2.2.1, if_true, bd_some]
    obtain ⟨r, e1, hr⟩ := m_find T K V
    rcases hr with ⟨r1, r2⟩ | ⟨i, y, r1, r2, r3⟩
    · refine ⟨0, f, ?_, Or.inr ⟨_, by unfold pOld lk; rw [if_pos z, r1], rfl, K2⟩⟩
      simp only [fX13_knownOne, ck_at s7, nm, i10, if_false, bX13_knownOne_12, mR4 T K.1, g14, ck_at (mOk T K.1), e1, r2, if_true, e2', k47, bd_some, bd2_some]
    · have hi := (List.getElem?_eq_some_iff.mp r1).1
      have hv := V.1
      have vy := V.2 i y r1
      have ky := K.2.2.2.2.2.1 i y r1
      obtain ⟨g25, s17⟩ := mAr T K.1 16 (k := 15) (n := 17) (w := 25) rfl rfl
      obtain ⟨g26, s18⟩ := mAr T K.1 17 (k := 15) (n := 17) (w := 26) rfl rfl
      have l1 : lI h (o + 1 + 16) (Int32.ofNat i) = some (sC y.2.1) := by rw [lI_at s17 (show i < 17 by omega) (by decide)]; exact congrArg some ky.2.1
      have l2 : lI h (o + 1 + 17) (Int32.ofNat i) = some (Int32.ofNat y.2.2) := by rw [lI_at s18 (show i < 17 by omega) (by decide)]; exact congrArg some ky.2.2
      have cs := sC_e (s := y.2.1) (t := s) (by have := (M i y r1).2; omega) hs
      by_cases z3 : y.2.1 = s
      · refine ⟨_, h, ?_, Or.inl ⟨y.2.2, by unfold pOld lk; rw [if_pos z, r2]; show (match (if y.2.1 = s then some y.2.2 else none) with | some j => _ | none => _) = _; rw [if_pos z3], vy.2.2, rfl, rfl, z.1⟩⟩
        simp only [fX13_knownOne, ck_at s7, nm, i10, if_false, bX13_knownOne_12, mR4 T K.1, g14, ck_at (mOk T K.1), e1, r3, if_neg (k_n1 (show i < 2147483648 by omega)), g25, l1, if_pos (cs.mpr z3), bX13_knownOne_47, g9, if_neg (msI_6 _), g26, l2, bd_some, bd2_some]
      · refine ⟨0, f, ?_, Or.inr ⟨_, by unfold pOld lk; rw [if_pos z, r2]; show (match (if y.2.1 = s then some y.2.2 else none) with | some j => _ | none => _) = _; rw [if_neg z3], rfl, K2⟩⟩
        simp only [fX13_knownOne, ck_at s7, nm, i10, if_false, bX13_knownOne_12, mR4 T K.1, g14, ck_at (mOk T K.1), e1, r3, if_neg (k_n1 (show i < 2147483648 by omega)), g25, l1, if_neg (fun x => z3 (cs.mp x)), e2', k47, bd_some, bd2_some]
  · rw [if_neg z] at nm
    obtain ⟨f, e2, K2⟩ := m_flaw T K V (n := 1) (by omega)
    have e2' : fX13_flaw h 77 1 = some f := e2
    refine ⟨0, f, ?_, Or.inr ⟨_, by unfold pOld; rw [if_neg z], rfl, K2⟩⟩
    simp only [fX13_knownOne, ck_at s7, nm, if_true, e2', o_kn12 T K2, bd_some, bd2_some]
theorem m_rKn (T : tBm B L p o h0) (K : KM B L o h0 X D q h) (V : WD D) (M : NMS D.1 D.2.2.2) {s : Nat} {x : Int32} (hs : s = 1 ∨ s = 2 ∨ s = 3 ∨ s = 5) (hx : x = sC s) : ∃ v h', fX13_readKnown h 77 x = some (v, h') ∧ ((∃ j, pOld B L D.2.2.2 s q = .inr j ∧ j < 5 ∧ v = Int32.ofNat j ∧ KM B L o h0 X D (tTo B L q) h') ∨ (∃ e, pOld B L D.2.2.2 s q = .inl e ∧ KO o h0 e h')) := by
  obtain ⟨v, h1, e1, hv⟩ := m_known T K V M hs hx
  rcases hv with ⟨j, a1, a2, a3, a4, a5⟩ | ⟨y, a1, a2, K1⟩
  · subst a4
    obtain ⟨h', e', K'⟩ := m_adv T K (by rw [a5]; decide)
    refine ⟨v, h', ?_, Or.inl ⟨j, a1, a2, a3, K'⟩⟩
    simp only [fX13_readKnown, ck_at (m77 T K.1), e1, e', bd_some, bd2_some]
  · refine ⟨v, h1, ?_, Or.inr ⟨y, a1, K1⟩⟩
    simp only [fX13_readKnown, ck_at (m77 T K.1), e1, ck_at (m77 T K1.1), o_adv T K1, bd_some, bd2_some]
theorem ix6 (w : Nat) : ix nT6 w = if w = 463 then some 0 else if w = 25779 then some 1 else if w = 6333908 then some 2 else none := by
  show (if 463 = w then some 0 else match (if 25779 = w then some 0 else match (if 6333908 = w then some 0 else match (none : Option Nat) with
    | none => none
    | some i => some (i + 1)) with
    | none => none
    | some i => some (i + 1)) with
    | none => none
    | some i => some (i + 1)) = _
  by_cases z1 : w = 463
  · rw [if_pos z1, if_pos z1.symm]
  · rw [if_neg z1, if_neg (fun x => z1 x.symm)]
    by_cases z2 : w = 25779
    · rw [if_pos z2, if_pos z2.symm]
    · rw [if_neg z2, if_neg (fun x => z2 x.symm)]
      by_cases z3 : w = 6333908
      · rw [if_pos z3, if_pos z3.symm]
      · rw [if_neg z3, if_neg (fun x => z3 x.symm)]
theorem m_verd (T : tBm B L p o h0) (K : KM B L o h0 X D q h) (V : WD D) : ∃ v h', fX13_readVerdict h 77 = some (v, h') ∧ ((∃ i q', pCh B L nT6 q = .inr (i, q') ∧ v = Int32.ofNat i ∧ KM B L o h0 X D q' h') ∨ (∃ e, pCh B L nT6 q = .inl e ∧ KO o h0 e h')) := by
  have s := m77 T K.1
  have w18 : fX13_isWord h 77 18 = some (if tWd B L q = 463 then 1 else 0, h) := m_word T K (by omega) (by omega)
  have w19 : fX13_isWord h 77 19 = some (if tWd B L q = 25779 then 1 else 0, h) := m_word T K (by omega) (by omega)
  have w20 : fX13_isWord h 77 20 = some (if tWd B L q = 6333908 then 1 else 0, h) := m_word T K (by omega) (by omega)
  have x6 := ix6 (tWd B L q)
  have ok : tWd B L q ≠ 0 → ∃ h', fX13_goesOn h 77 = some h' ∧ KM B L o h0 X D (tTo B L q) h' := fun hw => m_adv T K (by rw [tSo_w hw]; decide)
  by_cases z1 : tWd B L q = 463
  · rw [if_pos z1] at x6
    obtain ⟨h', e', K'⟩ := ok (by omega)
    refine ⟨0, h', ?_, Or.inl ⟨0, _, by unfold pCh; rw [x6], rfl, K'⟩⟩
    simp only [fX13_readVerdict, ck_at s, w18, if_pos z1, i10, if_false, bX13_readVerdict_40, if_neg (show ¬ (0 : Int32) = -1 by decide), e', bd_some, bd2_some]
  · rw [if_neg z1] at x6
    by_cases z2 : tWd B L q = 25779
    · rw [if_pos z2] at x6
      obtain ⟨h', e', K'⟩ := ok (by omega)
      refine ⟨1, h', ?_, Or.inl ⟨1, _, by unfold pCh; rw [x6], rfl, K'⟩⟩
      simp only [fX13_readVerdict, ck_at s, w18, if_neg z1, if_true, w19, if_pos z2, i10, if_false, bX13_readVerdict_40, if_neg (show ¬ (1 : Int32) = -1 by decide), e', bd_some, bd2_some]
    · rw [if_neg z2] at x6
      by_cases z3 : tWd B L q = 6333908
      · rw [if_pos z3] at x6
        obtain ⟨h', e', K'⟩ := ok (by omega)
        refine ⟨2, h', ?_, Or.inl ⟨2, _, by unfold pCh; rw [x6], rfl, K'⟩⟩
        simp only [fX13_readVerdict, ck_at s, w18, if_neg z1, if_true, w19, if_neg z2, w20, if_pos z3, i10, if_false, bX13_readVerdict_40, if_neg (show ¬ (2 : Int32) = -1 by decide), e', bd_some, bd2_some]
      · rw [if_neg z3] at x6
        obtain ⟨f, e2, K2⟩ := m_flaw T K V (n := 1) (by omega)
        have e2' : fX13_flaw h 77 1 = some f := e2
        refine ⟨-1, f, ?_, Or.inr ⟨_, by unfold pCh; rw [x6], K2⟩⟩
        simp only [fX13_readVerdict, ck_at s, w18, if_neg z1, if_true, w19, if_neg z2, w20, if_neg z3, bX13_readVerdict_40, e2', ck_at (m77 T K2.1), o_adv T K2, bd_some, bd2_some]
theorem o_verd (T : tBm B L p o h0) (K : KO o h0 e h) : fX13_readVerdict h 77 = some (-1, h) := by
  simp only [fX13_readVerdict, ck_at (m77 T K.1), o_word T K (show 18 < 26 by omega), o_word T K (show 19 < 26 by omega), o_word T K (show 20 < 26 by omega), if_true, bX13_readVerdict_40, o_flaw T K, o_adv T K, bd_some, bd2_some]
theorem o_mk (T : tBm B L p o h0) (K : KO o h0 e h) (n : Nat) (x : Int32) : fX13_readMarks_2 (n + 1) h 77 x = some (x, h) := by
  show bX13_readMarks_2 _ h 77 x = _
  simp only [bX13_readMarks_2, ck_at (m77 T K.1), fX13_eats, gI_at (m77 T K.1), K.2.1, if_neg (show ¬ (6 : Int32) = 5 by decide), bX13_eats_13, if_true, rB0, bd_some, bd2_some]
theorem o_marks (T : tBm B L p o h0) (K : KO o h0 e h) : fX13_readMarks h 77 = some (0, h) := by
  obtain ⟨n, hn⟩ := FU_at 0 (by omega)
  unfold fX13_readMarks
  rw [hn]
  exact o_mk T K (n + 0) 0
def pbN (b : Nat) : Nat := (if b.testBit 0 = true then 1 else 0) + (if b.testBit 1 = true then 1 else 0) + (if b.testBit 2 = true then 1 else 0) + (if b.testBit 3 = true then 1 else 0) + (if b.testBit 4 = true then 1 else 0)
theorem pbN_t : ∀ b, b < 32 → pbN b ≤ 5 ∧ ∀ j, j < 5 → ¬ b.testBit j = true → pbN (b ||| 1 <<< j) = pbN b + 1 := by decide +kernel
theorem m_mk2 (T : tBm B L p o h0) (V : WD D) (M : NMS D.1 D.2.2.2) : ∀ (m b q n : Nat) (h : MH), pbN b + m = 6 → b < 32 → KM B L o h0 X D q h → ∃ v h', fX13_readMarks_2 (n + m + 1) h 77 (Int32.ofNat b) = some (v, h') ∧ ((∃ b' q', pMk B L D.2.2.2 m b q = .inr (b', q') ∧ v = Int32.ofNat b' ∧ KM B L o h0 X D q' h') ∨ (∃ e, pMk B L D.2.2.2 m b q = .inl e ∧ KO o h0 e h'))
  | 0, b, q, n, h, hp, hb, K => by have := (pbN_t b hb).1; omega
  | m + 1, b, q, n, h, hp, hb, K => by
    have s := m77 T K.1
    have g9 : gI h 77 13 9 = some (msI (tSo B L q)) := by rw [gI_at s, K.2.1.2.2.1]
    have c5 : (msI (tSo B L q) = 5) ↔ tSo B L q = 4 := msI_e (k := 4) (tSo_5 T.1.2.2.1) (by omega)
    by_cases z : tSo B L q = 4
    · obtain ⟨h1, e1, K1⟩ := m_adv T K (by omega)
      have s1 := m77 T K1.1
      have g91 : gI h1 77 13 9 = some (msI (tSo B L (tTo B L q))) := by rw [gI_at s1, K1.2.1.2.2.1]
      obtain ⟨v, h2, e2, hv⟩ := m_known (s := 1) T K1 V M (Or.inl rfl) rfl
      have e2' : fX13_knownOne h1 77 0 = some (v, h2) := e2
      have st : ∀ r, (match pOld B L D.2.2.2 1 (tTo B L q) with
        | .inl e => .inl e
        | .inr j => if b.testBit j = true then .inl (3, tFr B L (tTo B L q)) else pMk B L D.2.2.2 m (b ||| 1 <<< j) (tTo B L (tTo B L q))) = r → pMk B L D.2.2.2 (m + 1) b q = r := fun r hr => by
        show (if tSo B L q = 4 then _ else _) = _
        rw [if_pos z]; exact hr
      have ea : fX13_eats h 77 5 = some (1, h1) := by
        simp only [fX13_eats, g9, if_pos (c5.mpr z), bX13_eats_13, i10, if_false, ck_at s, e1, rB1, bd_some]
      rcases hv with ⟨j, a1, a2, a3, a4, a5⟩ | ⟨y, a1, a2, K2⟩
      · subst a3 a4
        obtain ⟨t1, t2, t3⟩ := mk_tab b hb j a2
        by_cases z2 : b.testBit j = true
        · obtain ⟨f, e3, K3⟩ := m_flaw T K1 V (n := 3) (by omega)
          have e3' : fX13_flaw h2 77 3 = some f := e3
          refine ⟨Int32.ofNat (b ||| 1 <<< j), f, ?_, Or.inr ⟨_, st _ (by rw [a1]; exact if_pos z2), K3⟩⟩
          show bX13_readMarks_2 (fX13_readMarks_2 (n + m + 1)) h 77 (Int32.ofNat b) = some (Int32.ofNat (b ||| 1 <<< j), f)
          simp only [bX13_readMarks_2, ck_at s, ea, i10, if_false, ck_at s1, e2', g91, if_neg (msI_6 _), fX13_bit, if_pos (t1.mpr z2), e3', bX13_readMarks_38, ck_at (m77 T K3.1), o_adv T K3, t2, o_mk T K3, bd_some, bd2_some]
        · obtain ⟨h3, e3, K3⟩ := m_adv T K1 (by rw [a5]; decide)
          have pc := (pbN_t b hb).2 j a2 z2
          obtain ⟨v', h', e', hv'⟩ := m_mk2 T V M m (b ||| 1 <<< j) _ n h3 (by omega) t3 K3
          refine ⟨v', h', ?_, ?_⟩
          · show bX13_readMarks_2 (fX13_readMarks_2 (n + m + 1)) h 77 (Int32.ofNat b) = _
            simp only [bX13_readMarks_2, ck_at s, ea, i10, if_false, ck_at s1, e2', g91, if_neg (msI_6 _), fX13_bit, if_neg (fun y => z2 (t1.mp y)), if_true, bX13_readMarks_38, e3, t2, e', bd_some, bd2_some]
          · have se : pMk B L D.2.2.2 (m + 1) b q = pMk B L D.2.2.2 m (b ||| 1 <<< j) (tTo B L (tTo B L q)) := st _ (by rw [a1]; exact if_neg z2)
            rw [se]; exact hv'
      · subst a2
        refine ⟨Int32.ofNat b ||| (1 <<< ((0 : Int32) &&& 31)), h2, ?_, Or.inr ⟨y, st _ (by rw [a1]), K2⟩⟩
        show bX13_readMarks_2 (fX13_readMarks_2 (n + m + 1)) h 77 (Int32.ofNat b) = _
        simp only [bX13_readMarks_2, ck_at s, ea, i10, if_false, ck_at s1, e2', gI_at (m77 T K2.1), K2.2.1, if_true, bX13_readMarks_38, ck_at (m77 T K2.1), o_adv T K2, o_mk T K2, bd_some, bd2_some]
    · have ea : fX13_eats h 77 5 = some (0, h) := by
        simp only [fX13_eats, g9, if_neg (fun y => z (c5.mp y)), bX13_eats_13, if_true, rB0, bd_some]
      refine ⟨_, h, ?_, Or.inl ⟨b, q, ?_, rfl, K⟩⟩
      · show bX13_readMarks_2 _ h 77 (Int32.ofNat b) = _
        simp only [bX13_readMarks_2, ck_at s, ea, if_true, bd_some, bd2_some]
      · show (if tSo B L q = 4 then _ else _) = _
        rw [if_neg z]
theorem m_marks (T : tBm B L p o h0) (K : KM B L o h0 X D q h) (V : WD D) (M : NMS D.1 D.2.2.2) : ∃ v h', fX13_readMarks h 77 = some (v, h') ∧ ((∃ b' q', pMk B L D.2.2.2 6 0 q = .inr (b', q') ∧ v = Int32.ofNat b' ∧ KM B L o h0 X D q' h') ∨ (∃ e, pMk B L D.2.2.2 6 0 q = .inl e ∧ KO o h0 e h')) := by
  obtain ⟨n, hn⟩ := FU_at 6 (by decide)
  unfold fX13_readMarks
  rw [hn]
  exact m_mk2 T V M 6 0 q n h (by decide) (by decide) K
theorem o_beg (T : tBm B L p o h0) (K : KO o h0 e h) (x y : Int32) : fX13_lineBegins h 77 x y = some h := by
  have s := m77 T K.1
  have k10 : bX13_lineBegins_10 h 77 = some h := by
    simp only [bX13_lineBegins_10, mR4 T K.1, gI_at (mOk T K.1), ck_at s, o_flaw T K, o_adv T K, bd_some]
    split <;> rfl
  simp only [fX13_lineBegins, ck_at s, o_flaw T K, k10, bd_some]
  split <;> rfl
/-- a line begins: the place is full, or no office is told, or on it goes -/
theorem m_beg (T : tBm B L p o h0) (K : KM B L o h0 X D q h) (V : WI D) (hw : tSo B L q = 1) {n most : Nat} (hn : n ≤ most) (hm : most < 100) (h0n : D.1 8 = 0 → n < most) : ∃ h', fX13_lineBegins h 77 (Int32.ofNat n) (Int32.ofNat most) = some h' ∧ ((¬ D.1 8 = 0 ∧ n < most ∧ KM B L o h0 X D (tTo B L q) h') ∨ (D.1 8 = 0 ∧ KO o h0 (6, tFr B L q) h') ∨ (¬ D.1 8 = 0 ∧ ¬ n < most ∧ KO o h0 (5, tFr B L q) h')) := by
  have s := m77 T K.1
  have c1 := k_eq (i := n) (n := most) (by omega) (by omega)
  have g0 : gI h o 12 0 = some (if D.1 8 = 0 then -1 else Int32.ofNat (D.1 0)) := by rw [gI_at (mOk T K.1), K.2.2.2.2.1]
  have a0 := V.1.1
  by_cases z8 : D.1 8 = 0
  · have h1 := h0n z8
    rw [if_pos z8] at g0
    obtain ⟨f, e2, K2⟩ := m_flaw T K V.wd (n := 6) (by omega)
    have e2' : fX13_flaw h 77 6 = some f := e2
    refine ⟨f, ?_, Or.inr (Or.inl ⟨z8, K2⟩)⟩
    simp only [fX13_lineBegins, if_neg (fun x => by have := c1.mp x; omega), bX13_lineBegins_10, mR4 T K.1, g0, if_true, ck_at s, e2', ck_at (m77 T K2.1), o_adv T K2, bd_some]
  · rw [if_neg z8] at g0
    by_cases z : n < most
    · obtain ⟨h', e', K'⟩ := m_adv T K (by rw [hw]; decide)
      refine ⟨h', ?_, Or.inl ⟨z8, z, K'⟩⟩
      simp only [fX13_lineBegins, if_neg (fun x => by have := c1.mp x; omega), bX13_lineBegins_10, mR4 T K.1, g0, if_neg (k_n1 (show D.1 0 < 2147483648 by omega)), ck_at s, e', bd_some]
    · obtain ⟨f, e2, K2⟩ := m_flaw T K V.wd (n := 5) (by omega)
      have e2' : fX13_flaw h 77 5 = some f := e2
      refine ⟨f, ?_, Or.inr (Or.inr ⟨z8, z, K2⟩)⟩
      have k10 : bX13_lineBegins_10 f 77 = some f := by
        simp only [bX13_lineBegins_10, mR4 T K2.1, gI_at (mOk T K2.1), ck_at (m77 T K2.1), o_flaw T K2, o_adv T K2, bd_some]
        split <;> rfl
      simp only [fX13_lineBegins, if_pos (c1.mpr (show n = most by omega)), ck_at s, e2', k10, bd_some]
end KMQ
