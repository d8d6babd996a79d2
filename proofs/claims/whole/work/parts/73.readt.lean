/-! ===== READING: a line, the text ===== -/
section TXT
variable {p : Nat} {h h0 : MH} {B : Nat → Int32} {L q : Nat} {D : DD}
theorem tTo_gt (hb : ∀ k, bR (B k)) (hq : q ≤ L) {k : Nat} (e : ix nT4 (tWd B L q) = some k) : q < tTo B L q := by
  have hs : tSo B L q = 1 := by
    by_cases z : tSo B L q = 1
    · exact z
    · have : tWd B L q = 0 := by unfold tWd; rw [if_neg z]
      rw [this] at e
      exact absurd e (by rw [show ix nT4 0 = none by decide]; exact fun x => by cases x)
  have hc : tCl B L q = 1 := by
    unfold tSo at hs
    split at hs
    · omega
    · split at hs
      · omega
      · exact hs
  have f := tFr_le (B := B) hq
  have := (tTo_le (B := B) hq hb).2.2 (by omega)
  omega
theorem i_Ln (hb : ∀ k, bR (B k)) (hq : q ≤ L) (V : WI D) {r : DD × Nat} (e : pLn B L D q = .inr r) : WI r.1 ∧ q < r.2 ∧ r.2 ≤ L := by
  unfold pLn at e
  cases z : ix nT4 (tWd B L q) with
  | none => rw [z] at e; cases e
  | some k =>
    rw [z] at e
    have g := tTo_gt hb hq z
    have t := tT (B := B) hb hq
    have e : (if 7 < k then .inl (1, tFr B L q) else if k = 0 then (if D.1 8 = 0 then lOf B L D (tTo B L q) else .inl (3, tFr B L q)) else if D.1 8 = 0 then .inl (6, tFr B L q) else if fuN D.1 k = true then .inl (5, tFr B L q) else
    if k = 1 then lMa B L D (tTo B L q) else if k = 2 then lPa B L D (tTo B L q) else if k = 3 then lSt B L D (tTo B L q) else if k = 4 then lRu B L D (tTo B L q) else if k = 5 then lHa B L D (tTo B L q) else if k = 6 then lWa B L D (tTo B L q) else lPr B L D (tTo B L q)) = (.inr r : RS (DD × Nat)) := e
    have fin : WI r.1 ∧ tTo B L q ≤ r.2 ∧ r.2 ≤ L := by
      by_cases k7 : 7 < k
      · rw [if_pos k7] at e; cases e
      · rw [if_neg k7] at e
        by_cases k0 : k = 0
        · rw [if_pos k0] at e
          by_cases h8 : D.1 8 = 0
          · rw [if_pos h8] at e; exact i_lOf hb t.2 V e
          · rw [if_neg h8] at e; cases e
        · rw [if_neg k0] at e
          by_cases h8 : D.1 8 = 0
          · rw [if_pos h8] at e; cases e
          · rw [if_neg h8] at e
            by_cases hf : fuN D.1 k = true
            · rw [if_pos hf] at e; cases e
            · rw [if_neg hf] at e
              have hf' : ¬ ((k = 1 ∧ 5 ≤ D.1 1) ∨ (k = 2 ∧ 5 ≤ D.1 2) ∨ (k = 3 ∧ 4 ≤ D.1 3) ∨ (k = 4 ∧ 10 ≤ D.1 4) ∨ (k = 5 ∧ 3 ≤ D.1 5) ∨ (k = 7 ∧ 4 ≤ D.1 7)) := fun x => hf (decide_eq_true x)
              by_cases k1 : k = 1
              · rw [if_pos k1] at e; exact i_lMa hb t.2 V (by omega) h8 e
              · rw [if_neg k1] at e
                by_cases k2 : k = 2
                · rw [if_pos k2] at e; exact i_lPa hb t.2 V (by omega) h8 e
                · rw [if_neg k2] at e
                  by_cases k3 : k = 3
                  · rw [if_pos k3] at e; exact i_lSt hb t.2 V (by omega) h8 e
                  · rw [if_neg k3] at e
                    by_cases k4 : k = 4
                    · rw [if_pos k4] at e; exact i_lRu hb t.2 V (by omega) h8 e
                    · rw [if_neg k4] at e
                      by_cases k5 : k = 5
                      · rw [if_pos k5] at e; exact i_lHa hb t.2 V (by omega) h8 e
                      · rw [if_neg k5] at e
                        by_cases k6 : k = 6
                        · rw [if_pos k6] at e; exact i_lWa hb t.2 V h8 e
                        · rw [if_neg k6] at e; exact i_lPr hb t.2 V (by omega) h8 e
    exact ⟨fin.1, by omega, fin.2.2⟩
theorem kz {i : Nat} (h : i < 1000) : (Int32.ofNat i = 0) ↔ i = 0 := k_eq (n := 0) (by omega) (by decide)
theorem LO.f {n : Nat} (T : tBy B L p h0) (K : KC B L p h0 (xD D.1) D q h) (hn : 1 ≤ n ∧ n ≤ 6) {R : RS (DD × Nat)} (hR : R = .inl (n, tFr B L q)) : LO B L p h0 R (bd2 (fX8_fail h 3 (Int32.ofNat n)) fun v h => rB v h) := by
  obtain ⟨f, e, K1⟩ := c_fail T K.1 K.2.1.2.2.1 hn
  rw [e]
  exact ⟨0, f, rfl, Or.inr ⟨rfl, _, hR, K1⟩⟩
theorem LO.b {R : RS (DD × Nat)} {F : Option (Int32 × MH)} (H : LO B L p h0 R F) : LO B L p h0 R (bd2 F fun v h => rB v h) := by
  obtain ⟨v, h', e, hv⟩ := H
  rw [e]
  refine ⟨v, h', ?_, hv⟩
  rcases hv with hv | hv
  · rw [hv.1]; rfl
  · rw [hv.1]; rfl
/-- is the place for such lines full -/
theorem c_full (T : tBy B L p h0) (V : WI D) (K : KC B L p h0 (xD D.1) D q h) {k : Nat} (hk : k ≤ 7) : fX8_isFull h 3 (Int32.ofNat k) = some (if fuN D.1 k = true then 1 else 0, h) := by
  obtain ⟨⟨a0, a1, a2, a3, a4, a5, a7, a8⟩, _⟩ := V
  have q1 : gI h (42 - p) 7 13 = some (Int32.ofNat (D.1 1)) := gCt T K 1 13 (by omega) rfl
  have q2 : gI h (42 - p) 7 14 = some (Int32.ofNat (D.1 2)) := gCt T K 2 14 (by omega) rfl
  have q3 : gI h (42 - p) 7 15 = some (Int32.ofNat (D.1 3)) := gCt T K 3 15 (by omega) rfl
  have q4 : gI h (42 - p) 7 16 = some (Int32.ofNat (D.1 4)) := gCt T K 4 16 (by omega) rfl
  have q5 : gI h (42 - p) 7 17 = some (Int32.ofNat (D.1 5)) := gCt T K 5 17 (by omega) rfl
  have q7 : gI h (42 - p) 7 19 = some (Int32.ofNat (D.1 7)) := gCt T K 7 19 (by omega) rfl
  have l1 : (Int32.ofNat (D.1 1) < 5) ↔ D.1 1 < 5 := k_lt (n := 5) (by omega) (by decide)
  have l2 : (Int32.ofNat (D.1 2) < 5) ↔ D.1 2 < 5 := k_lt (n := 5) (by omega) (by decide)
  have l3 : (Int32.ofNat (D.1 3) < 4) ↔ D.1 3 < 4 := k_lt (n := 4) (by omega) (by decide)
  have l4 : (Int32.ofNat (D.1 4) < 10) ↔ D.1 4 < 10 := k_lt (n := 10) (by omega) (by decide)
  have l5 : (Int32.ofNat (D.1 5) < 3) ↔ D.1 5 < 3 := k_lt (n := 3) (by omega) (by decide)
  have l7 : (Int32.ofNat (D.1 7) < 4) ↔ D.1 7 < 4 := k_lt (n := 4) (by omega) (by decide)
  have fin : ∀ (A : Prop) [Decidable A], (fuN D.1 k = true ↔ ¬ A) → (if A then some ((0 : Int32), h) else some (1, h)) = some (if fuN D.1 k = true then 1 else 0, h) := fun A _ hA => by
    by_cases z : A
    · rw [if_pos z, if_neg (fun x => hA.mp x z)]
    · rw [if_neg z, if_pos (hA.mpr z)]
  have fu : fuN D.1 k = true ↔ ((k = 1 ∧ 5 ≤ D.1 1) ∨ (k = 2 ∧ 5 ≤ D.1 2) ∨ (k = 3 ∧ 4 ≤ D.1 3) ∨ (k = 4 ∧ 10 ≤ D.1 4) ∨ (k = 5 ∧ 3 ≤ D.1 5) ∨ (k = 7 ∧ 4 ≤ D.1 7)) := decide_eq_true_iff
  rcases (show k = 0 ∨ k = 1 ∨ k = 2 ∨ k = 3 ∨ k = 4 ∨ k = 5 ∨ k = 6 ∨ k = 7 by omega) with rfl | rfl | rfl | rfl | rfl | rfl | rfl | rfl
  · rw [if_neg (fun x => by have := fu.mp x; omega)]; rfl
  · show bd (gR h 3 8 9) _ = _
    simp only [g39 T K.1, q1, bd_some]
    exact fin _ (by rw [fu, l1]; omega)
  · show bd (gR h 3 8 9) _ = _
    simp only [g39 T K.1, q2, bd_some]
    exact fin _ (by rw [fu, l2]; omega)
  · show bd (gR h 3 8 9) _ = _
    simp only [g39 T K.1, q3, bd_some]
    exact fin _ (by rw [fu, l3]; omega)
  · show bd (gR h 3 8 9) _ = _
    simp only [g39 T K.1, q4, bd_some]
    exact fin _ (by rw [fu, l4]; omega)
  · show bd (gR h 3 8 9) _ = _
    simp only [g39 T K.1, q5, bd_some]
    exact fin _ (by rw [fu, l5]; omega)
  · rw [if_neg (fun x => by have := fu.mp x; omega)]; rfl
  · show bd (gR h 3 8 9) _ = _
    simp only [g39 T K.1, q7, bd_some]
    exact fin _ (by rw [fu, l7]; omega)
theorem c_ln (T : tBy B L p h0) (W : RW h0.2.1) (V : WI D) (K : KC B L p h0 (xD D.1) D q h) : LO B L p h0 (pLn B L D q) (fX8_readLine h 3) := by
  have c := c_ch4 T W K
  have V1 := V.wd
  have a8 := V.1.2.2.2.2.2.2.2
  have VC := V.1
  have VL := V.2.1
  have g11 : gI h 3 8 11 = some (Int32.ofNat (D.1 8)) := by rw [gI_at (r3 T K.1), K.2.2.2.1]
  cases z : ix nT4 (tWd B L q) with
  | none =>
    rw [z] at c
    have st : fX8_readLine h 3 = bd2 (fX8_fail h 3 (Int32.ofNat 1)) fun v h => rB v h := by
      simp only [fX8_readLine, g30 T K.1, g31 T K.1, ck_at (r1 T K.1), c, oN, if_pos (show (-1 : Int32) < 0 by decide), ck_at (r3 T K.1), bd_some, bd2_some]
      rfl
    rw [st]
    exact LO.f T K (by omega) (by unfold pLn; rw [z])
  | some k =>
    have hk : k < 9 := (ix_lt _ _ _ z).1
    rw [z] at c
    have c7 : (Int32.ofNat k ≤ 7) ↔ k ≤ 7 := k_le (n := 7) (by omega) (by decide)
    have c0 := kz (i := k) (by omega)
    have c8 := kz (i := D.1 8) (by omega)
    have ep : pLn B L D q = (if 7 < k then .inl (1, tFr B L q) else if k = 0 then (if D.1 8 = 0 then lOf B L D (tTo B L q) else .inl (3, tFr B L q)) else if D.1 8 = 0 then .inl (6, tFr B L q) else if fuN D.1 k = true then .inl (5, tFr B L q) else
    if k = 1 then lMa B L D (tTo B L q) else if k = 2 then lPa B L D (tTo B L q) else if k = 3 then lSt B L D (tTo B L q) else if k = 4 then lRu B L D (tTo B L q) else if k = 5 then lHa B L D (tTo B L q) else if k = 6 then lWa B L D (tTo B L q) else lPr B L D (tTo B L q)) := by
      unfold pLn; rw [z]
    rw [ep]
    have e0 : fX8_readLine h 3 = (if Int32.ofNat k ≤ 7 then (if Int32.ofNat k = 0 then (if D.1 8 = 0 then (bX8_readLine_45 h 3 (Int32.ofNat k)) else (bd2 (fX8_fail h 3 3) fun v7 h2 => rB v7 h2)) else (bX8_readLine_45 h 3 (Int32.ofNat k))) else (bd2 (fX8_fail h 3 1) fun v6 h2 => rB v6 h2)) := by
      simp only [fX8_readLine, g30 T K.1, g31 T K.1, ck_at (r1 T K.1), c, oN, if_neg (k_neg (show k < 2147483648 by omega)), ck_at (r3 T K.1), g11, c8, bd_some, bd2_some]
    rw [e0]
    by_cases k7 : 7 < k
    · rw [if_pos k7, if_neg (fun x => by have := c7.mp x; omega)]
      exact LO.f T K (n := 1) (by omega) rfl
    · rw [if_neg k7, if_pos (c7.mpr (by omega))]
      obtain ⟨h2, e2, K2⟩ := c_adv T K
      have fl := c_full T V K (k := k) (by omega)
      by_cases k0 : k = 0
      · rw [if_pos k0, if_pos (c0.mpr k0)]
        by_cases h8 : D.1 8 = 0
        · rw [if_pos h8, if_pos h8]
          subst k0
          have st : bX8_readLine_45 h 3 (Int32.ofNat 0) = bd2 (fX8_readOffice h2 3) fun v h => rB v h := by
            have fl' : fX8_isFull h 3 0 = some (0, h) := fl
            show (if (0 : Int32) = 0 then bX8_readLine_63 h 3 0 else _) = _
            rw [if_pos rfl]
            simp only [bX8_readLine_63, ck_at (r3 T K.1), fl', if_true, g30 T K.1, ck_at (r1 T K.1), e2, ck_at (r3 T K2.1), bd_some, bd2_some]
          rw [st]
          exact (c_lOf T W K2).b
        · rw [if_neg h8, if_neg h8]
          exact LO.f T K (n := 3) (by omega) rfl
      · rw [if_neg k0, if_neg (fun x => k0 (c0.mp x))]
        by_cases h8 : D.1 8 = 0
        · rw [if_pos h8]
          have st : bX8_readLine_45 h 3 (Int32.ofNat k) = bd2 (fX8_fail h 3 (Int32.ofNat 6)) fun v h => rB v h := by
            simp only [bX8_readLine_45, if_neg (fun x => k0 (c0.mp x)), g11, if_pos (c8.mpr h8), ck_at (r3 T K.1), bd_some]
            rfl
          rw [st]
          exact LO.f T K (by omega) rfl
        · rw [if_neg h8]
          have st : bX8_readLine_45 h 3 (Int32.ofNat k) = bX8_readLine_63 h 3 (Int32.ofNat k) := by
            simp only [bX8_readLine_45, if_neg (fun x => k0 (c0.mp x)), g11, if_neg (fun x => h8 (c8.mp x)), bd_some]
          rw [st]
          by_cases hf : fuN D.1 k = true
          · rw [if_pos hf]
            rw [if_pos hf] at fl
            have st2 : bX8_readLine_63 h 3 (Int32.ofNat k) = bd2 (fX8_fail h 3 (Int32.ofNat 5)) fun v h => rB v h := by
              simp only [bX8_readLine_63, ck_at (r3 T K.1), fl, i10, if_false, bd_some, bd2_some]
              rfl
            rw [st2]
            exact LO.f T K (by omega) rfl
          · rw [if_neg hf]
            rw [if_neg hf] at fl
            have hf' : ¬ ((k = 1 ∧ 5 ≤ D.1 1) ∨ (k = 2 ∧ 5 ≤ D.1 2) ∨ (k = 3 ∧ 4 ≤ D.1 3) ∨ (k = 4 ∧ 10 ≤ D.1 4) ∨ (k = 5 ∧ 3 ≤ D.1 5) ∨ (k = 7 ∧ 4 ≤ D.1 7)) := fun x => hf (decide_eq_true x)
            obtain ⟨b0, b1, b2, b3, b4, b5, b7, b8⟩ := VC
            have s3 := r3 T K.1
            have s32 := r3 T K2.1
            rcases (show k = 1 ∨ k = 2 ∨ k = 3 ∨ k = 4 ∨ k = 5 ∨ k = 6 ∨ k = 7 by omega) with rfl | rfl | rfl | rfl | rfl | rfl | rfl
            · have fl' : fX8_isFull h 3 1 = some (0, h) := fl
              have st2 : bX8_readLine_63 h 3 (Int32.ofNat 1) = bd2 (fX8_readMark h2 3) fun v h => rB v h := by
                show bX8_readLine_63 h 3 1 = _
                simp only [bX8_readLine_63, ck_at s3, fl', if_true, g30 T K.1, ck_at (r1 T K.1), e2, ck_at s32, bd_some, bd2_some]
                rfl
              rw [st2]
              exact (c_lMa T W V1 (by omega) K2).b
            · have fl' : fX8_isFull h 3 2 = some (0, h) := fl
              have st2 : bX8_readLine_63 h 3 (Int32.ofNat 2) = bd2 (fX8_readPaper h2 3) fun v h => rB v h := by
                show bX8_readLine_63 h 3 2 = _
                simp only [bX8_readLine_63, ck_at s3, fl', if_true, g30 T K.1, ck_at (r1 T K.1), e2, ck_at s32, bd_some, bd2_some]
                rfl
              rw [st2]
              exact (c_lPa T W V1 (by omega) (by omega) K2).b
            · have fl' : fX8_isFull h 3 3 = some (0, h) := fl
              have st2 : bX8_readLine_63 h 3 (Int32.ofNat 3) = bd2 (fX8_readStamp h2 3) fun v h => rB v h := by
                show bX8_readLine_63 h 3 3 = _
                simp only [bX8_readLine_63, ck_at s3, fl', if_true, g30 T K.1, ck_at (r1 T K.1), e2, ck_at s32, bd_some, bd2_some]
                rfl
              rw [st2]
              exact (c_lSt T W V1 (by omega) (by omega) K2).b
            · have fl' : fX8_isFull h 3 4 = some (0, h) := fl
              have st2 : bX8_readLine_63 h 3 (Int32.ofNat 4) = bd2 (fX8_readRule h2 3) fun v h => rB v h := by
                show bX8_readLine_63 h 3 4 = _
                simp only [bX8_readLine_63, ck_at s3, fl', if_true, g30 T K.1, ck_at (r1 T K.1), e2, ck_at s32, bd_some, bd2_some]
                rfl
              rw [st2]
              exact (c_lRu T W V1 (by omega) K2).b
            · have fl' : fX8_isFull h 3 5 = some (0, h) := fl
              have st2 : bX8_readLine_63 h 3 (Int32.ofNat 5) = bd2 (fX8_readHand h2 3) fun v h => rB v h := by
                show bX8_readLine_63 h 3 5 = _
                simp only [bX8_readLine_63, ck_at s3, fl', if_true, g30 T K.1, ck_at (r1 T K.1), e2, ck_at s32, bd_some, bd2_some]
                rfl
              rw [st2]
              exact (c_lHa T W V1 (by omega) (by omega) K2).b
            · have fl' : fX8_isFull h 3 6 = some (0, h) := fl
              have st2 : bX8_readLine_63 h 3 (Int32.ofNat 6) = bd2 (fX8_readWant h2 3) fun v h => rB v h := by
                show bX8_readLine_63 h 3 6 = _
                simp only [bX8_readLine_63, ck_at s3, fl', if_true, g30 T K.1, ck_at (r1 T K.1), e2, ck_at s32, bd_some, bd2_some]
                rfl
              rw [st2]
              exact (c_lWa T W V1 (fun j e => by have := i_OldW V e; omega) K2).b
            · have fl' : fX8_isFull h 3 7 = some (0, h) := fl
              have st2 : bX8_readLine_63 h 3 (Int32.ofNat 7) = bd2 (fX8_readPrint h2 3) fun v h => rB v h := by
                show bX8_readLine_63 h 3 7 = _
                simp only [bX8_readLine_63, ck_at s3, fl', if_true, g30 T K.1, ck_at (r1 T K.1), e2, ck_at s32, bd_some, bd2_some]
                rfl
              rw [st2]
              exact (c_lPr T W V1 (by omega) K2).b
theorem c_tx (T : tBy B L p h0) (W : RW h0.2.1) : ∀ (m x q n : Nat) (D : DD) (h : MH), L < q + m → x ≤ q → WI D → KC B L p h0 (xD D.1) D q h → ∃ v h', fX8_readText_44 (n + m + 1) h 3 (Int32.ofNat x) = some (v, h') ∧ ((v = 1 ∧ ∃ D' q', pTx B L m D q = .inr D' ∧ WI D' ∧ 1 ≤ D'.1 2 ∧ KC B L p h0 (xD D'.1) D' q' h') ∨ (v = 0 ∧ ∃ e, pTx B L m D q = .inl e ∧ KF p h0 e h'))
  | 0, x, q, n, D, h, hm, hx, V, K => by have := K.2.1.1; omega
  | m + 1, x, q, n, D, h, hm, hx, V, K => by
    have hL := T.2.1
    have hq := K.2.1.1
    have c9 : ((900 : Int32) < Int32.ofNat x) ↔ 900 < x := k_lt (i := 900) (by decide) (by omega)
    obtain ⟨v1, h1, e1, hv1⟩ := c_ln T W V K
    rcases hv1 with ⟨rfl, r, a1, K1⟩ | ⟨rfl, y, a1, a2⟩
    · obtain ⟨V1, q1, q2⟩ := i_Ln T.2.2.1 hq V a1
      have g3 : gI h1 1 10 3 = some (Int32.ofNat (tSo B L r.2)) := by rw [gI_at (r1 T K1.1), K1.2.1.2.2.2.1]
      have c0 : (Int32.ofNat (tSo B L r.2) = 0) ↔ tSo B L r.2 = 0 := k2 (i := 0) (tSo_5 T.2.2.1) (by omega)
      have c3 : (Int32.ofNat (tSo B L r.2) = 3) ↔ tSo B L r.2 = 3 := k2 (i := 3) (tSo_5 T.2.2.1) (by omega)
      have g14 : gI h1 (42 - p) 7 14 = some (Int32.ofNat (r.1.1 2)) := gCt T K1 2 14 (by omega) rfl
      have cp : (Int32.ofNat (r.1.1 2) = 0) ↔ r.1.1 2 = 0 := kz (by have := V1.1.2.2.1; omega)
      have st : ∀ R, (if tSo B L r.2 = 0 then (if r.1.1 2 = 0 then .inl (6, tFr B L r.2) else .inr r.1) else if tSo B L r.2 = 3 then pTx B L m r.1 (tTo B L r.2) else .inl (1, tFr B L r.2)) = R → pTx B L (m + 1) D q = R := fun R hR => by
        unfold pTx; rw [bS_r a1]; exact hR
      by_cases z0 : tSo B L r.2 = 0
      · by_cases zp : r.1.1 2 = 0
        · obtain ⟨f, e, Kf⟩ := c_fail T K1.1 K1.2.1.2.2.1 (n := 6) (by omega)
          have e' : fX8_fail h1 3 6 = some (0, f) := e
          refine ⟨0, f, ?_, Or.inr ⟨rfl, _, st _ (by rw [if_pos z0, if_pos zp]), Kf⟩⟩
          show bX8_readText_44 _ h 3 (Int32.ofNat x) = _
          simp only [bX8_readText_44, c9, if_neg (show ¬ 900 < x by omega), ck_at (r3 T K.1), e1, i10, if_false, g30 T K1.1, g3, if_pos (c0.mpr z0), bX8_readText_98, g12 T K1, if_true, g39 T K1.1, g14, if_pos (cp.mpr zp), ck_at (r3 T K1.1), e', rB0, bd_some, bd2_some]
        · refine ⟨1, h1, ?_, Or.inl ⟨rfl, r.1, r.2, st _ (by rw [if_pos z0, if_neg zp]), V1, by omega, K1⟩⟩
          show bX8_readText_44 _ h 3 (Int32.ofNat x) = _
          simp only [bX8_readText_44, c9, if_neg (show ¬ 900 < x by omega), ck_at (r3 T K.1), e1, i10, if_false, g30 T K1.1, g3, if_pos (c0.mpr z0), bX8_readText_98, g12 T K1, if_true, g39 T K1.1, g14, if_neg (fun x => zp (cp.mp x)), bX8_readText_122, bd_some, bd2_some]
      · by_cases z3 : tSo B L r.2 = 3
        · obtain ⟨h2, e2, K2⟩ := c_adv T K1
          have tt := tT (B := B) T.2.2.1 q2
          obtain ⟨v', h', e', hv'⟩ := c_tx T W m (x + 1) (tTo B L r.2) n r.1 h2 (by omega) (by omega) V1 K2
          refine ⟨v', h', ?_, ?_⟩
          · show bX8_readText_44 (fX8_readText_44 (n + m + 1)) h 3 (Int32.ofNat x) = _
            simp only [bX8_readText_44, c9, if_neg (show ¬ 900 < x by omega), ck_at (r3 T K.1), e1, i10, if_false, g30 T K1.1, g3, if_neg (fun x => z0 (c0.mp x)), if_pos (c3.mpr z3), ck_at (r1 T K1.1), e2, k_succ, e', bd_some, bd2_some]
          · have se : pTx B L (m + 1) D q = pTx B L m r.1 (tTo B L r.2) := st _ (by rw [if_neg z0, if_pos z3])
            rw [se]; exact hv'
        · obtain ⟨f, e, Kf⟩ := c_fail T K1.1 K1.2.1.2.2.1 (n := 1) (by omega)
          have e' : fX8_fail h1 3 1 = some (0, f) := e
          refine ⟨0, f, ?_, Or.inr ⟨rfl, _, st _ (by rw [if_neg z0, if_neg z3]), Kf⟩⟩
          show bX8_readText_44 _ h 3 (Int32.ofNat x) = _
          simp only [bX8_readText_44, c9, if_neg (show ¬ 900 < x by omega), ck_at (r3 T K.1), e1, i10, if_false, g30 T K1.1, g3, if_neg (fun x => z0 (c0.mp x)), if_neg (fun x => z3 (c3.mp x)), ck_at (r3 T K1.1), e', rB0, bd_some, bd2_some]
    · refine ⟨0, h1, ?_, Or.inr ⟨rfl, y, by unfold pTx; rw [bS_l a1], a2⟩⟩
      show bX8_readText_44 _ h 3 (Int32.ofNat x) = _
      simp only [bX8_readText_44, c9, if_neg (show ¬ 900 < x by omega), ck_at (r3 T K.1), e1, if_true, bX8_readText_98, bX8_readText_122, f12 T a2, if_neg (f12n a2), bd_some, bd2_some]
end TXT
