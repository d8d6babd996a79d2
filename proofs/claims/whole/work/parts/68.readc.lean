/-! ===== READING: the class's pieces ===== -/
section KCP
variable {p : Nat} {h h0 h' : MH} {B : Nat → Int32} {L q : Nat} {X : Nat → Nat → Prop} {D : DD}
theorem oN_eq {o : Option Nat} {i : Nat} (ho : ∀ j, o = some j → j < 1000) (hi : i < 1000) : (oN o = Int32.ofNat i) ↔ o = some i := by
  cases o with
  | none =>
    refine ⟨fun e => ?_, fun e => by cases e⟩
    exact absurd (show (-1 : Int32) < 0 by decide) (by rw [show (-1 : Int32) = Int32.ofNat i from e]; exact k_neg (by omega))
  | some j =>
    have := ho j rfl
    exact (k_eq (by omega) (by omega)).trans ⟨fun e => by rw [e], fun e => by cases e; rfl⟩
theorem oN_nn {o : Option Nat} (ho : ∀ j, o = some j → j < 1000) : (0 ≤ oN o) ↔ o ≠ none := by
  cases o with
  | none => exact ⟨fun e => absurd e (by decide), fun e => absurd rfl e⟩
  | some j =>
    have := ho j rfl
    exact ⟨fun _ e => (by cases e), fun _ => (k_le (i := 0) (n := j) (by decide) (by omega)).mpr (Nat.zero_le _)⟩
theorem oN_lt {o : Option Nat} (ho : ∀ j, o = some j → j < 1000) : (oN o < 0) ↔ o = none := by
  cases o with
  | none => exact ⟨fun _ => rfl, fun _ => by decide⟩
  | some j =>
    have := ho j rfl
    exact ⟨fun e => absurd e (k_neg (by omega)), fun e => by cases e⟩
theorem ix_b {l : List Nat} (hl : l.length < 1000) {w : Nat} : ∀ j, ix l w = some j → j < 1000 := fun j e => by have := (ix_lt l w j e).1; omega
theorem ix5 {i w : Nat} (hi : nT5[i]? = some w) (v : Nat) : ix nT5 v = some i ↔ v = w := by
  constructor
  · intro e
    have := (ix_lt _ _ _ e).2
    rw [hi] at this; cases this; rfl
  · rintro rfl
    have hl : i < 5 := (List.getElem?_eq_some_iff.mp hi).1
    have : ∀ j, j < 5 → ix nT5 (nT5.getD j 0) = some j := by decide
    have t := this i hl
    rw [List.getD_eq_getElem?_getD, hi] at t
    exact t
theorem c_filler {i w : Nat} (T : tBy B L p h0) (W : RW h0.2.1) (K : KC B L p h0 X D q h) (hi : nT5[i]? = some w) : ∃ v h', fX8_takeFiller h 3 (Int32.ofNat i) = some (v, h') ∧ ((v = 1 ∧ ∃ q', pFl B L w q = .inr q' ∧ KC B L p h0 X D q' h') ∨ (v = 0 ∧ ∃ e, pFl B L w q = .inl e ∧ KF p h0 e h')) := by
  have S := KC.cs T K.1
  have s3 := S.sh 3 (w := (8, 0)) rfl
  have s1 := S.sh 1 (w := (10, 0)) rfl
  have g0 : gR h 3 8 0 = some 1 := gR_at s3 (S.rf 2 rfl rfl)
  have g2 : gR h 3 8 2 = some 5 := gR_at s3 (S.rf 2 rfl rfl)
  have c := c_ch5 T W K
  have hl : i < 5 := (List.getElem?_eq_some_iff.mp hi).1
  have c2 := (oN_eq (i := i) (ix_b (l := nT5) (w := tWd B L q) (by decide)) (by omega)).trans (ix5 hi _)
  by_cases z : tWd B L q = w
  · obtain ⟨h', e, K'⟩ := c_adv T K
    refine ⟨1, h', ?_, Or.inl ⟨rfl, _, if_pos z, K'⟩⟩
    simp only [fX8_takeFiller, g0, g2, ck_at s1, c, bd_some, bd2_some, if_pos (c2.mpr z), e]
  · obtain ⟨h', e, K'⟩ := c_fail T K.1 K.2.1.2.2.1 (n := 1) (by omega)
    have e' : fX8_fail h 3 1 = some (0, h') := e
    refine ⟨0, h', ?_, Or.inr ⟨rfl, _, if_neg z, K'⟩⟩
    simp only [fX8_takeFiller, g0, g2, ck_at s1, ck_at s3, c, bd_some, bd2_some, if_neg (fun x => z (c2.mp x)), e', rB0]
theorem c_take {a : Nat} {l : List Nat} (T : tBy B L p h0) (K : KC B L p h0 X D q h) (hl : l.length < 1000) (c : fX10_choice h 1 a = some (oN (ix l (tWd B L q)), h)) : ∃ v h', fX8_takeChoice h 3 a = some (v, h') ∧ ((∃ i q', pCh B L l q = .inr (i, q') ∧ v = Int32.ofNat i ∧ KC B L p h0 X D q' h') ∨ (∃ e, pCh B L l q = .inl e ∧ KF p h0 e h')) := by
  have S := KC.cs T K.1
  have s3 := S.sh 3 (w := (8, 0)) rfl
  have s1 := S.sh 1 (w := (10, 0)) rfl
  have g0 : gR h 3 8 0 = some 1 := gR_at s3 (S.rf 2 rfl rfl)
  have c2 := oN_nn (ix_b (w := tWd B L q) hl)
  cases z : ix l (tWd B L q) with
  | some i =>
    obtain ⟨h', e, K'⟩ := c_adv T K
    rw [z] at c c2
    refine ⟨Int32.ofNat i, h', ?_, Or.inl ⟨i, _, by unfold pCh; rw [z], rfl, K'⟩⟩
    simp only [fX8_takeChoice, g0, ck_at s1, c, bd_some, bd2_some, if_pos (c2.mpr (fun x => by cases x)), e]; rfl
  | none =>
    obtain ⟨h', e, K'⟩ := c_fail T K.1 K.2.1.2.2.1 (n := 1) (by omega)
    have e' : fX8_fail h 3 1 = some (0, h') := e
    rw [z] at c c2
    refine ⟨-1, h', ?_, Or.inr ⟨_, by unfold pCh; rw [z], K'⟩⟩
    simp only [fX8_takeChoice, g0, ck_at s1, ck_at s3, c, bd_some, bd2_some, if_neg (fun x => (c2.mp x) rfl), e']
theorem tVl_ok (T : tBy B L p h0) (K : KC B L p h0 X D q h) (hs : tSo B L q = 2) : fX10_value h 1 = some (Int32.ofNat (tVl B L q), h) := by
  obtain ⟨F, ⟨k1, k2, k3, k4, k5, k6⟩, k7⟩ := K
  have s1 := (KC.cs T F).sh 1 (w := (10, 0)) rfl
  obtain ⟨o1, o2, o3⟩ := tTo_le (B := B) k1 T.2.2.1
  have hL := T.2.1
  have hc : tCl B L q = 2 := by
    unfold tSo at hs
    split at hs
    · omega
    · split at hs
      · omega
      · exact hs
  obtain ⟨n, hn⟩ := FU_at (tTo B L q - tFr B L q) (by omega)
  have := c_valL (KC.ty T F) (h := h) (f := tFr B L q) (s := tSo B L q) (t := tTo B L q) (w := h.2.1 1 6) ⟨rfl, fun _ _ _ => rfl, fun _ _ _ => rfl, k3, k4, k5, rfl⟩ o2 (tTo B L q - tFr B L q) (tFr B L q) n 0 (by omega) (fun j h1 h2 => tTo_in T.2.2.1 (Or.inr rfl) hc h1 h2)
  simp only [fX10_value, gI_at s1, k3, bd_some]
  rw [hn]; exact this
theorem vlN_lt : ∀ m k y b, (∀ j, k ≤ j → j < k + m → dgN (B j) < 10) → y < 10 ^ b → vlN B m k y < 10 ^ (b + m)
  | 0, k, y, b, hd, hy => hy
  | m + 1, k, y, b, hd, hy => by
    have := vlN_lt m (k + 1) (10 * y + dgN (B k)) (b + 1) (fun j h1 h2 => hd j (by omega) (by omega)) (by have := hd k (by omega) (by omega); rw [Nat.pow_succ]; omega)
    rw [show b + (m + 1) = b + 1 + m by omega]
    exact this
theorem tVl_lt (hb : ∀ k, bR (B k)) (hq : q ≤ L) (hs : tSo B L q = 2) : tVl B L q < 1000 := by
  have hc : tCl B L q = 2 ∧ tTo B L q - tFr B L q ≤ 3 := by
    unfold tSo at hs
    split at hs
    · omega
    · split at hs
      · omega
      · omega
  have hl : ∀ j, tFr B L q ≤ j → j < tFr B L q + (tTo B L q - tFr B L q) → dgN (B j) < 10 := fun j h1 h2 => (cls_dg (hb j) (tTo_in hb (Or.inr rfl) hc.1 h1 (by omega))).2.2
  have := vlN_lt (B := B) (tTo B L q - tFr B L q) (tFr B L q) 0 0 hl (by decide)
  have h2 : 10 ^ (0 + (tTo B L q - tFr B L q)) ≤ 10 ^ 3 := Nat.pow_le_pow_right (by decide) (by omega)
  have h3 : (10 : Nat) ^ 3 = 1000 := by decide
  unfold tVl
  omega
theorem k2 {s : Nat} (hs : s ≤ 5) {i : Nat} (hi : i < 1000) : (Int32.ofNat s = Int32.ofNat i) ↔ s = i := k_eq (by omega) (by omega)
theorem tSo_5 (hb : ∀ k, bR (B k)) : tSo B L q ≤ 5 := by
  have : tCl B L q ≤ 5 := by
    unfold tCl
    split
    · exact (cls_ub (hb _)).2.2.2.2.2.2.2
    · omega
  unfold tSo
  split
  · omega
  · split
    · omega
    · exact this
theorem c_whole {mx : Nat} (T : tBy B L p h0) (K : KC B L p h0 X D q h) (hm : mx < 1000) : ∃ v h', fX8_takeWhole h 3 (Int32.ofNat mx) = some (v, h') ∧ ((∃ i q', pWh B L mx q = .inr (i, q') ∧ v = Int32.ofNat i ∧ KC B L p h0 X D q' h') ∨ (v = 0 ∧ ∃ e, pWh B L mx q = .inl e ∧ KF p h0 e h')) := by
  have S := KC.cs T K.1
  have s3 := S.sh 3 (w := (8, 0)) rfl
  have s1 := S.sh 1 (w := (10, 0)) rfl
  have g0 : gR h 3 8 0 = some 1 := gR_at s3 (S.rf 2 rfl rfl)
  have g3 : gI h 1 10 3 = some (Int32.ofNat (tSo B L q)) := by rw [gI_at s1, K.2.1.2.2.2.1]
  have c2 : (Int32.ofNat (tSo B L q) = 2) ↔ tSo B L q = 2 := k2 (i := 2) (tSo_5 T.2.2.1) (by omega)
  by_cases z : tSo B L q = 2
  · have va := tVl_ok T K z
    have vl := tVl_lt T.2.2.1 K.2.1.1 z
    have c3 := k_le (i := tVl B L q) (n := mx) (by omega) (by omega)
    by_cases z2 : tVl B L q ≤ mx
    · obtain ⟨h', e, K'⟩ := c_adv T K
      refine ⟨_, h', ?_, Or.inl ⟨tVl B L q, _, by unfold pWh; rw [if_pos z, if_pos z2], rfl, K'⟩⟩
      simp only [fX8_takeWhole, g0, g3, ck_at s1, bd_some, bd2_some, if_pos (c2.mpr z), va, if_pos (c3.mpr z2), e]
    · obtain ⟨h', e, K'⟩ := c_fail T K.1 K.2.1.2.2.1 (n := 4) (by omega)
      have e' : fX8_fail h 3 4 = some (0, h') := e
      refine ⟨0, h', ?_, Or.inr ⟨rfl, _, by unfold pWh; rw [if_pos z, if_neg z2], K'⟩⟩
      simp only [fX8_takeWhole, g0, g3, ck_at s1, ck_at s3, bd_some, bd2_some, if_pos (c2.mpr z), va, if_neg (fun x => z2 (c3.mp x)), e']
  · obtain ⟨h', e, K'⟩ := c_fail T K.1 K.2.1.2.2.1 (n := 1) (by omega)
    have e' : fX8_fail h 3 1 = some (0, h') := e
    refine ⟨0, h', ?_, Or.inr ⟨rfl, _, by unfold pWh; rw [if_neg z], K'⟩⟩
    simp only [fX8_takeWhole, g0, g3, ck_at s1, ck_at s3, bd_some, bd2_some, if_neg (fun x => z (c2.mp x)), e']
/-! names -/
theorem c_fn2 {n w : Nat} (s3 : h.2.2.2[3]? = some (8, 0)) (s1 : h.2.2.2[1]? = some (10, 0)) (s10 : h.2.2.2[10]? = some (16, 17)) (g0 : gR h 3 8 0 = some 1) (g6 : gR h 3 8 6 = some 10) (hn : n ≤ 17) (h10 : h.1 3 10 = Int32.ofNat n) (hw : h.2.1 1 6 = Int64.ofNat w) (hw2 : w < 9223372036854775808) : ∀ (l : NT) (k m : Nat), k + l.length = n → (∀ (i : Nat) (e : Nat × Nat × Nat), l[i]? = some e → h.2.1 10 (k + i) = Int64.ofNat e.1 ∧ e.1 < 9223372036854775808) →
    ∃ r, fX8_findName_2 (m + l.length + 1) h 3 (Int32.ofNat k) = some (r, h) ∧ ((fd l w = none ∧ r = -1) ∨ ∃ i e, l[i]? = some e ∧ fd l w = some e ∧ r = Int32.ofNat (k + i))
  | [], k, m, e, hv => by
    simp only [List.length_nil] at e
    refine ⟨-1, ?_, Or.inl ⟨rfl, rfl⟩⟩
    have c1 := k_le (i := n) (n := k) (by omega) (by omega)
    show bX8_findName_2 _ h 3 (Int32.ofNat k) = _
    simp only [bX8_findName_2, gI_at s3, h10, bd_some, c1, if_pos (show n ≤ k by omega)]
  | x :: l, k, m, e, hv => by
    simp only [List.length_cons] at e
    have c1 := k_le (i := n) (n := k) (by omega) (by omega)
    have v0 := hv 0 x rfl
    have l1 : lJ h 10 (Int32.ofNat k) = some (Int64.ofNat x.1) := by rw [lJ_at s10 (by omega) (by omega), show k = k + 0 from rfl, v0.1]
    obtain ⟨r, e1, hr⟩ := c_fn2 s3 s1 s10 g0 g6 hn h10 hw hw2 l (k + 1) m (by omega) (fun i y hi => by rw [show k + 1 + i = k + (i + 1) by omega]; exact hv (i + 1) y hi)
    have st : fX8_findName_2 (m + (x :: l).length + 1) h 3 (Int32.ofNat k) = if x.1 = w then some (Int32.ofNat k, h) else some (r, h) := by
      show bX8_findName_2 (fX8_findName_2 (m + l.length + 1)) h 3 (Int32.ofNat k) = _
      simp only [bX8_findName_2, gI_at s3, h10, bd_some, c1, if_neg (show ¬ n ≤ k by omega), g6, l1, g0, gJ_at s1, hw, lgE, j_eqN v0.2 hw2, k_succ, e1]
    rw [st]
    by_cases z : x.1 = w
    · refine ⟨_, if_pos z, Or.inr ⟨0, x, rfl, if_pos z, rfl⟩⟩
    · refine ⟨r, if_neg z, ?_⟩
      have ef : fd (x :: l) w = fd l w := if_neg z
      rw [ef]
      rcases hr with hr | ⟨i, y, r1, r2, r3⟩
      · exact Or.inl hr
      · exact Or.inr ⟨i + 1, y, r1, r2, by rw [r3, show k + 1 + i = k + (i + 1) by omega]⟩
theorem c_find (T : tBy B L p h0) (K : KC B L p h0 X D q h) (V : WD D) : ∃ r, fX8_findName h 3 = some (r, h) ∧ ((fd D.2.2.2 (tWd B L q) = none ∧ r = -1) ∨ ∃ i e, D.2.2.2[i]? = some e ∧ fd D.2.2.2 (tWd B L q) = some e ∧ r = Int32.ofNat i) := by
  have S := KC.cs T K.1
  have s3 := S.sh 3 (w := (8, 0)) rfl
  have w1 := tWd_lt (B := B) (q := q) T.2.2.1 K.2.1.1
  have hv := V.1
  obtain ⟨m, hm⟩ := FU_at D.2.2.2.length (by omega)
  obtain ⟨r, e, hr⟩ := c_fn2 s3 (S.sh 1 rfl) (S.sh 10 rfl) (gR_at s3 (S.rf 2 rfl rfl)) (gR_at s3 (S.rf 2 rfl rfl)) V.1 K.2.2.1 K.2.1.2.2.2.2.2 (by omega) D.2.2.2 0 m (by omega) (fun i e hi => by rw [Nat.zero_add]; exact ⟨(K.2.2.2.2.2.1 i e hi).1, by have := (V.2 i e hi).1; omega⟩)
  refine ⟨r, by unfold fX8_findName; rw [hm]; exact e, ?_⟩
  rcases hr with hr | ⟨i, y, r1, r2, r3⟩
  · exact Or.inl hr
  · exact Or.inr ⟨i, y, r1, r2, by rw [r3, Nat.zero_add]⟩
theorem c_old {s : Nat} (T : tBy B L p h0) (W : RW h0.2.1) (K : KC B L p h0 X D q h) (V : WD D) (hs : s < 6) : ∃ v h', fX8_findOldName h 3 (Int32.ofNat s) = some (v, h') ∧ ((∃ j, pOld B L D.2.2.2 s q = .inr j ∧ j < 5 ∧ v = Int32.ofNat j ∧ h' = h) ∨ (v = -1 ∧ ∃ e, pOld B L D.2.2.2 s q = .inl e ∧ KF p h0 e h')) := by
  have S := KC.cs T K.1
  have s3 := S.sh 3 (w := (8, 0)) rfl
  have s1 := S.sh 1 (w := (10, 0)) rfl
  have g0 : gR h 3 8 0 = some 1 := gR_at s3 (S.rf 2 rfl rfl)
  have g1 : gR h 3 8 1 = some 4 := gR_at s3 (S.rf 2 rfl rfl)
  have g7 : gR h 3 8 7 = some 11 := gR_at s3 (S.rf 2 rfl rfl)
  have g8 : gR h 3 8 8 = some 12 := gR_at s3 (S.rf 2 rfl rfl)
  have g3 : gI h 1 10 3 = some (Int32.ofNat (tSo B L q)) := by rw [gI_at s1, K.2.1.2.2.2.1]
  have c2 : (Int32.ofNat (tSo B L q) = 1) ↔ tSo B L q = 1 := k2 (i := 1) (tSo_5 T.2.2.1) (by omega)
  have c := c_ch4 T W K
  have c3 := oN_lt (ix_b (l := nT4) (w := tWd B L q) (by decide))
  obtain ⟨f1, e1, K1⟩ := c_fail T K.1 K.2.1.2.2.1 (n := 1) (by omega)
  obtain ⟨f2, e2, K2⟩ := c_fail T K.1 K.2.1.2.2.1 (n := 2) (by omega)
  have e1' : fX8_fail h 3 1 = some (0, f1) := e1
  have e2' : fX8_fail h 3 2 = some (0, f2) := e2
  by_cases z : tSo B L q = 1
  · by_cases z2 : ix nT4 (tWd B L q) = none
    · have zz : tSo B L q = 1 ∧ ix nT4 (tWd B L q) = none := ⟨z, z2⟩
      obtain ⟨r, e, hr⟩ := c_find T K V
      rcases hr with ⟨r1, r2⟩ | ⟨i, y, r1, r2, r3⟩
      · refine ⟨-1, f2, ?_, Or.inr ⟨rfl, _, by unfold pOld lk; rw [if_pos zz, r1], K2⟩⟩
        simp only [fX8_findOldName, g0, g1, g3, ck_at s1, ck_at s3, bd_some, bd2_some, if_pos (c2.mpr z), c, if_pos (c3.mpr z2), e, r2, if_pos (show (-1 : Int32) < 0 by decide), e2']
      · have vy := V.2 i y r1
        have hi := (List.getElem?_eq_some_iff.mp r1).1
        have v1 := V.1
        have ky := K.2.2.2.2.2.1 i y r1
        have l7 : lI h 11 (Int32.ofNat i) = some (Int32.ofNat y.2.1) := by rw [lI_at (S.sh 11 rfl) (show i < 17 by omega) (by decide), ky.2.1]
        have l8 : lI h 12 (Int32.ofNat i) = some (Int32.ofNat y.2.2) := by rw [lI_at (S.sh 12 rfl) (show i < 17 by omega) (by decide), ky.2.2]
        have c4 := k_eq (i := y.2.1) (n := s) (by omega) (by omega)
        by_cases z3 : y.2.1 = s
        · refine ⟨_, h, ?_, Or.inl ⟨y.2.2, by unfold pOld lk; rw [if_pos zz, r2]; show (match (if y.2.1 = s then some y.2.2 else none) with | some j => _ | none => _) = _; rw [if_pos z3], vy.2.2, rfl, rfl⟩⟩
          simp only [fX8_findOldName, g0, g1, g3, g7, g8, ck_at s1, ck_at s3, bd_some, bd2_some, if_pos (c2.mpr z), c, if_pos (c3.mpr z2), e, r3, if_neg (k_neg (show i < 2147483648 by omega)), l7, l8, if_pos (c4.mpr z3)]
        · refine ⟨-1, f2, ?_, Or.inr ⟨rfl, _, by unfold pOld lk; rw [if_pos zz, r2]; show (match (if y.2.1 = s then some y.2.2 else none) with | some j => _ | none => _) = _; rw [if_neg z3], K2⟩⟩
          simp only [fX8_findOldName, g0, g1, g3, g7, g8, ck_at s1, ck_at s3, bd_some, bd2_some, if_pos (c2.mpr z), c, if_pos (c3.mpr z2), e, r3, if_neg (k_neg (show i < 2147483648 by omega)), l7, if_neg (fun x => z3 (c4.mp x)), e2']
    · refine ⟨-1, f1, ?_, Or.inr ⟨rfl, _, by unfold pOld; rw [if_neg (fun x => z2 x.2)], K1⟩⟩
      simp only [fX8_findOldName, g0, g1, g3, ck_at s1, ck_at s3, bd_some, bd2_some, if_pos (c2.mpr z), c, if_neg (fun x => z2 (c3.mp x)), e1']
  · refine ⟨-1, f1, ?_, Or.inr ⟨rfl, _, by unfold pOld; rw [if_neg (fun x => z x.1)], K1⟩⟩
    simp only [fX8_findOldName, g0, g1, g3, ck_at s1, ck_at s3, bd_some, bd2_some, if_neg (fun x => z (c2.mp x)), e1']
theorem c_tOld {s : Nat} (T : tBy B L p h0) (W : RW h0.2.1) (K : KC B L p h0 X D q h) (V : WD D) (hs : s < 6) : ∃ v h', fX8_takeOldName h 3 (Int32.ofNat s) = some (v, h') ∧ ((∃ j, pOld B L D.2.2.2 s q = .inr j ∧ j < 5 ∧ v = Int32.ofNat j ∧ KC B L p h0 X D (tTo B L q) h') ∨ (∃ e, pOld B L D.2.2.2 s q = .inl e ∧ KF p h0 e h')) := by
  have S := KC.cs T K.1
  have s3 := S.sh 3 (w := (8, 0)) rfl
  have s1 := S.sh 1 (w := (10, 0)) rfl
  have g0 : gR h 3 8 0 = some 1 := gR_at s3 (S.rf 2 rfl rfl)
  obtain ⟨v, h1, e, hv⟩ := c_old T W K V hs
  rcases hv with ⟨j, a1, a2, a3, a4⟩ | ⟨a1, y, a2, a3⟩
  · obtain ⟨h', e', K'⟩ := c_adv T K
    subst a3 a4
    refine ⟨_, h', ?_, Or.inl ⟨j, a1, a2, rfl, K'⟩⟩
    simp only [fX8_takeOldName, ck_at s3, e, bd_some, bd2_some, if_neg (k_neg (show j < 2147483648 by omega)), g0, ck_at s1, e']
  · subst a1
    refine ⟨-1, h1, ?_, Or.inr ⟨y, a2, a3⟩⟩
    simp only [fX8_takeOldName, ck_at s3, e, bd_some, bd2_some, if_pos (show (-1 : Int32) < 0 by decide)]
/-- the data with one more name -/
def adN (D : DD) (w s n : Nat) : DD := (D.1, D.2.1, D.2.2.1, D.2.2.2 ++ [(w, s, n)])
theorem c_new {s n : Nat} (T : tBy B L p h0) (W : RW h0.2.1) (K : KC B L p h0 X D q h) (V : WD D) (hl : D.2.2.2.length < 17) : ∃ v h', fX8_takeNewName h 3 (Int32.ofNat s) (Int32.ofNat n) = some (v, h') ∧ ((v = 1 ∧ ∃ w q', pNew B L D.2.2.2 q = .inr (w, q') ∧ w < 1099511627776 ∧ KC B L p h0 X (adN D w s n) q' h') ∨ (v = 0 ∧ ∃ e, pNew B L D.2.2.2 q = .inl e ∧ KF p h0 e h')) := by
  have S := KC.cs T K.1
  have s3 := S.sh 3 (w := (8, 0)) rfl
  have s1 := S.sh 1 (w := (10, 0)) rfl
  have g0 : gR h 3 8 0 = some 1 := gR_at s3 (S.rf 2 rfl rfl)
  have g1 : gR h 3 8 1 = some 4 := gR_at s3 (S.rf 2 rfl rfl)
  have g6 : gR h 3 8 6 = some 10 := gR_at s3 (S.rf 2 rfl rfl)
  have g3 : gI h 1 10 3 = some (Int32.ofNat (tSo B L q)) := by rw [gI_at s1, K.2.1.2.2.2.1]
  have c2 : (Int32.ofNat (tSo B L q) = 1) ↔ tSo B L q = 1 := k2 (i := 1) (tSo_5 T.2.2.1) (by omega)
  have c := c_ch4 T W K
  have c3 := oN_lt (ix_b (l := nT4) (w := tWd B L q) (by decide))
  obtain ⟨f1, e1, K1⟩ := c_fail T K.1 K.2.1.2.2.1 (n := 1) (by omega)
  obtain ⟨f2, e2, K2⟩ := c_fail T K.1 K.2.1.2.2.1 (n := 3) (by omega)
  have e1' : fX8_fail h 3 1 = some (0, f1) := e1
  have e2' : fX8_fail h 3 3 = some (0, f2) := e2
  by_cases z : tSo B L q = 1
  · by_cases z2 : ix nT4 (tWd B L q) = none
    · have zz : tSo B L q = 1 ∧ ix nT4 (tWd B L q) = none := ⟨z, z2⟩
      obtain ⟨r, e, hr⟩ := c_find T K V
      rcases hr with ⟨r1, r2⟩ | ⟨i, y, r1, r2, r3⟩
      · have g10 : gI h 3 8 10 = some (Int32.ofNat D.2.2.2.length) := by rw [gI_at s3, K.2.2.1]
        have c5 : (Int32.ofNat D.2.2.2.length < 17) ↔ D.2.2.2.length < 17 := k_lt (n := 17) (by omega) (by decide)
        have gw : gJ h 1 10 6 = some (Int64.ofNat (tWd B L q)) := by rw [gJ_at s1, K.2.1.2.2.2.2.2]
        have w1 := tWd_lt (B := B) (q := q) T.2.2.1 K.2.1.1
        have hp := T.1.1
        have K5 : KC B L p h0 X (adN D (tWd B L q) s n) q (sI (sI (sI (sJ h 10 D.2.2.2.length (Int64.ofNat (tWd B L q))) 11 D.2.2.2.length (Int32.ofNat s)) 12 D.2.2.2.length (Int32.ofNat n)) 3 10 (Int32.ofNat (D.2.2.2.length + 1))) := by
          obtain ⟨F, ⟨k1, k2, k3, k4, k5, k6⟩, d1, d2, d3, d4, d5, d6, d7⟩ := K
          have F1 : frC p h0 (sJ h 10 D.2.2.2.length (Int64.ofNat (tWd B L q))) := ⟨F.1, F.2.1, fun b j hn => by
            show up2 h.2.1 10 D.2.2.2.length (Int64.ofNat (tWd B L q)) b j = _
            unfold up2
            rw [if_neg (by omega)]; exact F.2.2 b j hn⟩
          refine ⟨((F1.sI (by omega)).sI (by omega)).sI (by omega), ⟨k1, ?_, ?_, ?_, ?_, ?_⟩, ?_, ?_, ?_, fun i e hi => ?_, fun t ht => ?_, fun t i ht hx => ?_, fun i hi => ?_⟩
          · rw [sI_ne (by omega), sI_ne (by omega), sI_ne (by omega)]; exact k2
          · rw [sI_ne (by omega), sI_ne (by omega), sI_ne (by omega)]; exact k3
          · rw [sI_ne (by omega), sI_ne (by omega), sI_ne (by omega)]; exact k4
          · rw [sI_ne (by omega), sI_ne (by omega), sI_ne (by omega)]; exact k5
          · show up2 h.2.1 10 D.2.2.2.length (Int64.ofNat (tWd B L q)) 1 6 = _
            unfold up2
            rw [if_neg (by omega)]; exact k6
          · rw [sI_eq]; show _ = Int32.ofNat (D.2.2.2 ++ [(tWd B L q, s, n)]).length; rw [List.length_append]; rfl
          · rw [sI_ne (by omega), sI_ne (by omega), sI_ne (by omega)]; exact d2
          · rw [sI_ne (by omega), sI_ne (by omega), sI_ne (by omega)]; exact d3
          · have hi' : (D.2.2.2 ++ [(tWd B L q, s, n)])[i]? = some e := hi
            by_cases zi : i < D.2.2.2.length
            · rw [List.getElem?_append_left zi] at hi'
              obtain ⟨q1, q2, q3⟩ := d4 i e hi'
              refine ⟨?_, ?_, ?_⟩
              · show up2 h.2.1 10 D.2.2.2.length (Int64.ofNat (tWd B L q)) 10 i = _
                unfold up2
                rw [if_neg (by omega)]; exact q1
              · rw [sI_ne (by omega), sI_ne (by omega), sI_ne (by omega)]; exact q2
              · rw [sI_ne (by omega), sI_ne (by omega), sI_ne (by omega)]; exact q3
            · rw [List.getElem?_append_right (by omega)] at hi'
              have zi2 : i = D.2.2.2.length := by
                have := (List.getElem?_eq_some_iff.mp hi').1
                simp only [List.length_cons, List.length_nil] at this
                omega
              subst zi2
              rw [Nat.sub_self] at hi'
              have hy : e = (tWd B L q, s, n) := (Option.some.inj hi').symm
              rw [hy]
              refine ⟨?_, ?_, ?_⟩
              · show up2 h.2.1 10 D.2.2.2.length (Int64.ofNat (tWd B L q)) 10 D.2.2.2.length = _
                unfold up2
                rw [if_pos ⟨rfl, rfl⟩]
              · rw [sI_ne (by omega), sI_ne (by omega), sI_eq]
              · rw [sI_ne (by omega), sI_eq]
          · rw [sI_ne (by omega), sI_ne (by omega), sI_ne (by omega)]; exact d5 t ht
          · rw [sI_ne (by omega), sI_ne (by omega), sI_ne (by omega)]; exact d6 t i ht hx
          · rw [sI_ne (by omega), sI_ne (by omega), sI_ne (by omega)]; exact d7 i hi
        obtain ⟨h', e', K'⟩ := c_adv T K5
        refine ⟨1, h', ?_, Or.inl ⟨rfl, _, _, by unfold pNew; rw [if_pos zz, r1], w1, K'⟩⟩
        have s3a : (sJ h 10 D.2.2.2.length (Int64.ofNat (tWd B L q))).2.2.2[3]? = some (8, 0) := s3
        have a6 : tJ h 10 (Int32.ofNat D.2.2.2.length) (Int64.ofNat (tWd B L q)) = some (sJ h 10 D.2.2.2.length (Int64.ofNat (tWd B L q))) := tJ_at (S.sh 10 rfl) hl (by decide)
        have a7 : gR (sJ h 10 D.2.2.2.length (Int64.ofNat (tWd B L q))) 3 8 7 = some 11 := gR_at s3a (S.rf 2 rfl rfl)
        have a8 : gI (sJ h 10 D.2.2.2.length (Int64.ofNat (tWd B L q))) 3 8 10 = some (Int32.ofNat D.2.2.2.length) := by rw [gI_at s3a]; show some (h.1 3 10) = _; rw [K.2.2.1]
        have a9 : tI (sJ h 10 D.2.2.2.length (Int64.ofNat (tWd B L q))) 11 (Int32.ofNat D.2.2.2.length) (Int32.ofNat s) = some (sI (sJ h 10 D.2.2.2.length (Int64.ofNat (tWd B L q))) 11 D.2.2.2.length (Int32.ofNat s)) := tI_at (show (sJ h 10 D.2.2.2.length (Int64.ofNat (tWd B L q))).2.2.2[11]? = some (15, 17) from S.sh 11 rfl) hl (by decide)
        generalize hg1 : sJ h 10 D.2.2.2.length (Int64.ofNat (tWd B L q)) = u1 at *
        have S1 : CS p u1.2.2 := by rw [← hg1]; exact S
        have u10 : u1.1 3 10 = Int32.ofNat D.2.2.2.length := by rw [← hg1]; exact K.2.2.1
        have s3b : (sI u1 11 D.2.2.2.length (Int32.ofNat s)).2.2.2[3]? = some (8, 0) := S1.sh 3 rfl
        have b8 : gR (sI u1 11 D.2.2.2.length (Int32.ofNat s)) 3 8 8 = some 12 := gR_at s3b (S1.rf 2 rfl rfl)
        have b10 : gI (sI u1 11 D.2.2.2.length (Int32.ofNat s)) 3 8 10 = some (Int32.ofNat D.2.2.2.length) := by rw [gI_at s3b, sI_ne (by omega), u10]
        have b9 : tI (sI u1 11 D.2.2.2.length (Int32.ofNat s)) 12 (Int32.ofNat D.2.2.2.length) (Int32.ofNat n) = some (sI (sI u1 11 D.2.2.2.length (Int32.ofNat s)) 12 D.2.2.2.length (Int32.ofNat n)) := tI_at (show (sI u1 11 D.2.2.2.length (Int32.ofNat s)).2.2.2[12]? = some (15, 17) from S1.sh 12 rfl) hl (by decide)
        generalize hg2 : sI (sI u1 11 D.2.2.2.length (Int32.ofNat s)) 12 D.2.2.2.length (Int32.ofNat n) = u2 at *
        have S2 : CS p u2.2.2 := by rw [← hg2]; exact S1
        have u20 : gI u2 3 8 10 = some (Int32.ofNat D.2.2.2.length) := by rw [gI_at (S2.sh 3 (w := (8, 0)) rfl), ← hg2, sI_ne (by omega), sI_ne (by omega), u10]
        have p2 : pI u2 3 8 10 (Int32.ofNat (D.2.2.2.length + 1)) = some (sI u2 3 10 (Int32.ofNat (D.2.2.2.length + 1))) := pI_at (S2.sh 3 (w := (8, 0)) rfl)
        have s3c : (sI u2 3 10 (Int32.ofNat (D.2.2.2.length + 1))).2.2.2[3]? = some (8, 0) := S2.sh 3 rfl
        have s1c : (sI u2 3 10 (Int32.ofNat (D.2.2.2.length + 1))).2.2.2[1]? = some (10, 0) := S2.sh 1 rfl
        have g0c : gR (sI u2 3 10 (Int32.ofNat (D.2.2.2.length + 1))) 3 8 0 = some 1 := gR_at s3c (S2.rf 2 rfl rfl)
        simp only [fX8_takeNewName, g0, g1, g3, g6, ck_at s1, ck_at s3, bd_some, bd2_some, if_pos (c2.mpr z), c, if_pos (c3.mpr z2), e, r2, if_neg (show ¬ (0 : Int32) ≤ -1 by decide), g10, if_pos (c5.mpr hl), gw, a6, a7, a8, a9, b8, b10, b9, u20, k_succ, p2, g0c, ck_at s1c, e']
      · have hi := (List.getElem?_eq_some_iff.mp r1).1
        have hv := V.1
        have c6 : (0 : Int32) ≤ Int32.ofNat i := (k_le (i := 0) (n := i) (by decide) (by omega)).mpr (Nat.zero_le _)
        refine ⟨0, f2, ?_, Or.inr ⟨rfl, _, by unfold pNew; rw [if_pos zz, r2], K2⟩⟩
        simp only [fX8_takeNewName, g0, g1, g3, ck_at s1, ck_at s3, bd_some, bd2_some, if_pos (c2.mpr z), c, if_pos (c3.mpr z2), e, r3, if_pos c6, e2', rB0]
    · refine ⟨0, f1, ?_, Or.inr ⟨rfl, _, by unfold pNew; rw [if_neg (fun x => z2 x.2)], K1⟩⟩
      simp only [fX8_takeNewName, g0, g1, g3, ck_at s1, ck_at s3, bd_some, bd2_some, if_pos (c2.mpr z), c, if_neg (fun x => z2 (c3.mp x)), e1', rB0]
  · refine ⟨0, f1, ?_, Or.inr ⟨rfl, _, by unfold pNew; rw [if_neg (fun x => z x.1)], K1⟩⟩
    simp only [fX8_takeNewName, g0, g1, g3, ck_at s1, ck_at s3, bd_some, bd2_some, if_neg (fun x => z (c2.mp x)), e1', rB0]
end KCP
