/-! ===== READING: the model's pieces ===== -/
section KMP
variable {p o : Nat} {h h0 h' : MH} {B : Nat → Int32} {L q : Nat} {X : Nat → Nat → Prop} {D : DD} {e : Nat × Nat}
theorem i01 : ((0 : Int32) = 0) = True := by decide
theorem tSo_w (hw : tWd B L q ≠ 0) : tSo B L q = 1 := by
  by_cases z : tSo B L q = 1
  · exact z
  · exact absurd (show tWd B L q = 0 by unfold tWd; rw [if_neg z]) hw
theorem m_needs (T : tBm B L p o h0) (K : KM B L o h0 X D q h) (V : WD D) {t w : Nat} (h1 : 5 ≤ t) (h2 : t < 26) (hw : wK.getD t 0 = w) : ∃ h', fX13_needs h 77 t = some h' ∧ ((∃ q', pFl B L w q = .inr q' ∧ KM B L o h0 X D q' h') ∨ (∃ e, pFl B L w q = .inl e ∧ KO o h0 e h')) := by
  have s := m77 T K.1
  have mw := m_word T K h1 h2
  have wp := (wK_all t h2 h1).2.1
  rw [hw] at mw wp
  have tk : tkc t = some () := if_pos h2
  by_cases z : tWd B L q = w
  · rw [if_pos z] at mw
    obtain ⟨h', e', K'⟩ := m_adv T K (by rw [tSo_w (by omega)]; decide)
    refine ⟨h', ?_, Or.inl ⟨_, if_pos z, K'⟩⟩
    simp only [fX13_needs, tk, ck_at s, mw, i10, if_false, e', bd_some, bd2_some]
  · rw [if_neg z] at mw
    obtain ⟨f, e1, K1⟩ := m_flaw T K V (n := 1) (by omega)
    have e1' : fX13_flaw h 77 1 = some f := e1
    refine ⟨f, ?_, Or.inr ⟨_, if_neg z, K1⟩⟩
    simp only [fX13_needs, tk, ck_at s, mw, if_true, e1', ck_at (m77 T K1.1), o_adv T K1, bd_some, bd2_some]
theorem o_needs (T : tBm B L p o h0) (K : KO o h0 e h) {t : Nat} (h2 : t < 26) : fX13_needs h 77 t = some h := by
  simp only [fX13_needs, show tkc t = some () from if_pos h2, ck_at (m77 T K.1), o_word T K h2, if_true, o_flaw T K, o_adv T K, bd_some, bd2_some]
theorem m_whole (T : tBm B L p o h0) (K : KM B L o h0 X D q h) (V : WD D) {mx : Nat} (hm : mx < 1000) : ∃ v h', fX13_readWhole h 77 0 (Int32.ofNat mx) = some (v, h') ∧ ((∃ i q', pWh B L mx q = .inr (i, q') ∧ v = Int32.ofNat i ∧ KM B L o h0 X D q' h') ∨ (∃ e, pWh B L mx q = .inl e ∧ KO o h0 e h')) := by
  have s := m77 T K.1
  have g9 : gI h 77 13 9 = some (msI (tSo B L q)) := by rw [gI_at s, K.2.1.2.2.1]
  have c3 : (msI (tSo B L q) = 3) ↔ tSo B L q = 2 := msI_e (k := 2) (tSo_5 T.1.2.2.1) (by omega)
  by_cases z : tSo B L q = 2
  · have vl := tVl_lt T.1.2.2.1 K.2.1.1 z
    have g11 : gI h 77 13 11 = some (Int32.ofNat (tVl B L q)) := by rw [gI_at s, K.2.1.2.2.2.2.1 z]
    have n0 := k_neg (show tVl B L q < 2147483648 by omega)
    have c4 := k_lt (i := mx) (n := tVl B L q) (by omega) (by omega)
    by_cases z2 : tVl B L q ≤ mx
    · obtain ⟨h', e', K'⟩ := m_adv T K (by omega)
      refine ⟨Int32.ofNat (tVl B L q), h', ?_, Or.inl ⟨tVl B L q, _, by unfold pWh; rw [if_pos z, if_pos z2], rfl, K'⟩⟩
      simp only [fX13_readWhole, g9, if_pos (c3.mpr z), g11, fX13_in, if_neg n0, if_neg (fun x => by have := c4.mp x; omega), i10, if_false, bX13_readWhole_33, if_neg (msI_6 _), ck_at s, e', bd_some, bd2_some]
    · obtain ⟨f, e1, K1⟩ := m_flaw T K V (n := 4) (by omega)
      have e1' : fX13_flaw h 77 4 = some f := e1
      refine ⟨0, f, ?_, Or.inr ⟨_, by unfold pWh; rw [if_pos z, if_neg z2], K1⟩⟩
      simp only [fX13_readWhole, g9, if_pos (c3.mpr z), g11, fX13_in, if_neg n0, if_pos (c4.mpr (by omega)), if_true, ck_at s, e1', bX13_readWhole_33, gI_at (m77 T K1.1), K1.2.1, ck_at (m77 T K1.1), o_adv T K1, bd_some, bd2_some]
  · obtain ⟨f, e1, K1⟩ := m_flaw T K V (n := 1) (by omega)
    have e1' : fX13_flaw h 77 1 = some f := e1
    refine ⟨0, f, ?_, Or.inr ⟨_, by unfold pWh; rw [if_neg z], K1⟩⟩
    simp only [fX13_readWhole, g9, if_neg (fun x => z (c3.mp x)), ck_at s, e1', bX13_readWhole_33, gI_at (m77 T K1.1), K1.2.1, if_true, ck_at (m77 T K1.1), o_adv T K1, bd_some, bd2_some]
theorem o_whole (T : tBm B L p o h0) (K : KO o h0 e h) (x y : Int32) : fX13_readWhole h 77 x y = some (x, h) := by
  simp only [fX13_readWhole, gI_at (m77 T K.1), K.2.1, if_neg (show ¬ (6 : Int32) = 3 by decide), ck_at (m77 T K.1), o_flaw T K, bX13_readWhole_33, if_true, o_adv T K, bd_some, bd2_some]
theorem m_prt (T : tBm B L p o h0) (K : KM B L o h0 X D q h) (V : WD D) {t w mx : Nat} (h1 : 5 ≤ t) (h2 : t < 26) (hw : wK.getD t 0 = w) (hm : mx < 1000) : ∃ v h', fX13_readPart h 77 t 0 (Int32.ofNat mx) = some (v, h') ∧ ((∃ q1 i q', pFl B L w q = .inr q1 ∧ pWh B L mx q1 = .inr (i, q') ∧ v = Int32.ofNat i ∧ KM B L o h0 X D q' h') ∨ (∃ e, pFl B L w q = .inl e ∧ KO o h0 e h') ∨ (∃ q1 e, pFl B L w q = .inr q1 ∧ pWh B L mx q1 = .inl e ∧ KO o h0 e h')) := by
  have tk : tkc t = some () := if_pos h2
  obtain ⟨h1', e1, hv⟩ := m_needs T K V h1 h2 hw
  rcases hv with ⟨q1, a1, K1⟩ | ⟨y, a1, K1⟩
  · obtain ⟨v, h2', e2, hv⟩ := m_whole T K1 V hm
    have st : fX13_readPart h 77 t 0 (Int32.ofNat mx) = some (v, h2') := by
      simp only [fX13_readPart, tk, ck_at (m77 T K.1), e1, ck_at (m77 T K1.1), e2, bd_some, bd2_some]
    rcases hv with ⟨i, q', b1, b2, K2⟩ | ⟨y, b1, K2⟩
    · exact ⟨v, h2', st, Or.inl ⟨q1, i, q', a1, b1, b2, K2⟩⟩
    · exact ⟨v, h2', st, Or.inr (Or.inr ⟨q1, y, a1, b1, K2⟩)⟩
  · refine ⟨0, h1', ?_, Or.inr (Or.inl ⟨y, a1, K1⟩)⟩
    simp only [fX13_readPart, tk, ck_at (m77 T K.1), e1, ck_at (m77 T K1.1), o_whole T K1, bd_some, bd2_some]
theorem o_prt (T : tBm B L p o h0) (K : KO o h0 e h) {t : Nat} (h2 : t < 26) (x y : Int32) : fX13_readPart h 77 t x y = some (x, h) := by
  simp only [fX13_readPart, show tkc t = some () from if_pos h2, ck_at (m77 T K.1), o_needs T K h2, o_whole T K, bd_some, bd2_some]
theorem ixn {w : Nat} (e : ix nT4 w = none) : ¬ w = 509813861 ∧ ¬ w = 427595 ∧ ¬ w = 16826546 ∧ ¬ w = 20579760 ∧ ¬ w = 611717 ∧ ¬ w = 263620 ∧ ¬ w = 755156 ∧ ¬ w = 17376724 ∧ ¬ w = 14836 := by
  have : ∀ (l : List Nat), ix l w = none → ∀ x ∈ l, ¬ w = x := by
    intro l
    induction l with
    | nil => intro _ x hx; cases hx
    | cons y l ih =>
      intro e x hx
      unfold ix at e
      by_cases z : y = w
      · rw [if_pos z] at e; cases e
      · rw [if_neg z] at e
        rcases List.mem_cons.mp hx with rfl | hx
        · exact fun q => z q.symm
        · cases e1 : ix l w with
          | none => exact ih e1 x hx
          | some j => rw [e1] at e; cases e
  have t := this nT4 e
  exact ⟨t 509813861 (by decide), t 427595 (by decide), t 16826546 (by decide), t 20579760 (by decide), t 611717 (by decide), t 263620 (by decide), t 755156 (by decide), t 17376724 (by decide), t 14836 (by decide)⟩
theorem m_name (T : tBm B L p o h0) (K : KM B L o h0 X D q h) : fX13_isName h 77 = some (if tSo B L q = 1 ∧ ix nT4 (tWd B L q) = none then 1 else 0, h) := by
  have s := m77 T K.1
  have g9 : gI h 77 13 9 = some (msI (tSo B L q)) := by rw [gI_at s, K.2.1.2.2.1]
  have c2 : (msI (tSo B L q) = 2) ↔ tSo B L q = 1 := msI_e (k := 1) (tSo_5 T.1.2.2.1) (by omega)
  have mw5 : fX13_isWord h 77 5 = some (if tWd B L q = 509813861 then 1 else 0, h) := m_word T K (by omega) (by omega)
  have mw7 : fX13_isWord h 77 7 = some (if tWd B L q = 427595 then 1 else 0, h) := m_word T K (by omega) (by omega)
  have mw8 : fX13_isWord h 77 8 = some (if tWd B L q = 16826546 then 1 else 0, h) := m_word T K (by omega) (by omega)
  have mw9 : fX13_isWord h 77 9 = some (if tWd B L q = 20579760 then 1 else 0, h) := m_word T K (by omega) (by omega)
  have mw10 : fX13_isWord h 77 10 = some (if tWd B L q = 611717 then 1 else 0, h) := m_word T K (by omega) (by omega)
  have mw11 : fX13_isWord h 77 11 = some (if tWd B L q = 263620 then 1 else 0, h) := m_word T K (by omega) (by omega)
  have mw12 : fX13_isWord h 77 12 = some (if tWd B L q = 755156 then 1 else 0, h) := m_word T K (by omega) (by omega)
  have mw13 : fX13_isWord h 77 13 = some (if tWd B L q = 17376724 then 1 else 0, h) := m_word T K (by omega) (by omega)
  have mw14 : fX13_isWord h 77 14 = some (if tWd B L q = 14836 then 1 else 0, h) := m_word T K (by omega) (by omega)
  by_cases z : tSo B L q = 1
  · cases z2 : ix nT4 (tWd B L q) with
    | none =>
      obtain ⟨n1, n2, n3, n4, n5, n6, n7, n8, n9⟩ := ixn z2
      rw [if_pos ⟨z, rfl⟩]
      simp only [fX13_isName, g9, if_pos (c2.mpr z), ck_at s, mw5, mw7, mw8, mw9, mw10, mw11, mw12, mw13, mw14, if_neg n1, if_neg n2, if_neg n3, if_neg n4, if_neg n5, if_neg n6, if_neg n7, if_neg n8, if_neg n9, if_true, bd_some, bd2_some]
    | some k =>
      rw [if_neg (fun x => by have := x.2; cases this)]
      have hk := ix_lt _ _ _ z2
      have hk9 : k < 9 := hk.1
      have hw := hk.2
      simp only [fX13_isName, g9, if_pos (c2.mpr z), ck_at s, mw5, mw7, mw8, mw9, mw10, mw11, mw12, mw13, mw14, bd_some, bd2_some]
      rcases (show k = 0 ∨ k = 1 ∨ k = 2 ∨ k = 3 ∨ k = 4 ∨ k = 5 ∨ k = 6 ∨ k = 7 ∨ k = 8 by omega) with rfl | rfl | rfl | rfl | rfl | rfl | rfl | rfl | rfl <;> (rw [← Option.some.inj hw]; rfl)
  · rw [if_neg (fun x => z x.1)]
    simp only [fX13_isName, g9, if_neg (fun x => z (c2.mp x)), bd_some]
theorem o_name (T : tBm B L p o h0) (K : KO o h0 e h) : fX13_isName h 77 = some (0, h) := by
  simp only [fX13_isName, gI_at (m77 T K.1), K.2.1, if_neg (show ¬ (6 : Int32) = 2 by decide), bd_some]
theorem m_fn2 {n w : Nat} (so : h.2.2.2[o]? = some (12, 0)) (s16 : h.2.2.2[o + 16]? = some (16, 17)) (g24 : gR h o 12 24 = some (o + 16)) (hn : n ≤ 17) (h8 : h.1 o 8 = Int32.ofNat n) (hw2 : w < 9223372036854775808) : ∀ (l : NT) (k m : Nat), k + l.length = n → (∀ (i : Nat) (e : Nat × Nat × Nat), l[i]? = some e → h.2.1 (o + 16) (k + i) = Int64.ofNat e.1 ∧ e.1 < 9223372036854775808) →
    ∃ r, fX12_find_2 (m + l.length + 1) h o (Int64.ofNat w) (Int32.ofNat k) = some (r, h) ∧ ((fd l w = none ∧ r = -1) ∨ ∃ i e, l[i]? = some e ∧ fd l w = some e ∧ r = Int32.ofNat (k + i))
  | [], k, m, e, hv => by
    simp only [List.length_nil] at e
    refine ⟨-1, ?_, Or.inl ⟨rfl, rfl⟩⟩
    have c1 := k_le (i := n) (n := k) (by omega) (by omega)
    show bX12_find_2 _ h o (Int64.ofNat w) (Int32.ofNat k) = _
    simp only [bX12_find_2, gI_at so, h8, bd_some, c1, if_pos (show n ≤ k by omega)]
  | x :: l, k, m, e, hv => by
    simp only [List.length_cons] at e
    have c1 := k_le (i := n) (n := k) (by omega) (by omega)
    have v0 := hv 0 x rfl
    have l1 : lJ h (o + 16) (Int32.ofNat k) = some (Int64.ofNat x.1) := by rw [lJ_at s16 (by omega) (by omega), show k = k + 0 from rfl, v0.1]
    obtain ⟨r, e1, hr⟩ := m_fn2 so s16 g24 hn h8 hw2 l (k + 1) m (by omega) (fun i y hi => by rw [show k + 1 + i = k + (i + 1) by omega]; exact hv (i + 1) y hi)
    have st : fX12_find_2 (m + (x :: l).length + 1) h o (Int64.ofNat w) (Int32.ofNat k) = if x.1 = w then some (Int32.ofNat k, h) else some (r, h) := by
      show bX12_find_2 (fX12_find_2 (m + l.length + 1)) h o (Int64.ofNat w) (Int32.ofNat k) = _
      simp only [bX12_find_2, gI_at so, h8, bd_some, c1, if_neg (show ¬ n ≤ k by omega), g24, l1, lgE, j_eqN v0.2 hw2, k_succ, e1]
    rw [st]
    by_cases z : x.1 = w
    · refine ⟨_, if_pos z, Or.inr ⟨0, x, rfl, if_pos z, rfl⟩⟩
    · refine ⟨r, if_neg z, ?_⟩
      have ef : fd (x :: l) w = fd l w := if_neg z
      rw [ef]
      rcases hr with hr | ⟨i, y, r1, r2, r3⟩
      · exact Or.inl hr
      · exact Or.inr ⟨i + 1, y, r1, r2, by rw [r3, show k + 1 + i = k + (i + 1) by omega]⟩
theorem m_find (T : tBm B L p o h0) (K : KM B L o h0 X D q h) (V : WD D) : ∃ r, fX12_find h o (Int64.ofNat (tWd B L q)) = some (r, h) ∧ ((fd D.2.2.2 (tWd B L q) = none ∧ r = -1) ∨ ∃ i e, D.2.2.2[i]? = some e ∧ fd D.2.2.2 (tWd B L q) = some e ∧ r = Int32.ofNat i) := by
  have w1 := tWd_lt (B := B) (q := q) T.1.2.2.1 K.2.1.1
  have hv := V.1
  obtain ⟨g24, s16⟩ := mAr T K.1 15 (k := 16) (n := 17) (w := 24) rfl rfl
  obtain ⟨m, hm⟩ := FU_at D.2.2.2.length (by omega)
  obtain ⟨r, e, hr⟩ := m_fn2 (w := tWd B L q) (mOk T K.1) s16 g24 V.1 K.2.2.2.1 (by omega) D.2.2.2 0 m (by omega) (fun i e hi => by rw [Nat.zero_add]; exact ⟨(K.2.2.2.2.2.1 i e hi).1, by have := (V.2 i e hi).1; omega⟩)
  refine ⟨r, by unfold fX12_find; rw [hm]; exact e, ?_⟩
  rcases hr with hr | ⟨i, y, r1, r2, r3⟩
  · exact Or.inl hr
  · exact Or.inr ⟨i, y, r1, r2, by rw [r3, Nat.zero_add]⟩
theorem o_fn2 {n : Nat} {w : Int64} (so : h.2.2.2[o]? = some (12, 0)) (s16 : h.2.2.2[o + 16]? = some (16, 17)) (g24 : gR h o 12 24 = some (o + 16)) (hn : n ≤ 17) (h8 : h.1 o 8 = Int32.ofNat n) : ∀ (j k m : Nat), k + j = n → ∃ r, fX12_find_2 (m + j + 1) h o w (Int32.ofNat k) = some (r, h) ∧ (r = -1 ∨ ∃ i, i < 17 ∧ r = Int32.ofNat i)
  | 0, k, m, e => by
    refine ⟨-1, ?_, Or.inl rfl⟩
    have c1 := k_le (i := n) (n := k) (by omega) (by omega)
    show bX12_find_2 _ h o w (Int32.ofNat k) = _
    simp only [bX12_find_2, gI_at so, h8, bd_some, c1, if_pos (show n ≤ k by omega)]
  | j + 1, k, m, e => by
    have c1 := k_le (i := n) (n := k) (by omega) (by omega)
    have l1 : lJ h (o + 16) (Int32.ofNat k) = some (h.2.1 (o + 16) k) := lJ_at s16 (by omega) (by omega)
    obtain ⟨r, e1, hr⟩ := o_fn2 (w := w) so s16 g24 hn h8 j (k + 1) m (by omega)
    have st : fX12_find_2 (m + (j + 1) + 1) h o w (Int32.ofNat k) = if h.2.1 (o + 16) k = w then some (Int32.ofNat k, h) else some (r, h) := by
      show bX12_find_2 (fX12_find_2 (m + j + 1)) h o w (Int32.ofNat k) = _
      simp only [bX12_find_2, gI_at so, h8, bd_some, c1, if_neg (show ¬ n ≤ k by omega), g24, l1, lgE, k_succ, e1]
    rw [st]
    by_cases z : h.2.1 (o + 16) k = w
    · exact ⟨_, if_pos z, Or.inr ⟨k, by omega, rfl⟩⟩
    · exact ⟨r, if_neg z, hr⟩
theorem o_find (T : tBm B L p o h0) (K : KO o h0 e h) (w : Int64) : ∃ r, fX12_find h o w = some (r, h) ∧ (r = -1 ∨ ∃ i, i < 17 ∧ r = Int32.ofNat i) := by
  obtain ⟨n, hn, h8⟩ := K.2.2.2.2.2.2
  obtain ⟨g24, s16⟩ := mAr T K.1 15 (k := 16) (n := 17) (w := 24) rfl rfl
  obtain ⟨m, hm⟩ := FU_at n (by omega)
  unfold fX12_find
  rw [hm]
  exact o_fn2 (mOk T K.1) s16 g24 hn h8 n 0 m (by omega)
end KMP
