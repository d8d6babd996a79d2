/-! ===== READING: the model's state, its words ===== -/
def pkL : List Int32 → Int64 → Int64
  | [], y => y
  | c :: l, y => pkL l (32 * y + Int32.toInt64 ((c - 97) + 1))
def wK : List Nat := [0, 0, 0, 0, 0, 509813861, 2410643, 427595, 16826546, 20579760, 611717, 263620, 755156, 17376724, 14836, 24627848, 9675, 176741, 463, 25779, 6333908, 674915196180, 370116, 20584014, 3751539, 14138521]
theorem m_pk4 {h : MH} {t : Nat} (ht : t < 26) : ∀ (l : List Int32) (k n : Nat) (y : Int64), (∀ (i : Nat) (x : Int32), l[i]? = some x → sCh t (Int32.ofNat (k + i)) = some x) → sLn t = some (Int32.ofNat (k + l.length)) → k + l.length < 100 → fX13_packed_4 (n + l.length + 1) h t y (Int32.ofNat k) = some (pkL l y, h)
  | [], k, n, y, hc, hl, hk => by
    show bX13_packed_4 _ h t y (Int32.ofNat k) = _
    have tk : tkc t = some () := if_pos ht
    have e : fJ0_length_8abf5 t = some (Int32.ofNat k) := hl
    simp only [bX13_packed_4, tk, e, bd_some, if_pos (Int32.le_refl _)]
    rfl
  | x :: l, k, n, y, hc, hl, hk => by
    simp only [List.length_cons] at hl hk
    have tk : tkc t = some () := if_pos ht
    have e : fJ0_length_8abf5 t = some (Int32.ofNat (k + (l.length + 1))) := hl
    have c0 : fJ0_charAt_5068e t (Int32.ofNat k) = some x := hc 0 x rfl
    have c1 := k_le (i := k + (l.length + 1)) (n := k) (by omega) (by omega)
    have ih := m_pk4 (h := h) ht l (k + 1) n (32 * y + Int32.toInt64 ((x - 97) + 1)) (fun i z hi => by rw [show k + 1 + i = k + (i + 1) by omega]; exact hc (i + 1) z hi) (by rw [hl]; congr 2; omega) (by omega)
    show bX13_packed_4 (fX13_packed_4 (n + l.length + 1)) h t y (Int32.ofNat k) = _
    simp only [bX13_packed_4, tk, e, bd_some, c1, if_neg (show ¬ k + (l.length + 1) ≤ k by omega), c0, k_succ, ih]
    rfl
theorem wK_all : ∀ t, t < 26 → 5 ≤ t → (sTab[t]?).map (fun q => (pkL q.2.2.2 0, decide (q.2.2.2.length < 100))) = some (Int64.ofNat (wK.getD t 0), true) ∧ 0 < wK.getD t 0 ∧ wK.getD t 0 < 9223372036854775808 := by decide +kernel
theorem m_packed {t : Nat} (h : MH) (h1 : 5 ≤ t) (h2 : t < 26) : fX13_packed h t = some (Int64.ofNat (wK.getD t 0), h) := by
  obtain ⟨a1, -⟩ := wK_all t h2 h1
  obtain ⟨q, hq⟩ := sTab_at h2
  rw [hq] at a1
  have a2 := Option.some.inj a1
  have b1 : pkL q.2.2.2 0 = Int64.ofNat (wK.getD t 0) := congrArg Prod.fst a2
  have b2 : q.2.2.2.length < 100 := of_decide_eq_true (congrArg Prod.snd a2)
  obtain ⟨n, hn⟩ := FU_at q.2.2.2.length (by omega)
  have := m_pk4 (h := h) h2 q.2.2.2 0 n 0 (fun i x hi => by
    have hl := (List.getElem?_eq_some_iff.mp hi).1
    unfold sCh
    rw [hq, Nat.zero_add]
    show (if ¬ Int32.ofNat i < 0 ∧ (Int32.ofNat i).toNatClampNeg < q.2.2.2.length then some (q.2.2.2.getD (Int32.ofNat i).toNatClampNeg 0) else none) = some x
    rw [k_clamp (show i < 2147483648 by omega), if_pos ⟨k_neg (by omega), hl⟩, List.getD_eq_getElem?_getD, hi]
    rfl) (by unfold sLn; rw [hq, Nat.zero_add]; rfl) (by omega)
  unfold fX13_packed
  rw [show tkc t = some () from if_pos h2, bd_some, hn, ← b1]
  exact this
/-- frames -/
def frM (o : Nat) (h0 h : MH) : Prop := h.2.2 = h0.2.2 ∧ (∀ b k, ¬ ((b = 77 ∧ 8 ≤ k ∧ k ≤ 13) ∨ (o ≤ b ∧ b ≤ o + 18)) → h.1 b k = h0.1 b k) ∧ ∀ b k, ¬ ((b = 77 ∧ k = 14) ∨ b = o + 16) → h.2.1 b k = h0.2.1 b k
def sC (s : Nat) : Int32 := if s = 1 then 0 else if s = 2 then 1 else if s = 3 then 2 else 3
def tkN (B : Nat → Int32) (L q : Nat) (h : MH) : Prop := q ≤ L ∧ (tSo B L q ≠ 5 → h.1 77 8 = Int32.ofNat (tTo B L q)) ∧ h.1 77 9 = msI (tSo B L q) ∧ h.1 77 10 = Int32.ofNat (tFr B L q) ∧ (tSo B L q = 2 → h.1 77 11 = Int32.ofNat (tVl B L q)) ∧ (tSo B L q = 1 → h.2.1 77 14 = Int64.ofNat (tWd B L q))
def dtM (o : Nat) (X : Nat → Nat → Prop) (D : DD) (h : MH) : Prop := h.1 77 12 = 0 ∧ h.1 o 8 = Int32.ofNat D.2.2.2.length ∧ h.1 o 0 = (if D.1 8 = 0 then -1 else Int32.ofNat (D.1 0)) ∧
  (∀ (i : Nat) (e : Nat × Nat × Nat), D.2.2.2[i]? = some e → h.2.1 (o + 16) i = Int64.ofNat e.1 ∧ h.1 (o + 17) i = sC e.2.1 ∧ h.1 (o + 18) i = Int32.ofNat e.2.2) ∧
  (∀ t, 1 ≤ t → t < 8 → h.1 o t = Int32.ofNat (D.1 t)) ∧ (∀ t i, t < 12 → X t i → h.1 (o + mT' t) i = D.2.1 t i) ∧
  (∀ i, i < 5 → h.1 (o + 2) i = D.2.2.1 i) ∧ (∀ i, i < 4 → h.1 (o + 4) i = D.2.2.1 (10 + i)) ∧ (∀ i, i < 10 → h.1 (o + 10) i = D.2.2.1 (18 + i)) ∧ ∀ i, D.1 2 ≤ i → i < 5 → h.1 (o + 3) i = -2
def KM (B : Nat → Int32) (L o : Nat) (h0 : MH) (X : Nat → Nat → Prop) (D : DD) (q : Nat) (h : MH) : Prop := frM o h0 h ∧ tkN B L q h ∧ dtM o X D h
/-- after a fault -/
def KO (o : Nat) (h0 : MH) (e : Nat × Nat) (h : MH) : Prop := frM o h0 h ∧ h.1 77 9 = 6 ∧ h.1 77 12 = Int32.ofNat e.1 ∧ h.1 77 13 = Int32.ofNat e.2 ∧ 1 ≤ e.1 ∧ e.1 ≤ 6 ∧ ∃ n, n ≤ 17 ∧ h.1 o 8 = Int32.ofNat n
/-- what stands when the model begins -/
def tBm (B : Nat → Int32) (L p o : Nat) (h0 : MH) : Prop := tBy B L p h0 ∧ h0.1 77 7 = Int32.ofNat L ∧ MO o h0.2.2 ∧ h0.2.2.1 77 4 = some o
section KMS
variable {p o : Nat} {h h0 h' : MH} {B : Nat → Int32} {L q : Nat} {X : Nat → Nat → Prop} {D : DD} {e : Nat × Nat}
theorem m77 (T : tBm B L p o h0) (F : frM o h0 h) : h.2.2.2[77]? = some (13, 0) := by rw [F.1]; exact T.1.1.sh 77 rfl
theorem mO (T : tBm B L p o h0) (F : frM o h0 h) : MO o h.2.2 := by rw [F.1]; exact T.2.2.1
theorem mOk (T : tBm B L p o h0) (F : frM o h0 h) : h.2.2.2[o]? = some (12, 0) := (mO T F).2.1
theorem mR4 (T : tBm B L p o h0) (F : frM o h0 h) : gR h 77 13 4 = some o := gR_at (m77 T F) (by rw [F.1]; exact T.2.2.2)
theorem mAr (T : tBm B L p o h0) (F : frM o h0 h) (j : Nat) {k n w : Nat} (hj : mSh[j]? = some (k, n)) (hw : w = 9 + j) : gR h o 12 w = some (o + 1 + j) ∧ h.2.2.2[o + 1 + j]? = some (k, n) := by
  subst hw
  obtain ⟨a1, a2⟩ := (mO T F).2.2 j (k, n) hj
  exact ⟨gR_at (mOk T F) a1, a2⟩
theorem msI_6 (s : Nat) : ¬ msI s = 6 := by
  unfold msI
  repeat' split
  all_goals decide
theorem msI_e {s : Nat} (hs : s ≤ 5) {k : Nat} (hk : k ≤ 4) : (msI s = Int32.ofNat (k + 1)) ↔ s = k := by
  have : ∀ s, s ≤ 5 → ∀ k, k ≤ 4 → ((msI s = Int32.ofNat (k + 1)) ↔ s = k) := by decide
  exact this s hs k hk
theorem m_adv (T : tBm B L p o h0) (K : KM B L o h0 X D q h) (hs : tSo B L q ≠ 5) : ∃ h', fX13_goesOn h 77 = some h' ∧ KM B L o h0 X D (tTo B L q) h' := by
  obtain ⟨F, ⟨k1, k2, k3, k4, k5, k6⟩, d1, d2, d3, d4, d5, d6, d7, d8, d9, d10⟩ := K
  have ho := T.2.2.1.1
  have Ty : tBy B L p h := by
    refine ⟨by rw [F.1]; exact T.1.1, T.1.2.1, T.1.2.2.1, fun k hk => ?_, fun k hk => ?_⟩
    · rw [F.2.1 2 k (by omega)]; exact T.1.2.2.2.1 k hk
    · rw [F.2.1 78 k (by omega)]; exact T.1.2.2.2.2 k hk
  have h7 : h.1 77 7 = Int32.ofNat L := by rw [F.2.1 77 7 (by omega)]; exact T.2.1
  have tt := tT (B := B) T.1.2.2.1 k1
  obtain ⟨h', e, t1, t2, t3, t4, t5, t6, t7, t8⟩ := m_goesOn (q := tTo B L q) Ty h7 tt.2 (so := msI (tSo B L q)) (pl := h.1 77 10) (nu := h.1 77 11) (w := h.2.1 77 14) ⟨rfl, fun _ _ _ => rfl, fun _ _ _ => rfl, k2 hs, k3, rfl, rfl, rfl⟩ (msI_6 _)
  refine ⟨h', e, ⟨by rw [t1]; exact F.1, fun b k hn => by rw [t2 b k (by omega)]; exact F.2.1 b k hn, fun b k hn => by rw [t3 b k (by omega)]; exact F.2.2 b k hn⟩, ⟨tt.2, t4, t5, t6, t7, t8⟩, ?_⟩
  refine ⟨by rw [t2 77 12 (by omega)]; exact d1, by rw [t2 o 8 (by omega)]; exact d2, by rw [t2 o 0 (by omega)]; exact d3, fun i e hi => ?_, fun t h1 ht => ?_, fun t i ht hx => ?_, fun i hi => ?_, fun i hi => ?_, fun i hi => ?_, fun i h1 hi => ?_⟩
  · rw [t3 (o + 16) i (by omega), t2 (o + 17) i (by omega), t2 (o + 18) i (by omega)]; exact d4 i e hi
  · rw [t2 o t (by omega)]; exact d5 t h1 ht
  · rw [t2 (o + mT' t) i (by omega)]; exact d6 t i ht hx
  · rw [t2 (o + 2) i (by omega)]; exact d7 i hi
  · rw [t2 (o + 4) i (by omega)]; exact d8 i hi
  · rw [t2 (o + 10) i (by omega)]; exact d9 i hi
  · rw [t2 (o + 3) i (by omega)]; exact d10 i h1 hi
theorem o_adv (T : tBm B L p o h0) (K : KO o h0 e h) : fX13_goesOn h 77 = some h := by
  simp only [fX13_goesOn, gI_at (m77 T K.1), K.2.1, bd_some, if_true]
theorem o_flaw (T : tBm B L p o h0) (K : KO o h0 e h) (x : Int32) : fX13_flaw h 77 x = some h := by
  simp only [fX13_flaw, gI_at (m77 T K.1), K.2.1, bd_some, if_true]
theorem frM.sI (F : frM o h0 h) {a k : Nat} {x : Int32} (ha : (a = 77 ∧ 8 ≤ k ∧ k ≤ 13) ∨ (o ≤ a ∧ a ≤ o + 18)) : frM o h0 (sI h a k x) :=
  ⟨F.1, fun b j hn => by rw [sI_ne (fun z => hn (by rw [z.1, z.2]; exact ha))]; exact F.2.1 b j hn, F.2.2⟩
theorem m_flaw (T : tBm B L p o h0) (K : KM B L o h0 X D q h) (V : WD D) {n : Nat} (hn : 1 ≤ n ∧ n ≤ 6) : ∃ h', fX13_flaw h 77 (Int32.ofNat n) = some h' ∧ KO o h0 (n, tFr B L q) h' := by
  have ho := T.2.2.1.1
  have s := m77 T K.1
  have s1 : (sI h 77 12 (Int32.ofNat n)).2.2.2[77]? = some (13, 0) := s
  have s2 : (sI (sI h 77 12 (Int32.ofNat n)) 77 13 (Int32.ofNat (tFr B L q))).2.2.2[77]? = some (13, 0) := s
  have g9 : gI h 77 13 9 = some (msI (tSo B L q)) := by rw [gI_at s, K.2.1.2.2.1]
  have g10 : gI (sI h 77 12 (Int32.ofNat n)) 77 13 10 = some (Int32.ofNat (tFr B L q)) := by rw [gI_at s1, sI_ne (by omega), K.2.1.2.2.2.1]
  refine ⟨sI (sI (sI h 77 12 (Int32.ofNat n)) 77 13 (Int32.ofNat (tFr B L q))) 77 9 6, ?_, ((K.1.sI (by omega)).sI (by omega)).sI (by omega), sI_eq, ?_, ?_, hn.1, hn.2, D.2.2.2.length, V.1, ?_⟩
  · simp only [fX13_flaw, g9, bd_some, if_neg (msI_6 _), pI_at s, g10, pI_at s1, pI_at s2]
  · rw [sI_ne (by omega), sI_ne (by omega)]; exact sI_eq
  · rw [sI_ne (by omega)]; exact sI_eq
  · rw [sI_ne (by omega), sI_ne (by omega), sI_ne (by omega)]; exact K.2.2.2.1
theorem m_word (T : tBm B L p o h0) (K : KM B L o h0 X D q h) {t : Nat} (h1 : 5 ≤ t) (h2 : t < 26) : fX13_isWord h 77 t = some (if tWd B L q = wK.getD t 0 then 1 else 0, h) := by
  have s := m77 T K.1
  have g9 : gI h 77 13 9 = some (msI (tSo B L q)) := by rw [gI_at s, K.2.1.2.2.1]
  have c2 : (msI (tSo B L q) = 2) ↔ tSo B L q = 1 := msI_e (k := 1) (tSo_5 T.1.2.2.1) (by omega)
  have w1 := tWd_lt (B := B) (q := q) T.1.2.2.1 K.2.1.1
  obtain ⟨-, a2, a3⟩ := wK_all t h2 h1
  by_cases z : tSo B L q = 1
  · have g14 : gJ h 77 13 14 = some (Int64.ofNat (tWd B L q)) := by rw [gJ_at s, K.2.1.2.2.2.2.2 z]
    simp only [fX13_isWord, show tkc t = some () from if_pos h2, g9, if_pos (c2.mpr z), g14, m_packed h h1 h2, lgE, j_eqN (show tWd B L q < 9223372036854775808 by omega) a3, bd_some, bd2_some]
    by_cases z2 : tWd B L q = wK.getD t 0
    · rw [if_pos z2, if_pos z2]
    · rw [if_neg z2, if_neg z2]
  · have e0 : tWd B L q = 0 := by unfold tWd; rw [if_neg z]
    simp only [fX13_isWord, show tkc t = some () from if_pos h2, g9, if_neg (fun x => z (c2.mp x)), bd_some]
    rw [if_neg (by omega)]
theorem o_word (T : tBm B L p o h0) (K : KO o h0 e h) {t : Nat} (h2 : t < 26) : fX13_isWord h 77 t = some (0, h) := by
  simp only [fX13_isWord, show tkc t = some () from if_pos h2, gI_at (m77 T K.1), K.2.1, bd_some, if_neg (show ¬ (6 : Int32) = 2 by decide)]
end KMS
