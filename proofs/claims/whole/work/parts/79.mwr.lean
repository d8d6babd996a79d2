/-! ===== READING: the model writes ===== -/
section KMW
variable {p o : Nat} {h h0 h' : MH} {B : Nat → Int32} {L q : Nat} {X X' : Nat → Nat → Prop} {D : DD} {e : Nat × Nat}
theorem mT_b : ∀ t, t < 12 → 1 ≤ mT' t ∧ mT' t ≤ 15 ∧ mT' t ≠ 2 ∧ mT' t ≠ 4 ∧ mT' t ≠ 10 ∧ (t ≠ 1 → mT' t ≠ 3) ∧ mSh[mT' t - 1]? = some (15, capL.getD t 0) := by decide
theorem mT_i : ∀ t, t < 12 → ∀ u, u < 12 → mT' t = mT' u → t = u := by decide
theorem KM.wk (K : KM B L o h0 X D q h) (hx : ∀ t i, t < 12 → X' t i → X t i) : KM B L o h0 X' D q h := by
  obtain ⟨F, k, d1, d2, d3, d4, d5, d6, d7⟩ := K
  exact ⟨F, k, d1, d2, d3, d4, d5, fun t i ht z => d6 t i ht (hx t i ht z), d7⟩
theorem mGC (T : tBm B L p o h0) (K : KM B L o h0 X D q h) (t : Nat) (h1 : 1 ≤ t) (ht : t < 8) : gI h o 12 t = some (Int32.ofNat (D.1 t)) := by rw [gI_at (mOk T K.1), K.2.2.2.2.2.2.1 t h1 ht]
theorem m12 (T : tBm B L p o h0) (K : KM B L o h0 X D q h) : gI h 77 13 9 = some (msI (tSo B L q)) := by rw [gI_at (m77 T K.1), K.2.1.2.2.1]
theorem o12 (T : tBm B L p o h0) (K : KO o h0 e h) : gI h 77 13 9 = some 6 := by rw [gI_at (m77 T K.1), K.2.1]
/-- a write into the office's cells that touches no data but what is said -/
theorem tkN.sI (K : tkN B L q h) {a k : Nat} {x : Int32} (ha : a ≠ 77) : tkN B L q (sI h a k x) := by
  obtain ⟨k1, k2, k3, k4, k5, k6⟩ := K
  exact ⟨k1, fun z => by rw [sI_ne (by omega)]; exact k2 z, by rw [sI_ne (by omega)]; exact k3, by rw [sI_ne (by omega)]; exact k4, fun z => by rw [sI_ne (by omega)]; exact k5 z, k6⟩
theorem m_wP (T : tBm B L p o h0) (K : KM B L o h0 X D q h) (t : Nat) (ht : t < 12) {i : Nat} (hi : i < capL.getD t 0) (h1 : t = 1 → i < D.1 2) (x : Int32) : ∃ h', tI h (o + mT' t) (Int32.ofNat i) x = some h' ∧ KM B L o h0 (xP X t i) (D.1, upP D.2.1 t i x, D.2.2.1, D.2.2.2) q h' := by
  have ho := T.2.2.1.1
  obtain ⟨b1, b2, b3, b4, b5, b6, b7⟩ := mT_b t ht
  have hc : ∀ t, t < 12 → capL.getD t 0 < 2147483648 := by decide
  have hs : h.2.2.2[o + mT' t]? = some (15, capL.getD t 0) := by
    have := ((mO T K.1).2.2 (mT' t - 1) _ b7).2
    rw [show o + 1 + (mT' t - 1) = o + mT' t by omega] at this
    exact this
  refine ⟨_, tI_at hs hi (hc t ht), ?_⟩
  obtain ⟨F, tk, d1, d2, d3, d4, d5, d6, d7, d8, d9, d10⟩ := K
  refine ⟨F.sI (by omega), tk.sI (by omega), by rw [sI_ne (by omega)]; exact d1, by rw [sI_ne (by omega)]; exact d2, by rw [sI_ne (by omega)]; exact d3, fun j e hj => ?_, fun u h1 hu => ?_, fun u j hu hx => ?_, fun j hj => ?_, fun j hj => ?_, fun j hj => ?_, fun j hj1 hj => ?_⟩
  · rw [sI_ne (by omega), sI_ne (by omega)]; exact d4 j e hj
  · rw [sI_ne (by omega)]; exact d5 u h1 hu
  · show _ = upP D.2.1 t i x u j
    unfold upP
    by_cases z : u = t ∧ j = i
    · rw [if_pos z, z.1, z.2]; exact sI_eq
    · rw [if_neg z, sI_ne (fun w => z ⟨mT_i u hu t ht (by omega), w.2⟩)]
      rcases hx with hx | hx
      · exact d6 u j hu hx
      · exact absurd hx z
  · rw [sI_ne (by omega)]; exact d7 j hj
  · rw [sI_ne (by omega)]; exact d8 j hj
  · rw [sI_ne (by omega)]; exact d9 j hj
  · have hj1' : D.1 2 ≤ j := hj1
    by_cases z : t = 1
    · have := h1 z
      rw [sI_ne (by omega)]; exact d10 j hj1 hj
    · have := b6 z
      rw [sI_ne (by omega)]; exact d10 j hj1 hj
theorem m_w1 (K : KM B L o h0 X D q h) (hc : D.1 2 < 5) : KM B L o h0 (xP X 1 (D.1 2)) (D.1, upP D.2.1 1 (D.1 2) (-2), D.2.2.1, D.2.2.2) q h := by
  obtain ⟨F, tk, d1, d2, d3, d4, d5, d6, d7⟩ := K
  refine ⟨F, tk, d1, d2, d3, d4, d5, fun u j hu hx => ?_, d7⟩
  show _ = upP D.2.1 1 (D.1 2) (-2) u j
  unfold upP
  by_cases z : u = 1 ∧ j = D.1 2
  · rw [if_pos z, z.1, z.2]
    exact d7.2.2.2 (D.1 2) (Nat.le_refl _) hc
  · rw [if_neg z]
    rcases hx with hx | hx
    · exact d6 u j hu hx
    · exact absurd hx z
theorem m_wN (T : tBm B L p o h0) (K : KM B L o h0 X D q h) {a i n : Nat} (x : Int32) (ha : (a = 2 ∧ n = i ∧ i < 5) ∨ (a = 4 ∧ n = 10 + i ∧ i < 4) ∨ (a = 10 ∧ n = 18 + i ∧ i < 10)) : ∃ h', tI h (o + a) (Int32.ofNat i) x = some h' ∧ KM B L o h0 X (D.1, D.2.1, upN D.2.2.1 n x, D.2.2.2) q h' := by
  have ho := T.2.2.1.1
  have M := mO T K.1
  have hs : tI h (o + a) (Int32.ofNat i) x = some (sI h (o + a) i x) := by
    rcases ha with ⟨rfl, -, hi⟩ | ⟨rfl, -, hi⟩ | ⟨rfl, -, hi⟩
    · exact tI_at (n := 5) (M.2.2 1 (15, 5) rfl).2 hi (by decide)
    · exact tI_at (n := 4) (M.2.2 3 (15, 4) rfl).2 hi (by decide)
    · exact tI_at (n := 10) (M.2.2 9 (15, 10) rfl).2 hi (by decide)
  refine ⟨_, hs, ?_⟩
  obtain ⟨F, tk, d1, d2, d3, d4, d5, d6, d7, d8, d9, d10⟩ := K
  refine ⟨F.sI (by omega), tk.sI (by omega), by rw [sI_ne (by omega)]; exact d1, by rw [sI_ne (by omega)]; exact d2, by rw [sI_ne (by omega)]; exact d3, fun j e hj => ?_, fun u h1 hu => ?_, fun u j hu hx => ?_, fun j hj => ?_, fun j hj => ?_, fun j hj => ?_, fun j hj1 hj => ?_⟩
  · rw [sI_ne (by omega), sI_ne (by omega)]; exact d4 j e hj
  · rw [sI_ne (by omega)]; exact d5 u h1 hu
  · obtain ⟨b1, b2, b3, b4, b5, b6, b7⟩ := mT_b u hu
    rw [sI_ne (by omega)]; exact d6 u j hu hx
  · show _ = upN D.2.2.1 n x j
    by_cases z : a = 2 ∧ j = i
    · rw [z.1, z.2, show n = i by omega, upN_e]; exact sI_eq
    · rw [sI_ne (by omega), upN_n (by omega)]; exact d7 j hj
  · show _ = upN D.2.2.1 n x (10 + j)
    by_cases z : a = 4 ∧ j = i
    · rw [z.1, z.2, show n = 10 + i by omega, upN_e]; exact sI_eq
    · rw [sI_ne (by omega), upN_n (by omega)]; exact d8 j hj
  · show _ = upN D.2.2.1 n x (18 + j)
    by_cases z : a = 10 ∧ j = i
    · rw [z.1, z.2, show n = 18 + i by omega, upN_e]; exact sI_eq
    · rw [sI_ne (by omega), upN_n (by omega)]; exact d9 j hj
  · rw [sI_ne (by omega)]; exact d10 j hj1 hj
theorem m_wC (T : tBm B L p o h0) (K : KM B L o h0 X D q h) (t : Nat) (h1 : 1 ≤ t) (ht : t < 8) (v : Nat) (hv : t = 2 → D.1 2 ≤ v) : ∃ h', pI h o 12 t (Int32.ofNat v) = some h' ∧ KM B L o h0 X (upN D.1 t v, D.2.1, D.2.2.1, D.2.2.2) q h' := by
  have ho := T.2.2.1.1
  refine ⟨_, pI_at (mOk T K.1), ?_⟩
  obtain ⟨F, tk, d1, d2, d3, d4, d5, d6, d7, d8, d9, d10⟩ := K
  refine ⟨F.sI (by omega), tk.sI (by omega), by rw [sI_ne (by omega)]; exact d1, by rw [sI_ne (by omega)]; exact d2, ?_, fun j e hj => ?_, fun u h1 hu => ?_, fun u j hu hx => ?_, fun j hj => ?_, fun j hj => ?_, fun j hj => ?_, fun j hj1 hj => ?_⟩
  · rw [sI_ne (by omega)]
    show _ = if upN D.1 t v 8 = 0 then -1 else Int32.ofNat (upN D.1 t v 0)
    rw [upN_n (by omega), upN_n (by omega)]; exact d3
  · rw [sI_ne (by omega), sI_ne (by omega)]; exact d4 j e hj
  · show _ = Int32.ofNat (upN D.1 t v u)
    by_cases z : u = t
    · rw [z, upN_e]; exact sI_eq
    · rw [sI_ne (by omega), upN_n z]; exact d5 u h1 hu
  · have := mT_b u hu
    rw [sI_ne (by omega)]; exact d6 u j hu hx
  · rw [sI_ne (by omega)]; exact d7 j hj
  · rw [sI_ne (by omega)]; exact d8 j hj
  · rw [sI_ne (by omega)]; exact d9 j hj
  · have hj1' : upN D.1 t v 2 ≤ j := hj1
    rw [sI_ne (by omega)]
    by_cases z : t = 2
    · subst z
      rw [upN_e] at hj1'
      exact d10 j (by have := hv rfl; omega) hj
    · rw [upN_n (by omega)] at hj1'; exact d10 j hj1' hj
theorem m_w0 (T : tBm B L p o h0) (K : KM B L o h0 X D q h) (v : Nat) : ∃ h', pI h o 12 0 (Int32.ofNat v) = some h' ∧ KM B L o h0 X (upN (upN D.1 8 1) 0 v, D.2.1, D.2.2.1, D.2.2.2) q h' := by
  have ho := T.2.2.1.1
  refine ⟨_, pI_at (mOk T K.1), ?_⟩
  obtain ⟨F, tk, d1, d2, d3, d4, d5, d6, d7, d8, d9, d10⟩ := K
  refine ⟨F.sI (by omega), tk.sI (by omega), by rw [sI_ne (by omega)]; exact d1, by rw [sI_ne (by omega)]; exact d2, ?_, fun j e hj => ?_, fun u h1 hu => ?_, fun u j hu hx => ?_, fun j hj => ?_, fun j hj => ?_, fun j hj => ?_, fun j hj1 hj => ?_⟩
  · rw [sI_eq]
    show _ = if upN (upN D.1 8 1) 0 v 8 = 0 then -1 else Int32.ofNat (upN (upN D.1 8 1) 0 v 0)
    rw [upN_n (by omega), upN_e, upN_e, if_neg (by omega)]
  · rw [sI_ne (by omega), sI_ne (by omega)]; exact d4 j e hj
  · show _ = Int32.ofNat (upN (upN D.1 8 1) 0 v u)
    rw [sI_ne (by omega), upN_n (by omega), upN_n (by omega)]; exact d5 u h1 hu
  · have := mT_b u hu
    rw [sI_ne (by omega)]; exact d6 u j hu hx
  · rw [sI_ne (by omega)]; exact d7 j hj
  · rw [sI_ne (by omega)]; exact d8 j hj
  · rw [sI_ne (by omega)]; exact d9 j hj
  · rw [sI_ne (by omega)]; exact d10 j hj1 hj
theorem m_nms (T : tBm B L p o h0) (K : KM B L o h0 X D q h) (hl : D.2.2.2.length < 17) (w s n : Nat) {x : Int32} (hx : x = sC s) : ∃ h', fX13_names h 77 (Int64.ofNat w) x (Int32.ofNat n) = some h' ∧ KM B L o h0 X (adN D w s n) q h' := by
  subst hx
  have ho := T.2.2.1.1
  have R : ∀ g : MH, g.2.2 = h.2.2 → gR g 77 13 4 = some o ∧ gR g o 12 24 = some (o + 16) ∧ gR g o 12 25 = some (o + 17) ∧ gR g o 12 26 = some (o + 18) ∧ g.2.2.2[o]? = some (12, 0) ∧ g.2.2.2[o + 16]? = some (16, 17) ∧ g.2.2.2[o + 17]? = some (15, 17) ∧ g.2.2.2[o + 18]? = some (15, 17) := fun g hg => by
    have F : frM o h0 (h.1, h.2.1, g.2.2) := ⟨by show g.2.2 = _; rw [hg]; exact K.1.1, K.1.2.1, K.1.2.2⟩
    have a1 := mAr T F 15 (k := 16) (n := 17) (w := 24) rfl rfl
    have a2 := mAr T F 16 (k := 15) (n := 17) (w := 25) rfl rfl
    have a3 := mAr T F 17 (k := 15) (n := 17) (w := 26) rfl rfl
    have a0 := mR4 T F
    have a5 := mOk T F
    exact ⟨a0, a1.1, a2.1, a3.1, a5, a1.2, a2.2, a3.2⟩
  obtain ⟨x1, x2, x3, x4, x5, x6, x7, x8⟩ := R h rfl
  have k8 : h.1 o 8 = Int32.ofNat D.2.2.2.length := K.2.2.2.1
  have t1 : tJ h (o + 16) (Int32.ofNat D.2.2.2.length) (Int64.ofNat w) = some (sJ h (o + 16) D.2.2.2.length (Int64.ofNat w)) := tJ_at x6 hl (by decide)
  have c1 : (sJ h (o + 16) D.2.2.2.length (Int64.ofNat w)).1 = h.1 := rfl
  obtain ⟨y1, y2, y3, y4, y5, y6, y7, y8⟩ := R (sJ h (o + 16) D.2.2.2.length (Int64.ofNat w)) rfl
  have cj : ∀ b k, ¬ (b = o + 16 ∧ k = D.2.2.2.length) → (sJ h (o + 16) D.2.2.2.length (Int64.ofNat w)).2.1 b k = h.2.1 b k := fun b k hn => by
    show up2 h.2.1 (o + 16) D.2.2.2.length (Int64.ofNat w) b k = _
    unfold up2
    rw [if_neg hn]
  have ce : (sJ h (o + 16) D.2.2.2.length (Int64.ofNat w)).2.1 (o + 16) D.2.2.2.length = Int64.ofNat w := by
    show up2 h.2.1 (o + 16) D.2.2.2.length (Int64.ofNat w) (o + 16) D.2.2.2.length = _
    unfold up2
    rw [if_pos ⟨rfl, rfl⟩]
  have u22 : (sJ h (o + 16) D.2.2.2.length (Int64.ofNat w)).2.2 = h.2.2 := rfl
  generalize hg1 : sJ h (o + 16) D.2.2.2.length (Int64.ofNat w) = u1 at *
  have t2 : tI u1 (o + 17) (Int32.ofNat D.2.2.2.length) (sC s) = some (sI u1 (o + 17) D.2.2.2.length (sC s)) := tI_at y7 hl (by decide)
  obtain ⟨z1, z2, z3, z4, z5, z6, z7, z8⟩ := R (sI u1 (o + 17) D.2.2.2.length (sC s)) u22
  have t3 : tI (sI u1 (o + 17) D.2.2.2.length (sC s)) (o + 18) (Int32.ofNat D.2.2.2.length) (Int32.ofNat n) = some (sI (sI u1 (o + 17) D.2.2.2.length (sC s)) (o + 18) D.2.2.2.length (Int32.ofNat n)) := tI_at z8 hl (by decide)
  obtain ⟨v1, v2, v3, v4, v5, v6, v7, v8⟩ := R (sI (sI u1 (o + 17) D.2.2.2.length (sC s)) (o + 18) D.2.2.2.length (Int32.ofNat n)) u22
  have q0 : gI h o 12 8 = some (Int32.ofNat D.2.2.2.length) := by rw [gI_at x5, k8]
  have q1 : gI u1 o 12 8 = some (Int32.ofNat D.2.2.2.length) := by rw [gI_at y5, c1, k8]
  have q2 : gI (sI u1 (o + 17) D.2.2.2.length (sC s)) o 12 8 = some (Int32.ofNat D.2.2.2.length) := by rw [gI_at z5, sI_ne (by omega), c1, k8]
  have q3 : gI (sI (sI u1 (o + 17) D.2.2.2.length (sC s)) (o + 18) D.2.2.2.length (Int32.ofNat n)) o 12 8 = some (Int32.ofNat D.2.2.2.length) := by rw [gI_at v5, sI_ne (by omega), sI_ne (by omega), c1, k8]
  refine ⟨sI (sI (sI u1 (o + 17) D.2.2.2.length (sC s)) (o + 18) D.2.2.2.length (Int32.ofNat n)) o 8 (Int32.ofNat (D.2.2.2.length + 1)), ?_, ?_⟩
  · simp only [fX13_names, x1, x2, q0, t1, y1, y3, q1, t2, z1, z4, q2, t3, v1, q3, k_succ, pI_at v5, bd_some]
  · obtain ⟨F, tk, d1, d2, d3, d4, d5, d6, d7, d8, d9, d10⟩ := K
    have F1 : frM o h0 u1 := ⟨by rw [u22]; exact F.1, fun b k hn => by rw [c1]; exact F.2.1 b k hn, fun b k hn => by rw [cj b k (by omega)]; exact F.2.2 b k hn⟩
    have tk1 : tkN B L q u1 := by
      obtain ⟨k1, k2, k3, k4, k5, k6⟩ := tk
      exact ⟨k1, fun z => by rw [c1]; exact k2 z, by rw [c1]; exact k3, by rw [c1]; exact k4, fun z => by rw [c1]; exact k5 z, fun z => by rw [cj 77 14 (by omega)]; exact k6 z⟩
    refine ⟨((F1.sI (by omega)).sI (by omega)).sI (by omega), ((tk1.sI (by omega)).sI (by omega)).sI (by omega), ?_, ?_, ?_, fun i e hi => ?_, fun u h1 hu => ?_, fun u j hu hx => ?_, fun j hj => ?_, fun j hj => ?_, fun j hj => ?_, fun j hj1 hj => ?_⟩
    · rw [sI_ne (by omega), sI_ne (by omega), sI_ne (by omega), c1]; exact d1
    · rw [sI_eq]; show _ = Int32.ofNat (D.2.2.2 ++ [(w, s, n)]).length; rw [len_ad]
    · rw [sI_ne (by omega), sI_ne (by omega), sI_ne (by omega), c1]; exact d3
    · have hi' : (D.2.2.2 ++ [(w, s, n)])[i]? = some e := hi
      by_cases zi : i < D.2.2.2.length
      · rw [List.getElem?_append_left zi] at hi'
        obtain ⟨w1, w2, w3⟩ := d4 i e hi'
        refine ⟨?_, ?_, ?_⟩
        · show u1.2.1 (o + 16) i = _
          rw [cj _ _ (by omega)]; exact w1
        · rw [sI_ne (by omega), sI_ne (by omega), sI_ne (by omega), c1]; exact w2
        · rw [sI_ne (by omega), sI_ne (by omega), sI_ne (by omega), c1]; exact w3
      · rw [List.getElem?_append_right (by omega)] at hi'
        have zi2 : i = D.2.2.2.length := by
          have := (List.getElem?_eq_some_iff.mp hi').1
          simp only [List.length_cons, List.length_nil] at this
          omega
        subst zi2
        rw [Nat.sub_self] at hi'
        have hy : e = (w, s, n) := (Option.some.inj hi').symm
        rw [hy]
        refine ⟨?_, ?_, ?_⟩
        · show u1.2.1 (o + 16) D.2.2.2.length = _
          exact ce
        · rw [sI_ne (by omega), sI_ne (by omega), sI_eq]
        · rw [sI_ne (by omega), sI_eq]
    · rw [sI_ne (by omega), sI_ne (by omega), sI_ne (by omega), c1]; exact d5 u h1 hu
    · have := mT_b u hu
      rw [sI_ne (by omega), sI_ne (by omega), sI_ne (by omega), c1]; exact d6 u j hu hx
    · rw [sI_ne (by omega), sI_ne (by omega), sI_ne (by omega), c1]; exact d7 j hj
    · rw [sI_ne (by omega), sI_ne (by omega), sI_ne (by omega), c1]; exact d8 j hj
    · rw [sI_ne (by omega), sI_ne (by omega), sI_ne (by omega), c1]; exact d9 j hj
    · rw [sI_ne (by omega), sI_ne (by omega), sI_ne (by omega), c1]; exact d10 j hj1 hj
end KMW
