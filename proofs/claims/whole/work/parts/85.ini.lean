/-! ===== READING: the model's new office ===== -/
/-- after j of its rows -/
def inM (h : MH) (j : Nat) (g : MH) : Prop := g.2.2.2 = h.2.2.2 ++ ((12, 0) :: mSh.take j) ∧ (∀ b k, b < h.2.2.2.length → g.1 b k = h.1 b k ∧ g.2.1 b k = h.2.1 b k ∧ g.2.2.1 b k = h.2.2.1 b k) ∧ g.1 h.2.2.2.length 0 = -1 ∧ (∀ b k, h.2.2.2.length ≤ b → b ≤ h.2.2.2.length + j → ¬ (b = h.2.2.2.length ∧ k = 0) → g.1 b k = 0) ∧ ∀ i, i < j → g.2.2.1 h.2.2.2.length (9 + i) = some (h.2.2.2.length + 1 + i)
section INI
variable {h g : MH}
theorem inM.len {j : Nat} (hj : j ≤ 18) (I : inM h j g) : g.2.2.2.length = h.2.2.2.length + 1 + j := by
  rw [I.1, List.length_append, List.length_cons, List.length_take]
  have : mSh.length = 18 := by decide
  omega
theorem inM.o {j : Nat} (I : inM h j g) : g.2.2.2[h.2.2.2.length]? = some (12, 0) := by
  rw [I.1, List.getElem?_append_right (Nat.le_refl _), Nat.sub_self]; rfl
theorem inM.st {j k n u v : Nat} (I : inM h j g) (hj : mSh[j]? = some (k, n)) (hu : u = h.2.2.2.length + 1 + j) (hv : v = 9 + j) : ∃ g1 g2, nO2 g k n = some (u, g1) ∧ pR g1 h.2.2.2.length 12 v u = some g2 ∧ inM h (j + 1) g2 := by
  subst hu hv
  have hj18 : j < 18 := (List.getElem?_eq_some_iff.mp hj).1
  have ln := I.len (by omega)
  have hs : (nC g k n).2.2.2[h.2.2.2.length]? = some (12, 0) := by
    show (g.2.2.2 ++ [(k, n)])[h.2.2.2.length]? = _
    rw [List.getElem?_append_left (by omega)]; exact I.o
  refine ⟨nC g k n, _, ?_, pR_at hs, ?_⟩
  · show some (g.2.2.2.length, nC g k n) = _
    rw [ln]
  · obtain ⟨i1, i2, i3, i4, i5⟩ := I
    refine ⟨?_, fun b q hb => ?_, ?_, fun b q h1 h2 h3 => ?_, fun i hi => ?_⟩
    · show g.2.2.2 ++ [(k, n)] = _
      rw [i1, List.append_assoc]
      congr 1
      show (12, 0) :: (mSh.take j ++ [(k, n)]) = _
      rw [List.take_succ, hj]; rfl
    · refine ⟨?_, ?_, ?_⟩
      · show (if b = g.2.2.2.length then 0 else g.1 b q) = _
        rw [if_neg (by omega)]; exact (i2 b q hb).1
      · show (if b = g.2.2.2.length then 0 else g.2.1 b q) = _
        rw [if_neg (by omega)]; exact (i2 b q hb).2.1
      · show up2 (fun b j => if b = g.2.2.2.length then none else g.2.2.1 b j) h.2.2.2.length (9 + j) (some (h.2.2.2.length + 1 + j)) b q = _
        unfold up2
        rw [if_neg (by omega)]
        show (if b = g.2.2.2.length then none else g.2.2.1 b q) = _
        rw [if_neg (by omega)]; exact (i2 b q hb).2.2
    · show (if h.2.2.2.length = g.2.2.2.length then 0 else g.1 h.2.2.2.length 0) = _
      rw [if_neg (by omega)]; exact i3
    · show (if b = g.2.2.2.length then 0 else g.1 b q) = 0
      by_cases z : b = g.2.2.2.length
      · rw [if_pos z]
      · rw [if_neg z]; exact i4 b q h1 (by omega) h3
    · show up2 (fun b j => if b = g.2.2.2.length then none else g.2.2.1 b j) h.2.2.2.length (9 + j) (some (h.2.2.2.length + 1 + j)) h.2.2.2.length (9 + i) = _
      unfold up2
      by_cases z : i = j
      · rw [if_pos ⟨rfl, by omega⟩, z]
      · rw [if_neg (by omega)]
        show (if h.2.2.2.length = g.2.2.2.length then none else g.2.2.1 h.2.2.2.length (9 + i)) = _
        rw [if_neg (by omega)]; exact i5 i (by omega)
theorem m_i144 {o : Nat} (ho : h.2.2.2[o]? = some (12, 0)) (g11 : gR h o 12 11 = some (o + 3)) (s3 : h.2.2.2[o + 3]? = some (15, 5)) : ∃ g, fX12_init_144 FU h o 0 = some g ∧ g.2 = h.2 ∧ (∀ b k, ¬ b = o + 3 → g.1 b k = h.1 b k) ∧ ∀ i, i < 5 → g.1 (o + 3) i = -2 := by
  have R : ∀ u : MH, u.2 = h.2 → gR u o 12 11 = some (o + 3) ∧ ∀ i x, i < 5 → tI u (o + 3) (Int32.ofNat i) x = some (sI u (o + 3) i x) := fun u hu => by
    have hu2 : u.2.2.2 = h.2.2.2 := by rw [hu]
    refine ⟨?_, fun i x hi => tI_at (by rw [hu2]; exact s3) hi (by decide)⟩
    refine gR_at (by rw [hu2]; exact ho) ?_
    rw [hu]
    have := g11
    rw [gR, if_pos (isK_of ho)] at this
    exact this
  have lp : ∀ (m k n : Nat) (u : MH), k + m = 5 → u.2 = h.2 → (∀ b j, ¬ b = o + 3 → u.1 b j = h.1 b j) → (∀ i, i < k → u.1 (o + 3) i = -2) → ∃ g, fX12_init_144 (n + m + 1) u o (Int32.ofNat k) = some g ∧ g.2 = h.2 ∧ (∀ b j, ¬ b = o + 3 → g.1 b j = h.1 b j) ∧ ∀ i, i < 5 → g.1 (o + 3) i = -2 := by
    intro m
    induction m with
    | zero =>
      intro k n u e h1 h2 h3
      refine ⟨u, ?_, h1, h2, fun i hi => h3 i (by omega)⟩
      have c1 : ((5 : Int32) ≤ Int32.ofNat k) ↔ 5 ≤ k := k_le (i := 5) (by decide) (by omega)
      show bX12_init_144 _ u o (Int32.ofNat k) = _
      simp only [bX12_init_144, c1, if_pos (show 5 ≤ k by omega)]
    | succ m ih =>
      intro k n u e h1 h2 h3
      have c1 : ((5 : Int32) ≤ Int32.ofNat k) ↔ 5 ≤ k := k_le (i := 5) (by decide) (by omega)
      obtain ⟨r1, r2⟩ := R u h1
      obtain ⟨g, e1, d⟩ := ih (k + 1) n (sI u (o + 3) k (-2)) (by omega) h1 (fun b j hb => by rw [sI_ne (by omega)]; exact h2 b j hb) (fun i hi => by
        by_cases z : i = k
        · rw [z]; exact sI_eq
        · rw [sI_ne (by omega)]; exact h3 i (by omega))
      refine ⟨g, ?_, d⟩
      show bX12_init_144 (fX12_init_144 (n + m + 1)) u o (Int32.ofNat k) = _
      simp only [bX12_init_144, c1, if_neg (show ¬ 5 ≤ k by omega), r1, r2 k (-2) (by omega), k_succ, e1, bd_some]
  obtain ⟨n, hn⟩ := FU_at 5 (by decide)
  rw [hn]
  exact lp 5 0 n h rfl rfl (fun _ _ _ => rfl) (fun i hi => by omega)
/-- the office that is made -/
theorem m_init (h : MH) : ∃ g1 g, nO h 12 = some (h.2.2.2.length, g1) ∧ fX12_init g1 h.2.2.2.length = some g ∧ g.2.2.2 = h.2.2.2 ++ ((12, 0) :: mSh) ∧ (∀ b k, b < h.2.2.2.length → g.1 b k = h.1 b k ∧ g.2.1 b k = h.2.1 b k ∧ g.2.2.1 b k = h.2.2.1 b k) ∧ g.1 h.2.2.2.length 0 = -1 ∧ (∀ b k, h.2.2.2.length ≤ b → b ≤ h.2.2.2.length + 18 → ¬ (b = h.2.2.2.length ∧ k = 0) → ¬ b = h.2.2.2.length + 3 → g.1 b k = 0) ∧ (∀ i, i < 5 → g.1 (h.2.2.2.length + 3) i = -2) ∧ ∀ i, i < 18 → g.2.2.1 h.2.2.2.length (9 + i) = some (h.2.2.2.length + 1 + i) := by
  have s0 : (nC h 12 0).2.2.2[h.2.2.2.length]? = some (12, 0) := by
    show (h.2.2.2 ++ [(12, 0)])[h.2.2.2.length]? = _
    rw [List.getElem?_append_right (Nat.le_refl _), Nat.sub_self]; rfl
  have p0 : pI (nC h 12 0) h.2.2.2.length 12 0 (-1) = some (sI (nC h 12 0) h.2.2.2.length 0 (-1)) := pI_at s0
  have I0 : inM h 0 (sI (nC h 12 0) h.2.2.2.length 0 (-1)) := by
    refine ⟨rfl, fun b k hb => ⟨?_, ?_, ?_⟩, sI_eq, fun b k h1 h2 h3 => ?_, fun i hi => absurd hi (Nat.not_lt_zero _)⟩
    · rw [sI_ne (by omega)]; exact if_neg (by omega)
    · exact if_neg (by omega)
    · exact if_neg (by omega)
    · rw [sI_ne h3]; exact if_pos (by omega)
  obtain ⟨u0, v0, a0, b0, I1⟩ := I0.st (j := 0) (k := 15) (n := 5) (v := 9) rfl rfl rfl
  obtain ⟨u1, v1, a1, b1, I2⟩ := I1.st (j := 1) (k := 15) (n := 5) (v := 10) rfl rfl rfl
  obtain ⟨u2, v2, a2, b2, I3⟩ := I2.st (j := 2) (k := 15) (n := 5) (v := 11) rfl rfl rfl
  obtain ⟨u3, v3, a3, b3, I4⟩ := I3.st (j := 3) (k := 15) (n := 4) (v := 12) rfl rfl rfl
  obtain ⟨u4, v4, a4, b4, I5⟩ := I4.st (j := 4) (k := 15) (n := 4) (v := 13) rfl rfl rfl
  obtain ⟨u5, v5, a5, b5, I6⟩ := I5.st (j := 5) (k := 15) (n := 4) (v := 14) rfl rfl rfl
  obtain ⟨u6, v6, a6, b6, I7⟩ := I6.st (j := 6) (k := 15) (n := 10) (v := 15) rfl rfl rfl
  obtain ⟨u7, v7, a7, b7, I8⟩ := I7.st (j := 7) (k := 15) (n := 10) (v := 16) rfl rfl rfl
  obtain ⟨u8, v8, a8, b8, I9⟩ := I8.st (j := 8) (k := 15) (n := 10) (v := 17) rfl rfl rfl
  obtain ⟨u9, v9, a9, b9, I10⟩ := I9.st (j := 9) (k := 15) (n := 10) (v := 18) rfl rfl rfl
  obtain ⟨u10, v10, a10, b10, I11⟩ := I10.st (j := 10) (k := 15) (n := 3) (v := 19) rfl rfl rfl
  obtain ⟨u11, v11, a11, b11, I12⟩ := I11.st (j := 11) (k := 15) (n := 3) (v := 20) rfl rfl rfl
  obtain ⟨u12, v12, a12, b12, I13⟩ := I12.st (j := 12) (k := 15) (n := 4) (v := 21) rfl rfl rfl
  obtain ⟨u13, v13, a13, b13, I14⟩ := I13.st (j := 13) (k := 15) (n := 4) (v := 22) rfl rfl rfl
  obtain ⟨u14, v14, a14, b14, I15⟩ := I14.st (j := 14) (k := 15) (n := 4) (v := 23) rfl rfl rfl
  obtain ⟨u15, v15, a15, b15, I16⟩ := I15.st (j := 15) (k := 16) (n := 17) (v := 24) rfl rfl rfl
  obtain ⟨u16, v16, a16, b16, I17⟩ := I16.st (j := 16) (k := 15) (n := 17) (v := 25) rfl rfl rfl
  obtain ⟨u17, v17, a17, b17, I18⟩ := I17.st (j := 17) (k := 15) (n := 17) (v := 26) rfl rfl rfl
  have so := I18.o
  have e18 : mSh.take 18 = mSh := by decide
  have s3 : v17.2.2.2[h.2.2.2.length + 3]? = some (15, 5) := by
    rw [I18.1, List.getElem?_append_right (by omega), show h.2.2.2.length + 3 - h.2.2.2.length = 3 by omega]; rfl
  obtain ⟨g, e, d1, d2, d3⟩ := m_i144 so (gR_at so (I18.2.2.2.2 2 (by omega))) s3
  refine ⟨nC h 12 0, g, rfl, ?_, ?_, fun b k hb => ?_, ?_, fun b k h1 h2 h3 h4 => ?_, d3, fun i hi => ?_⟩
  · simp only [fX12_init, p0, a0, b0, a1, b1, a2, b2, a3, b3, a4, b4, a5, b5, a6, b6, a7, b7, a8, b8, a9, b9, a10, b10, a11, b11, a12, b12, a13, b13, a14, b14, a15, b15, a16, b16, a17, b17, e, bd_some, bd2_some]
  · rw [d1, I18.1, e18]
  · rw [d2 b k (by omega), d1]; exact I18.2.1 b k hb
  · rw [d2 _ _ (by omega)]; exact I18.2.2.1
  · rw [d2 b k h4]; exact I18.2.2.2.1 b k h1 h2 h3
  · rw [d1]; exact I18.2.2.2.2 i hi
end INI
