/-! ===== office: the model's copies ===== -/
section MCP
variable {p o : Nat} {h : MH} {N : Nat → Int32}
/-- only v has changed -/
def v79 (h u : MH) : Prop := u.2 = h.2 ∧ ∀ b k, ¬ b = 79 → u.1 b k = h.1 b k
theorem m_o99 (s79 : h.2.2.2[79]? = some (15, 31)) (g15 : ∀ u : MH, u.2 = h.2 → gR u 77 13 15 = some 79) : ∀ (m k n : Nat) (u : MH), k + m = 31 → v79 h u → (∀ i, i < k → u.1 79 i = 0) → ∃ g, fX13_office_99 (n + m + 1) u 77 (Int32.ofNat k) = fX13_office_120 FU g 77 0 ∧ v79 h g ∧ ∀ i, i < 31 → g.1 79 i = 0
  | 0, k, n, u, e, h1, h2 => by
    refine ⟨u, ?_, h1, fun i hi => h2 i (by omega)⟩
    have c1 : ((31 : Int32) ≤ Int32.ofNat k) ↔ 31 ≤ k := k_le (i := 31) (by decide) (by omega)
    show bX13_office_99 _ u 77 (Int32.ofNat k) = _
    simp only [bX13_office_99, c1, if_pos (show 31 ≤ k by omega)]
  | m + 1, k, n, u, e, h1, h2 => by
    have c1 : ((31 : Int32) ≤ Int32.ofNat k) ↔ 31 ≤ k := k_le (i := 31) (by decide) (by omega)
    have t1 : tI u 79 (Int32.ofNat k) 0 = some (sI u 79 k 0) := tI_at (by rw [h1.1]; exact s79) (by omega) (by decide)
    obtain ⟨g, e1, d⟩ := m_o99 s79 g15 m (k + 1) n (sI u 79 k 0) (by omega) ⟨h1.1, fun b j hb => by rw [sI_ne (by omega)]; exact h1.2 b j hb⟩ (fun i hi => by
      by_cases z : i = k
      · rw [z]; exact sI_eq
      · rw [sI_ne (by omega)]; exact h2 i (by omega))
    refine ⟨g, ?_, d⟩
    show bX13_office_99 (fX13_office_99 (n + m + 1)) u 77 (Int32.ofNat k) = _
    simp only [bX13_office_99, c1, if_neg (show ¬ 31 ≤ k by omega), g15 u h1.1, t1, k_succ, e1, bd_some]
theorem m_o120 (s79 : h.2.2.2[79]? = some (15, 31)) (g15 : ∀ u : MH, u.2 = h.2 → gR u 77 13 15 = some 79) (g3 : ∀ u : MH, u.2 = h.2 → gR u 77 13 3 = some o) (g12 : ∀ u : MH, u.2 = h.2 → gR u o 12 12 = some (o + 4)) (s4 : h.2.2.2[o + 4]? = some (15, 4)) (ho : 90 ≤ o) (hN : ∀ i, i < 4 → h.1 (o + 4) i = N (10 + i)) : ∀ (m k n : Nat) (u : MH), k + m = 4 → v79 h u → (∀ i, i < 31 → u.1 79 i = if i < k then N (10 + i) else 0) → ∃ g, fX13_office_120 (n + m + 1) u 77 (Int32.ofNat k) = fX13_office_150 FU g 77 0 ∧ v79 h g ∧ ∀ i, i < 31 → g.1 79 i = if i < 4 then N (10 + i) else 0
  | 0, k, n, u, e, h1, h2 => by
    have ek : k = 4 := by omega
    subst ek
    exact ⟨u, rfl, h1, h2⟩
  | m + 1, k, n, u, e, h1, h2 => by
    have c1 : ((4 : Int32) ≤ Int32.ofNat k) ↔ 4 ≤ k := k_le (i := 4) (by decide) (by omega)
    have t0 : lI u (o + 4) (Int32.ofNat k) = some (N (10 + k)) := by rw [lI_at (by rw [h1.1]; exact s4) (show k < 4 by omega) (by decide), h1.2 _ _ (by omega), hN k (by omega)]
    have t1 : tI u 79 (Int32.ofNat k) (N (10 + k)) = some (sI u 79 k (N (10 + k))) := tI_at (by rw [h1.1]; exact s79) (by omega) (by decide)
    obtain ⟨g, e1, d⟩ := m_o120 s79 g15 g3 g12 s4 ho hN m (k + 1) n (sI u 79 k (N (10 + k))) (by omega) ⟨h1.1, fun b j hb => by rw [sI_ne (by omega)]; exact h1.2 b j hb⟩ (fun i hi => by
      by_cases z : i = k
      · rw [z, if_pos (by omega)]; exact sI_eq
      · rw [sI_ne (by omega), h2 i hi]
        by_cases z2 : i < k
        · rw [if_pos z2, if_pos (by omega)]
        · rw [if_neg z2, if_neg (by omega)])
    refine ⟨g, ?_, d⟩
    show bX13_office_120 (fX13_office_120 (n + m + 1)) u 77 (Int32.ofNat k) = _
    simp only [bX13_office_120, c1, if_neg (show ¬ 4 ≤ k by omega), g15 u h1.1, g3 u h1.1, g12 u h1.1, t0, Int32.zero_add, t1, k_succ, e1, bd_some]
end MCP
