/-! ===== office: the model's copies, the others ===== -/
section MCQ
variable {p o : Nat} {h : MH} {N : Nat → Int32}
theorem k_11a (i : Nat) : (11 : Int32) + Int32.ofNat i = Int32.ofNat (11 + i) := by rw [show (11 : Int32) = Int32.ofNat 11 from rfl, k_add]
theorem k_16a (i : Nat) : (16 : Int32) + Int32.ofNat i = Int32.ofNat (16 + i) := by rw [show (16 : Int32) = Int32.ofNat 16 from rfl, k_add]
theorem k_21a (i : Nat) : (21 : Int32) + Int32.ofNat i = Int32.ofNat (21 + i) := by rw [show (21 : Int32) = Int32.ofNat 21 from rfl, k_add]
def vA (N : Nat → Int32) (k : Nat) (i : Nat) : Int32 := if i < 4 then N (10 + i) else if 11 ≤ i ∧ i < 11 + k then N (i - 11) else if 16 ≤ i ∧ i < 16 + k then -2 else 0
theorem m_o150 (s79 : h.2.2.2[79]? = some (15, 31)) (g15 : ∀ u : MH, u.2 = h.2 → gR u 77 13 15 = some 79) (g3 : ∀ u : MH, u.2 = h.2 → gR u 77 13 3 = some o) (g10 : ∀ u : MH, u.2 = h.2 → gR u o 12 10 = some (o + 2)) (s2 : h.2.2.2[o + 2]? = some (15, 5)) (ho : 90 ≤ o) (hN : ∀ i, i < 5 → h.1 (o + 2) i = N i) : ∀ (m k n : Nat) (u : MH), k + m = 5 → v79 h u → (∀ i, i < 31 → u.1 79 i = vA N k i) → ∃ g, fX13_office_150 (n + m + 1) u 77 (Int32.ofNat k) = fX13_office_192 FU g 77 0 ∧ v79 h g ∧ ∀ i, i < 31 → g.1 79 i = vA N 5 i
  | 0, k, n, u, e, h1, h2 => by
    have ek : k = 5 := by omega
    subst ek
    exact ⟨u, rfl, h1, h2⟩
  | m + 1, k, n, u, e, h1, h2 => by
    have c1 : ((5 : Int32) ≤ Int32.ofNat k) ↔ 5 ≤ k := k_le (i := 5) (by decide) (by omega)
    have t0 : lI u (o + 2) (Int32.ofNat k) = some (N k) := by rw [lI_at (by rw [h1.1]; exact s2) (show k < 5 by omega) (by decide), h1.2 _ _ (by omega), hN k (by omega)]
    have t1 : tI u 79 (Int32.ofNat (11 + k)) (N k) = some (sI u 79 (11 + k) (N k)) := tI_at (by rw [h1.1]; exact s79) (by omega) (by decide)
    have t2 : tI (sI u 79 (11 + k) (N k)) 79 (Int32.ofNat (16 + k)) (-2) = some (sI (sI u 79 (11 + k) (N k)) 79 (16 + k) (-2)) := tI_at (show (sI u 79 (11 + k) (N k)).2.2.2[79]? = some (15, 31) by show u.2.2.2[79]? = _; rw [h1.1]; exact s79) (by omega) (by decide)
    obtain ⟨g, e1, d⟩ := m_o150 s79 g15 g3 g10 s2 ho hN m (k + 1) n (sI (sI u 79 (11 + k) (N k)) 79 (16 + k) (-2)) (by omega) ⟨h1.1, fun b j hb => by rw [sI_ne (by omega), sI_ne (by omega)]; exact h1.2 b j hb⟩ (fun i hi => by
      by_cases z : i = 16 + k
      · rw [z, sI_eq]; unfold vA; rw [if_neg (by omega), if_neg (by omega), if_pos (by omega)]
      · rw [sI_ne (by omega)]
        by_cases z2 : i = 11 + k
        · rw [z2, sI_eq]; unfold vA; rw [if_neg (by omega), if_pos (by omega), show 11 + k - 11 = k by omega]
        · rw [sI_ne (by omega), h2 i hi]
          unfold vA
          by_cases q1 : i < 4
          · rw [if_pos q1, if_pos q1]
          · rw [if_neg q1, if_neg q1]
            by_cases q2 : 11 ≤ i ∧ i < 11 + k
            · rw [if_pos q2, if_pos (show 11 ≤ i ∧ i < 11 + (k + 1) by omega)]
            · rw [if_neg q2, if_neg (show ¬ (11 ≤ i ∧ i < 11 + (k + 1)) by omega)]
              by_cases q3 : 16 ≤ i ∧ i < 16 + k
              · rw [if_pos q3, if_pos (show 16 ≤ i ∧ i < 16 + (k + 1) by omega)]
              · rw [if_neg q3, if_neg (show ¬ (16 ≤ i ∧ i < 16 + (k + 1)) by omega)])
    refine ⟨g, ?_, d⟩
    show bX13_office_150 (fX13_office_150 (n + m + 1)) u 77 (Int32.ofNat k) = _
    simp only [bX13_office_150, c1, if_neg (show ¬ 5 ≤ k by omega), g15 u h1.1, g3 u h1.1, g10 u h1.1, t0, k_11a, t1, g15 (sI u 79 (11 + k) (N k)) h1.1, k_16a, t2, k_succ, e1, bd_some]
end MCQ
