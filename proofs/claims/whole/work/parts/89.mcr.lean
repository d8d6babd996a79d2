/-! ===== office: the model's copies, the end ===== -/
section MCR
variable {p o : Nat} {h : MH} {N : Nat → Int32}
def vB (N : Nat → Int32) (k : Nat) (i : Nat) : Int32 := if 21 ≤ i ∧ i < 21 + k then N (i - 3) else vA N 5 i
theorem m_o192 {c2 : Int32} (s77 : h.2.2.2[77]? = some (13, 0)) (s79 : h.2.2.2[79]? = some (15, 31)) (so : h.2.2.2[o]? = some (12, 0)) (g15 : ∀ u : MH, u.2 = h.2 → gR u 77 13 15 = some 79) (g3 : ∀ u : MH, u.2 = h.2 → gR u 77 13 3 = some o) (g18 : ∀ u : MH, u.2 = h.2 → gR u o 12 18 = some (o + 10)) (s10 : h.2.2.2[o + 10]? = some (15, 10)) (ho : 90 ≤ o) (hc : h.1 o 2 = c2) (hN : ∀ i, i < 10 → h.1 (o + 10) i = N (18 + i)) : ∀ (m k n : Nat) (u : MH), k + m = 10 → v79 h u → (∀ i, i < 31 → u.1 79 i = vB N k i) → ∃ g, fX13_office_192 (n + m + 1) u 77 (Int32.ofNat k) = some (c2, g) ∧ g.2 = h.2 ∧ (∀ b j, ¬ b = 79 → ¬ (b = 77 ∧ (j = 1 ∨ j = 2 ∨ j = 18 ∨ j = 19)) → g.1 b j = h.1 b j) ∧ (∀ i, i < 31 → g.1 79 i = vB N 10 i) ∧ g.1 77 1 = 0 ∧ g.1 77 2 = -1 ∧ g.1 77 18 = 0 ∧ g.1 77 19 = 0
  | 0, k, n, u, e, h1, h2 => by
    have ek : k = 10 := by omega
    subst ek
    have c1 : (10 : Int32) ≤ Int32.ofNat 10 := by decide
    have u77 : u.2.2.2[77]? = some (13, 0) := by rw [h1.1]; exact s77
    have uo : u.2.2.2[o]? = some (12, 0) := by rw [h1.1]; exact so
    have P : ∀ (f : Nat → Nat → Int32) (k : Nat) (x : Int32), pI (f, u.2) 77 13 k x = some (up2 f 77 k x, u.2) := fun f k x => pI_at (h := (f, u.2)) u77
    have p1 : pI u 77 13 18 0 = some (up2 u.1 77 18 0, u.2) := pI_at u77
    have q3 : gR (up2 (up2 u.1 77 18 0) 77 19 0, u.2) 77 13 3 = some o := g3 (up2 (up2 u.1 77 18 0) 77 19 0, u.2) h1.1
    have q2 : gI (up2 (up2 u.1 77 18 0) 77 19 0, u.2) o 12 2 = some c2 := by
      rw [gI_at (h := (up2 (up2 u.1 77 18 0) 77 19 0, u.2)) uo]
      show some (up2 (up2 u.1 77 18 0) 77 19 0 o 2) = _
      unfold up2
      rw [if_neg (by omega), if_neg (by omega), h1.2 o 2 (by omega), hc]
    have ckk : ck (up2 (up2 u.1 77 18 0) 77 19 0, u.2) 77 13 = some () := ck_at (h := (up2 (up2 u.1 77 18 0) 77 19 0, u.2)) u77
    refine ⟨(up2 (up2 (up2 (up2 u.1 77 18 0) 77 19 0) 77 1 0) 77 2 (-1), u.2), ?_, h1.1, fun b j z1 z2 => ?_, fun i hi => ?_, ?_, ?_, ?_, ?_⟩
    · show bX13_office_192 _ u 77 (Int32.ofNat 10) = _
      simp only [bX13_office_192, if_pos c1, p1, P, q3, q2, ckk, fX13_good1, bd_some, bd2_some]
    · show up2 (up2 (up2 (up2 u.1 77 18 0) 77 19 0) 77 1 0) 77 2 (-1) b j = _
      unfold up2
      rw [if_neg (by omega), if_neg (by omega), if_neg (by omega), if_neg (by omega)]; exact h1.2 b j z1
    · show up2 (up2 (up2 (up2 u.1 77 18 0) 77 19 0) 77 1 0) 77 2 (-1) 79 i = _
      unfold up2
      rw [if_neg (by omega), if_neg (by omega), if_neg (by omega), if_neg (by omega)]; exact h2 i hi
    · show up2 (up2 (up2 (up2 u.1 77 18 0) 77 19 0) 77 1 0) 77 2 (-1) 77 1 = _
      unfold up2
      rw [if_neg (by omega), if_pos ⟨rfl, rfl⟩]
    · show up2 (up2 (up2 (up2 u.1 77 18 0) 77 19 0) 77 1 0) 77 2 (-1) 77 2 = _
      unfold up2
      rw [if_pos ⟨rfl, rfl⟩]
    · show up2 (up2 (up2 (up2 u.1 77 18 0) 77 19 0) 77 1 0) 77 2 (-1) 77 18 = _
      unfold up2
      rw [if_neg (by omega), if_neg (by omega), if_neg (by omega), if_pos ⟨rfl, rfl⟩]
    · show up2 (up2 (up2 (up2 u.1 77 18 0) 77 19 0) 77 1 0) 77 2 (-1) 77 19 = _
      unfold up2
      rw [if_neg (by omega), if_neg (by omega), if_pos ⟨rfl, rfl⟩]
  | m + 1, k, n, u, e, h1, h2 => by
    have c1 : ((10 : Int32) ≤ Int32.ofNat k) ↔ 10 ≤ k := k_le (i := 10) (by decide) (by omega)
    have t0 : lI u (o + 10) (Int32.ofNat k) = some (N (18 + k)) := by rw [lI_at (by rw [h1.1]; exact s10) (show k < 10 by omega) (by decide), h1.2 _ _ (by omega), hN k (by omega)]
    have t1 : tI u 79 (Int32.ofNat (21 + k)) (N (18 + k)) = some (sI u 79 (21 + k) (N (18 + k))) := tI_at (by rw [h1.1]; exact s79) (by omega) (by decide)
    obtain ⟨g, e1, d⟩ := m_o192 s77 s79 so g15 g3 g18 s10 ho hc hN m (k + 1) n (sI u 79 (21 + k) (N (18 + k))) (by omega) ⟨h1.1, fun b j hb => by rw [sI_ne (by omega)]; exact h1.2 b j hb⟩ (fun i hi => by
      by_cases z : i = 21 + k
      · rw [z, sI_eq]; unfold vB; rw [if_pos (by omega), show 21 + k - 3 = 18 + k by omega]
      · rw [sI_ne (by omega), h2 i hi]
        unfold vB
        by_cases q2 : 21 ≤ i ∧ i < 21 + k
        · rw [if_pos q2, if_pos (show 21 ≤ i ∧ i < 21 + (k + 1) by omega)]
        · rw [if_neg q2, if_neg (show ¬ (21 ≤ i ∧ i < 21 + (k + 1)) by omega)])
    refine ⟨g, ?_, d⟩
    show bX13_office_192 (fX13_office_192 (n + m + 1)) u 77 (Int32.ofNat k) = _
    simp only [bX13_office_192, c1, if_neg (show ¬ 10 ≤ k by omega), g15 u h1.1, g3 u h1.1, g18 u h1.1, t0, k_21a, t1, k_succ, e1, bd_some]
end MCR
