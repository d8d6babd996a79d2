/-! ===== one turn of the law, the loop ===== -/
section LLP
variable {p : Nat} {P : PT} {c : CT} {N : Nat → Int32} {f a m w : Nat} {h : MH} {Ls : Nat} {xs : Nat → Int32} {k : MH → Nat → Nat → Nat → Int32 → Option (Int32 × MH)} {x y0 y1 y2 y3 y4 y5 : Int32}
theorem nx_ite {q : Prop} [Decidable q] {A B : Option (Int32 × MH)} (a : NX k h x A) (b : NX k h x B) : NX k h x (if q then A else B) := by
  by_cases z : q
  · rw [if_pos z]; exact a
  · rw [if_neg z]; exact b
set_option maxRecDepth 20000 in
theorem n_turn (R : RR p P c N f a m w h) (hx : ¬ (Int32.ofNat Ls - 6) < x) (e0 : sld Ls xs x = some y0) (e1 : sld Ls xs (x + 1) = some y1) (e2 : sld Ls xs (x + 2) = some y2) (e3 : sld Ls xs (x + 3) = some y3) (e4 : sld Ls xs (x + 4) = some y4) (e5 : sld Ls xs (x + 5) = some y5) : NX k h x (bL_law_23 Ls xs k h 0 77 89 x) := by
  unfold bL_law_23
  rw [bd_some, if_neg hx, e0, bd_some]
  refine nx_ite (n_264 R e1 e2 e3 e4 e5) ?_
  refine nx_ite (n_337 R e1) ?_
  refine nx_ite (n_362 R) ?_
  refine nx_ite (n_375 R) ?_
  refine nx_ite (n_388 R e1 e2) ?_
  refine nx_ite (n_425 R e1 e2) ?_
  refine nx_ite (n_462 R e1 e2) ?_
  refine nx_ite (n_499 R e1 e2) ?_
  refine nx_ite (n_536 R e1 e2) ?_
  refine nx_ite (n_573 R e1 e2) ?_
  refine nx_ite (n_610 R e1 e2) ?_
  refine nx_ite (n_647 R e1 e2 e3) ?_
  refine nx_ite (n_696 R e1 e2) ?_
  refine nx_ite (n_733 R e1) ?_
  refine nx_ite (n_758 R e1 e2) ?_
  refine nx_ite (n_795 R) ?_
  refine nx_ite (n_808 R e1) ?_
  refine nx_ite (n_833 R) ?_
  refine nx_ite (n_846 R) ?_
  refine nx_ite (n_859 R e1 e2 e3) ?_
  refine nx_ite (n_908 R e1) ?_
  refine nx_ite (n_933 R e1 e2) ?_
  refine nx_ite (n_987 R) ?_
  refine nx_ite (n_1000 R e1 e2 e3 e4) ?_
  refine nx_ite (n_1078 R) ?_
  refine nx_ite (n_1091 R e1) ?_
  refine nx_ite (n_1116 R) ?_
  refine nx_ite (n_1129 R) ?_
  refine nx_ite (n_1142 R e1 e2) ?_
  refine nx_ite (n_1179 R e1) ?_
  refine nx_ite (n_1204 R) ?_
  refine nx_ite (n_1217 R) ?_
  refine nx_ite (n_1230 R e1 e2) ?_
  refine nx_ite (n_1267 R) ?_
  refine nx_ite (n_1280 R) ?_
  refine nx_ite (n_1293 R) ?_
  refine nx_ite (n_1306 R) ?_
  refine nx_ite (n_1319 R e1 e2 e3 e4 e5) ?_
  refine nx_ite (n_1409 R e1 e2 e3) ?_
  refine nx_ite (n_1475 R e1 e2 e3) ?_
  refine nx_ite (n_1524 R e1 e2) ?_
  refine nx_ite (n_1561 R e1 e2 e3) ?_
  refine nx_ite (n_1610 R e1 e2 e3) ?_
  refine nx_ite (n_1659 R e1 e2) ?_
  refine nx_ite (n_1696 R e1 e2 e3) ?_
  refine nx_ite (n_1761 R e1 e2) ?_
  refine nx_ite (n_1798 R) ?_
  refine nx_ite (n_1811 R) ?_
  refine nx_ite (n_1824 R e1) ?_
  refine nx_ite (n_1849 R e1) ?_
  refine nx_ite (n_1905 R e1) ?_
  refine nx_ite (n_1930 R) ?_
  exact ⟨h, ⟨p, P, c, N, f, a, m, w, R⟩, by omega, by omega, rfl⟩
theorem l_cmp {i : Nat} (hL : Ls ≤ 3072) (hi : i ≤ 3072) : (Int32.ofNat Ls - 6 < Int32.ofNat (6 * i)) ↔ Ls < 6 * i + 6 := by
  rcases Nat.lt_or_ge Ls 6 with q | q
  · have e1 : (Int32.ofNat Ls - 6).toInt < 0 := by
      rcases (show Ls = 0 ∨ Ls = 1 ∨ Ls = 2 ∨ Ls = 3 ∨ Ls = 4 ∨ Ls = 5 by omega) with rfl | rfl | rfl | rfl | rfl | rfl <;> decide
    rw [Int32.lt_iff_toInt_lt, k_toInt (by omega)]
    constructor
    · intro _; omega
    · intro _; omega
  · rw [show Int32.ofNat Ls - 6 = Int32.ofNat (Ls - 6) from k_sub (b := 6) q, k_lt (by omega) (by omega)]
    omega
theorem sld_at {i : Nat} (hL : Ls ≤ 3072) (hi : i < Ls) : sld Ls xs (Int32.ofNat i) = some (xs i) := by
  unfold sld
  rw [k_clamp (by omega), if_pos ⟨k_neg (by omega), hi⟩]
theorem l_loop (hL : Ls ≤ 3072) : ∀ (m i n : Nat) (h : MH), i + m = Ls / 6 → RX h → ∃ h', fL_law_23 Ls xs (n + m + 1) h 0 77 89 (Int32.ofNat (6 * i)) = some (1, h') ∧ mLen h' ≤ mLen h + 20 * m ∧ mSl h' ≤ mSl h + 200 * m
  | 0, i, n, h, e, X => by
    refine ⟨h, ?_, by omega, by omega⟩
    have c1 := (l_cmp (i := i) hL (by omega)).mpr (show Ls < 6 * i + 6 by omega)
    show bL_law_23 Ls xs _ h 0 77 89 (Int32.ofNat (6 * i)) = _
    unfold bL_law_23
    rw [bd_some, if_pos c1]
  | m + 1, i, n, h, e, X => by
    obtain ⟨p, P, c, N, f, a, m', w, R⟩ := X
    have hb : 6 * i + 6 ≤ Ls := by omega
    have c1 : ¬ Int32.ofNat Ls - 6 < Int32.ofNat (6 * i) := fun z => by have := (l_cmp (i := i) hL (by omega)).mp z; omega
    have e0 : sld Ls xs (Int32.ofNat (6 * i)) = some (xs (6 * i)) := sld_at hL (by omega)
    have e1 : sld Ls xs (Int32.ofNat (6 * i) + 1) = some (xs (6 * i + 1)) := by rw [show Int32.ofNat (6 * i) + 1 = Int32.ofNat (6 * i + 1) from k_add _ 1]; exact sld_at hL (by omega)
    have e2 : sld Ls xs (Int32.ofNat (6 * i) + 2) = some (xs (6 * i + 2)) := by rw [show Int32.ofNat (6 * i) + 2 = Int32.ofNat (6 * i + 2) from k_add _ 2]; exact sld_at hL (by omega)
    have e3 : sld Ls xs (Int32.ofNat (6 * i) + 3) = some (xs (6 * i + 3)) := by rw [show Int32.ofNat (6 * i) + 3 = Int32.ofNat (6 * i + 3) from k_add _ 3]; exact sld_at hL (by omega)
    have e4 : sld Ls xs (Int32.ofNat (6 * i) + 4) = some (xs (6 * i + 4)) := by rw [show Int32.ofNat (6 * i) + 4 = Int32.ofNat (6 * i + 4) from k_add _ 4]; exact sld_at hL (by omega)
    have e5 : sld Ls xs (Int32.ofNat (6 * i) + 5) = some (xs (6 * i + 5)) := by rw [show Int32.ofNat (6 * i) + 5 = Int32.ofNat (6 * i + 5) from k_add _ 5]; exact sld_at hL (by omega)
    obtain ⟨h2, X2, l1, l2, ee⟩ := n_turn (k := fL_law_23 Ls xs (n + m + 1)) R c1 e0 e1 e2 e3 e4 e5
    obtain ⟨h', f1, f2, f3⟩ := l_loop hL m (i + 1) n h2 (by omega) X2
    refine ⟨h', ?_, by omega, by omega⟩
    show bL_law_23 Ls xs (fL_law_23 Ls xs (n + m + 1)) h 0 77 89 (Int32.ofNat (6 * i)) = _
    rw [ee, show Int32.ofNat (6 * i) + 6 = Int32.ofNat (6 * (i + 1)) from k_add (6 * i) 6]
    exact f1
end LLP
