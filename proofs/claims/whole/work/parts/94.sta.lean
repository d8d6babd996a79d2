/-! ===== the start of the relation ===== -/
def bgS (h : MH) : Option (Nat × Nat × Nat × MH) := bd2 (nO h 11) fun b1 h1 => bd (fX11_init h1 b1) fun h2 => bd2 (nO h2 13) fun b2 h3 => bd (fX13_init h3 b2) fun h4 => bd2 (nO2 h4 16 1) fun b3 h5 => some (b1, b2, b3, h5)
def bgC (q : Option (Nat × Nat × Nat × MH)) (f : MH → Bool) : Bool := match q with
  | some (b1, b2, b3, h) => b1 == 0 && (b2 == 77 && (b3 == 89 && f h))
  | none => false
def refC (h : MH) : Bool := ref0.all fun r => (List.range r.2.length).all fun i => decide (h.2.2.1 r.1 i = r.2[i]?)
def ref7 (h : MH) : Bool := [(5, 78), (15, 79), (16, 80), (17, 81), (20, 82), (21, 83), (22, 84), (23, 85), (24, 86), (28, 87), (29, 88)].all fun (q : Nat × Nat) => decide (h.2.2.1 77 q.1 = some q.2)
def jC1 (J : Nat → Int64) (l : List Int64) : Bool := (List.range l.length).all fun i => decide (some (J i) = l[i]?)
def intC (h : MH) : Bool := [(0, 9), (0, 10), (0, 11), (77, 1), (77, 12), (77, 6), (1, 1), (42, 2), (42, 3), (42, 4), (77, 18), (77, 19)].all fun (q : Nat × Nat) => decide (h.1 q.1 q.2 = 0)
def zrC (f : Nat → Int32) (n : Nat) : Bool := (List.range n).all fun i => decide (f i = 0)
def allC (h : MH) : Bool := decide (h.2.2.2 = shp0) && (refC h && (ref7 h && (decide (h.2.2.1 26 1 = some 29 ∧ h.2.2.1 3 9 = some 13 ∧ h.2.2.1 77 3 = none ∧ h.1 77 2 = -1) && (intC h && (zrC (fun i => h.1 29 (12 + i)) 8 && (zrC (h.1 28) 31 && (zrC (h.1 2) 900 && (zrC (h.1 78) 900 && (jC1 (h.2.1 4) wT4 && (jC1 (h.2.1 5) wT5 && (jC1 (h.2.1 6) wT6 && jC1 (h.2.1 7) wT7)))))))))))
set_option maxRecDepth 100000 in
theorem st_all : bgC (bgS h0M) allC = true := by decide +kernel
theorem st_of {q : Option (Nat × Nat × Nat × MH)} {f : MH → Bool} (e : bgC q f = true) : ∃ h, q = some (0, 77, 89, h) ∧ f h = true := by
  match q with
  | none => exact nomatch (show false = true from e)
  | some (b1, b2, b3, h) =>
    have e' : (b1 == 0 && (b2 == 77 && (b3 == 89 && f h))) = true := e
    simp only [Bool.and_eq_true, beq_iff_eq] at e'
    obtain ⟨rfl, rfl, rfl, e4⟩ := e'
    exact ⟨h, rfl, e4⟩
theorem fL_st {Ls : Nat} {xs : Nat → Int32} {h h5 : MH} {b1 b2 b3 : Nat} (e : bgS h = some (b1, b2, b3, h5)) : fL_law Ls xs h = fL_law_23 Ls xs FU h5 b1 b2 b3 0 := by
  unfold bgS nO at e
  unfold fL_law nO
  rw [bd2_some] at e
  rw [bd2_some]
  cases hA : fX11_init (nC h 11 0) h.2.2.2.length with
  | none => rw [hA] at e; exact nomatch (show (none : Option (Nat × Nat × Nat × MH)) = some _ from e)
  | some h2 =>
    rw [hA, bd_some, bd2_some] at e
    rw [bd_some, bd2_some]
    cases hB : fX13_init (nC h2 13 0) h2.2.2.2.length with
    | none => rw [hB] at e; exact nomatch (show (none : Option (Nat × Nat × Nat × MH)) = some _ from e)
    | some h4 =>
      rw [hB, bd_some] at e
      rw [bd_some]
      unfold nO2 at e
      unfold nO2
      rw [bd2_some] at e
      rw [bd2_some]
      cases e
      rfl
theorem zr_at {f : Nat → Int32} {n : Nat} (e : zrC f n = true) {i : Nat} (hi : i < n) : f i = 0 := by
  unfold zrC at e
  exact of_decide_eq_true (List.all_eq_true.mp e i (List.mem_range.mpr hi))
theorem jC_at {J : Nat → Int64} {l : List Int64} (e : jC1 J l = true) {i : Nat} {x : Int64} (hx : l[i]? = some x) : J i = x := by
  unfold jC1 at e
  have hi := (List.getElem?_eq_some_iff.mp hx).1
  have := of_decide_eq_true (List.all_eq_true.mp e i (List.mem_range.mpr hi))
  rw [hx] at this
  exact Option.some.inj this
theorem st_rx {h : MH} (e : allC h = true) : RX h ∧ mLen h ≤ 100 ∧ mSl h ≤ 4000 := by
  unfold allC at e
  simp only [Bool.and_eq_true] at e
  obtain ⟨a1, a2, a3, a4, a5, a6, a7, a8, a9, j4, j5, j6, j7⟩ := e
  have a1 := of_decide_eq_true a1
  obtain ⟨b1, b2, b3, b4⟩ := of_decide_eq_true a4
  have ii : ∀ b k, (b, k) ∈ [(0, 9), (0, 10), (0, 11), (77, 1), (77, 12), (77, 6), (1, 1), (42, 2), (42, 3), (42, 4), (77, 18), (77, 19)] → h.1 b k = 0 := fun b k hm => by
    unfold intC at a5
    exact of_decide_eq_true (List.all_eq_true.mp a5 (b, k) hm)
  have r7 : ∀ k b, (k, b) ∈ [(5, 78), (15, 79), (16, 80), (17, 81), (20, 82), (21, 83), (22, 84), (23, 85), (24, 86), (28, 87), (29, 88)] → h.2.2.1 77 k = some b := fun k b hm => by
    unfold ref7 at a3
    exact of_decide_eq_true (List.all_eq_true.mp a3 (k, b) hm)
  have n0 : ∀ i, i < 31 → h.1 28 i = 0 := fun i hi => zr_at a7 hi
  have S : CS 29 h.2.2 := by
    refine ⟨Or.inr rfl, ⟨[], by rw [List.append_nil]; exact a1⟩, b1, b2, fun r hr i b hb => ?_, r7 5 78 (by decide), r7 15 79 (by decide), r7 16 80 (by decide), r7 17 81 (by decide), r7 20 82 (by decide), r7 21 83 (by decide), r7 22 84 (by decide), r7 23 85 (by decide), r7 24 86 (by decide), r7 28 87 (by decide), r7 29 88 (by decide)⟩
    unfold refC at a2
    have hi := (List.getElem?_eq_some_iff.mp hb).1
    have := of_decide_eq_true (List.all_eq_true.mp (List.all_eq_true.mp a2 r hr) i (List.mem_range.mpr hi))
    rw [this]; exact hb
  have z0 : ∀ {x : Nat}, ¬ x < 0 := fun {x} => Nat.not_lt_zero x
  refine ⟨⟨29, fun _ _ => 0, fun _ => 0, h.1 28, 0, 0, 0, 0, ?_, ?_, ?_, ?_, fun _ => ⟨rfl, rfl⟩, ?_, ?_, ?_, ?_, ?_, ?_, ?_⟩, ?_, ?_⟩
  · exact ⟨S, ⟨by decide, by decide, by decide, by decide, by decide, by decide, by decide, by decide⟩, fun t ht => zr_at (f := fun i => h.1 29 (12 + i)) a6 ht, fun t i ht hi => absurd hi z0, fun i hi => rfl⟩
  · exact ⟨fun s hs => absurd hs z0, fun s hs => absurd hs z0, fun s hs => absurd hs z0, fun s hs => absurd hs z0, fun s hs => absurd hs z0, fun s hs => absurd hs z0, fun s hs => absurd hs z0, fun s hs => absurd hs z0, fun s hs => absurd hs z0⟩
  · refine ⟨fun s hs => absurd hs z0, fun s hs => ⟨0, by decide, n0 _ (by omega)⟩, ?_⟩
    rw [n0 14 (by decide), n0 15 (by decide), n0 16 (by decide), n0 17 (by decide), n0 28 (by decide), n0 29 (by decide), n0 30 (by decide)]
    decide
  · refine Or.inr ⟨ii 0 9 (by decide), b3, fun t => rfl, ?_⟩
    rw [n0 28 (by decide), n0 29 (by decide), n0 30 (by decide)]
    decide
  · exact ⟨by decide, by decide, by decide, ii 42 2 (by decide), ii 42 3 (by decide), ii 42 4 (by decide), ii 77 18 (by decide), ii 77 19 (by decide), fun j hj => absurd hj z0, fun j hj => absurd hj z0⟩
  · refine ⟨by decide, ii 1 1 (by decide), ii 77 6 (by decide), fun i hi => ⟨?_, ?_⟩⟩
    · rw [zr_at a8 hi, zr_at a9 hi]
    · rw [zr_at a8 hi]; exact ⟨by decide, by decide⟩
  · rw [ii 77 1 (by decide), ii 0 10 (by decide)]
  · rw [b4, ii 0 10 (by decide), if_neg (by decide)]
  · rw [ii 77 12 (by decide), ii 0 11 (by decide)]
  · intro z
    rw [ii 0 9 (by decide)] at z
    exact absurd z (by decide)
  · exact ⟨fun i x hx => jC_at j4 hx, fun i x hx => jC_at j5 hx, fun i x hx => jC_at j6 hx, fun i x hx => jC_at j7 hx⟩
  · unfold mLen; rw [a1]; decide
  · unfold mSl; rw [a1]; decide
/-- THE LAW ends with true, in its room -/
theorem l_law (L : Nat) (xs : Nat → Int32) (hL : L ≤ 3072) : ∃ h', fL_law L xs h0M = some (1, h') ∧ mLen h' ≤ 601024 ∧ mSl h' ≤ 7293034 := by
  obtain ⟨h5, e1, e2⟩ := st_of st_all
  obtain ⟨X, l1, l2⟩ := st_rx e2
  obtain ⟨n, hn⟩ := FU_at (L / 6) (by omega)
  obtain ⟨h', f1, f2, f3⟩ := l_loop (xs := xs) hL (L / 6) 0 n h5 (by omega) X
  refine ⟨h', ?_, by omega, by omega⟩
  rw [fL_st e1, hn]
  exact f1
