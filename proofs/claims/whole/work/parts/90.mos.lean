/-! ===== office: the model, a text that holds ===== -/
section MOS
variable {p o : Nat} {h h0 h1 h2 : MH} {B : Nat → Int32} {L q : Nat} {D : DD} {P : PT} {c : CT} {N : Nat → Int32}
theorem CS.g34 {q q' : (Nat → Nat → Option Nat) × List (Nat × Nat)} (C : CS p q) {t : List (Nat × Nat)} (e1 : q'.2 = q.2 ++ t) (e2 : ∀ b k, b < 90 → ¬ (b = 77 ∧ (k = 3 ∨ k = 4)) → q'.1 b k = q.1 b k) : CS p q' := by
  obtain ⟨c1, ⟨t0, ht⟩, c3, c4, c5, c6⟩ := C
  refine ⟨c1, ⟨t0 ++ t, by rw [e1, ht, List.append_assoc]⟩, by rw [e2 26 1 (by decide) (by decide)]; exact c3, by rw [e2 3 9 (by decide) (by decide)]; exact c4, fun r hr i b hb => ?_, ?_⟩
  · have hr90 : r.1 < 77 := by
      have : ∀ r ∈ ref0, r.1 < 77 := by decide
      exact this r hr
    rw [e2 r.1 i (by omega) (by omega)]; exact c5 r hr i b hb
  · rw [e2 77 5 (by decide) (by decide), e2 77 15 (by decide) (by decide), e2 77 16 (by decide) (by decide), e2 77 17 (by decide) (by decide), e2 77 20 (by decide) (by decide), e2 77 21 (by decide) (by decide), e2 77 22 (by decide) (by decide), e2 77 23 (by decide) (by decide), e2 77 24 (by decide) (by decide), e2 77 28 (by decide) (by decide), e2 77 29 (by decide) (by decide)]
    exact c6
theorem MM.g34 (M : MM o P c N h) {t : List (Nat × Nat)} (e1 : h2.2.2.2 = h.2.2.2 ++ t) (e2 : ∀ b k, b < h.2.2.2.length → ¬ (b = 77 ∧ k = 4) → h2.2.2.1 b k = h.2.2.1 b k) (e3 : ∀ b k, b < h.2.2.2.length → (b = 79 ∨ 90 ≤ b) → h2.1 b k = h.1 b k) : MM o P c N h2 := by
  obtain ⟨⟨pp, S⟩, c2, c3, c4, c5, c6, c7⟩ := M
  have hl := S.len
  have h90 := c2.1
  have ho := (List.getElem?_eq_some_iff.mp c2.2.1).1
  have hoj : ∀ j, j < 18 → o + 1 + j < h.2.2.2.length := fun j hj => by
    obtain ⟨w, hw⟩ : ∃ w, mSh[j]? = some w := by
      have : j < mSh.length := by have : mSh.length = 18 := by decide
                                  omega
      exact ⟨mSh[j], List.getElem?_eq_getElem this⟩
    exact (List.getElem?_eq_some_iff.mp (c2.2.2 j w hw).2).1
  have hx : ∀ {k : Nat} {w : Nat × Nat}, h.2.2.2[k]? = some w → h2.2.2.2[k]? = some w := fun {k w} hk => by
    have := (List.getElem?_eq_some_iff.mp hk).1
    rw [e1, List.getElem?_append_left this]; exact hk
  refine ⟨⟨pp, S.g34 e1 (fun b k hb hn => e2 b k (by omega) (by omega))⟩, ⟨h90, hx c2.2.1, fun j w hj => ?_⟩, by rw [e2 77 3 (by omega) (by omega)]; exact c3, c4, fun t ht => by rw [e3 o t ho (by omega)]; exact c5 t ht, fun t i ht hi => ?_, ?_⟩
  · obtain ⟨a1, a2⟩ := c2.2.2 j w hj
    exact ⟨by rw [e2 o _ ho (by omega)]; exact a1, hx a2⟩
  · have hm : 1 ≤ mT' t ∧ mT' t ≤ 15 := by
      rcases (show t = 0 ∨ t = 1 ∨ t = 2 ∨ t = 3 ∨ t = 4 ∨ t = 5 ∨ t = 6 ∨ t = 7 ∨ t = 8 ∨ t = 9 ∨ t = 10 ∨ t = 11 by omega) with rfl | rfl | rfl | rfl | rfl | rfl | rfl | rfl | rfl | rfl | rfl | rfl <;> decide
    have := hoj (mT' t - 1) (by omega)
    rw [e3 (o + mT' t) i (by omega) (by omega)]; exact c6 t i ht hi
  · exact c7.congr (fun i hi => e3 79 i (by omega) (by omega)) (fun i hi => rfl)
theorem vB_row (n3 : ∀ i, i < 4 → N (14 + i) = 0) (n4 : ∀ i, i < 3 → N (28 + i) = 0) (n5 : ∀ i, i < 5 → N (5 + i) = -2) {f : Nat → Int32} (hf : ∀ i, i < 31 → f i = vB N 10 i) : vRow f N := by
  refine ⟨fun i hi => ?_, fun i hi => ?_, fun i hi => ?_, fun i hi => ?_, fun i hi => ?_, fun i hi => ?_⟩
  · rw [hf _ (by omega)]; unfold vB vA; rw [if_neg (by omega), if_neg (by omega), if_pos (by omega), show 11 + i - 11 = i by omega]
  · rw [hf _ (by omega), n5 i hi]; unfold vB vA; rw [if_neg (by omega), if_neg (by omega), if_neg (by omega), if_pos (by omega)]
  · rw [hf _ (by omega)]; unfold vB vA; rw [if_neg (by omega), if_pos (by omega)]
  · rw [hf _ (by omega), n3 i hi]; unfold vB vA; rw [if_neg (by omega), if_neg (by omega), if_neg (by omega), if_neg (by omega)]
  · rw [hf _ (by omega)]; unfold vB; rw [if_pos (by omega), show 21 + i - 3 = 18 + i by omega]
  · rw [hf _ (by omega), n4 i hi]; unfold vB vA; rw [if_neg (by omega), if_neg (by omega), if_neg (by omega), if_neg (by omega)]
theorem m_suc (T : tBm B L p o h0) (K : KM B L o h0 (xD D.1) D q h1) (V : WI D) (hc2 : 1 ≤ D.1 2) : ∃ g, (bd (gI h1 77 13 12) fun v5 => if v5 ≤ 0 then (bd (gR h1 77 13 4) fun b6 => bd (pR h1 77 13 3 b6) fun h12 => fX13_office_99 FU h12 77 0) else (bd (pI h1 77 13 1 4) fun h12 => bd (gI h12 77 13 13) fun v6 => bd (pI h12 77 13 2 v6) fun h13 => some ((-1), h13))) = some (Int32.ofNat (D.1 2), g) ∧
    MM o D.2.1 D.1 D.2.2.1 g ∧ g.2.1 = h1.2.1 ∧ g.2.2.2 = h1.2.2.2 ∧ (∀ b k, ¬ (b = 77 ∧ k = 3) → g.2.2.1 b k = h1.2.2.1 b k) ∧ (∀ b j, ¬ b = 79 → ¬ (b = 77 ∧ (j = 1 ∨ j = 2 ∨ j = 18 ∨ j = 19)) → g.1 b j = h1.1 b j) ∧ g.1 77 1 = 0 ∧ g.1 77 2 = -1 ∧ g.1 77 18 = 0 ∧ g.1 77 19 = 0 := by
  obtain ⟨F, tk, d1, d2, d3, d4, d5, d6, d7, d8, d9, d10⟩ := K
  have S1 : CS p h1.2.2 := by rw [F.1]; exact T.1.1
  have M1 : MO o h1.2.2 := mO T F
  have ho := M1.1
  have s77 : h1.2.2.2[77]? = some (13, 0) := m77 T F
  have g12 : gI h1 77 13 12 = some 0 := by rw [gI_at s77, d1]
  have p3 : pR h1 77 13 3 o = some (sR h1 77 3 (some o)) := pR_at s77
  have r3 : (sR h1 77 3 (some o)).2.2.1 77 3 = some o := by
    show up2 h1.2.2.1 77 3 (some o) 77 3 = _
    unfold up2
    rw [if_pos ⟨rfl, rfl⟩]
  have rn : ∀ b k, ¬ (b = 77 ∧ k = 3) → (sR h1 77 3 (some o)).2.2.1 b k = h1.2.2.1 b k := fun b k hn => by
    show up2 h1.2.2.1 77 3 (some o) b k = _
    unfold up2
    rw [if_neg hn]
  have x1 : (sR h1 77 3 (some o)).1 = h1.1 := rfl
  have x2 : (sR h1 77 3 (some o)).2.1 = h1.2.1 := rfl
  have x3 : (sR h1 77 3 (some o)).2.2.2 = h1.2.2.2 := rfl
  generalize hg : sR h1 77 3 (some o) = h2 at *
  have S2 : CS p h2.2.2 := S1.g34 (t := []) (by rw [x3, List.append_nil]) (fun b k hb hn => rn b k (by omega))
  have M2 : MO o h2.2.2 := by
    refine ⟨ho, by rw [x3]; exact M1.2.1, fun j w hj => ?_⟩
    obtain ⟨a1, a2⟩ := M1.2.2 j w hj
    exact ⟨by rw [rn o _ (by omega)]; exact a1, by rw [x3]; exact a2⟩
  have s772 : h2.2.2.2[77]? = some (13, 0) := by rw [x3]; exact s77
  have s79 : h2.2.2.2[79]? = some (15, 31) := S2.sh 79 rfl
  have g15 : ∀ u : MH, u.2 = h2.2 → gR u 77 13 15 = some 79 := fun u hu => gR_at (by rw [hu]; exact s772) (by rw [hu]; exact S2.2.2.2.2.2.2.1)
  have g3 : ∀ u : MH, u.2 = h2.2 → gR u 77 13 3 = some o := fun u hu => gR_at (by rw [hu]; exact s772) (by rw [hu]; exact r3)
  have go : ∀ {j : Nat} {w : Nat × Nat}, mSh[j]? = some w → ∀ u : MH, u.2 = h2.2 → gR u o 12 (9 + j) = some (o + 1 + j) := fun {j w} hj u hu => gR_at (by rw [hu]; exact M2.2.1) (by rw [hu]; exact (M2.2.2 j w hj).1)
  have so : ∀ {j : Nat} {w : Nat × Nat}, mSh[j]? = some w → h2.2.2.2[o + 1 + j]? = some w := fun {j w} hj => (M2.2.2 j w hj).2
  obtain ⟨n1, hn1⟩ := FU_at 31 (by decide)
  obtain ⟨u1, e1, a1, b1⟩ := m_o99 s79 g15 31 0 n1 h2 rfl ⟨rfl, fun _ _ _ => rfl⟩ (fun i hi => absurd hi (Nat.not_lt_zero _))
  rw [← hn1] at e1
  obtain ⟨n2, hn2⟩ := FU_at 4 (by decide)
  obtain ⟨u2, e2, a2, b2⟩ := m_o120 (N := D.2.2.1) s79 g15 g3 (go (j := 3) rfl) (so (j := 3) rfl) ho (fun i hi => by rw [x1]; exact d8 i hi) 4 0 n2 u1 rfl a1 (fun i hi => by rw [b1 i hi, if_neg (by omega)])
  rw [← hn2] at e2
  obtain ⟨n3, hn3⟩ := FU_at 5 (by decide)
  obtain ⟨u3, e3, a3, b3⟩ := m_o150 (N := D.2.2.1) s79 g15 g3 (go (j := 1) rfl) (so (j := 1) rfl) ho (fun i hi => by rw [x1]; exact d7 i hi) 5 0 n3 u2 rfl a2 (fun i hi => by
    rw [b2 i hi]; unfold vA
    by_cases q1 : i < 4
    · rw [if_pos q1, if_pos q1]
    · rw [if_neg q1, if_neg q1, if_neg (by omega), if_neg (by omega)])
  rw [← hn3] at e3
  obtain ⟨n4, hn4⟩ := FU_at 10 (by decide)
  obtain ⟨g, e4, k1, k2, k3, k4, k5, k6, k7⟩ := m_o192 (N := D.2.2.1) (c2 := Int32.ofNat (D.1 2)) s772 s79 M2.2.1 g15 g3 (go (j := 9) rfl) (so (j := 9) rfl) ho (by rw [x1]; exact d5 2 (by omega) (by omega)) (fun i hi => by rw [x1]; exact d9 i hi) 10 0 n4 u3 rfl a3 (fun i hi => by rw [b3 i hi]; unfold vB; rw [if_neg (by omega)])
  rw [← hn4] at e4
  have h8 : ¬ D.1 8 = 0 := fun z => by have := V.2.2.2.1 z 2 (by omega); omega
  refine ⟨g, ?_, ⟨⟨p, by rw [k1]; exact S2⟩, by rw [k1]; exact M2, by rw [k1]; exact r3, V.wc, fun t ht => ?_, fun t i ht hi => ?_, vB_row V.2.2.2.2.2.1.2.2.1 V.2.2.2.2.2.1.2.2.2.1 V.2.2.2.2.2.1.2.2.2.2 k3⟩, by rw [k1]; exact x2, by rw [k1]; exact x3, fun b k hn => by rw [k1]; exact rn b k hn, fun b j z1 z2 => by rw [k2 b j z1 z2, x1], k4, k5, k6, k7⟩
  · simp only [g12, bd_some, if_pos (show (0 : Int32) ≤ 0 by decide), mR4 T F, p3]
    exact e1.trans (e2.trans (e3.trans e4))
  · rw [k2 o t (by omega) (by omega), x1]
    rcases Nat.eq_zero_or_pos t with z | z
    · subst z; rw [d3, if_neg h8]
    · exact d5 t z ht
  · have hm : 1 ≤ mT' t ∧ mT' t ≤ 15 := by
      rcases (show t = 0 ∨ t = 1 ∨ t = 2 ∨ t = 3 ∨ t = 4 ∨ t = 5 ∨ t = 6 ∨ t = 7 ∨ t = 8 ∨ t = 9 ∨ t = 10 ∨ t = 11 by omega) with rfl | rfl | rfl | rfl | rfl | rfl | rfl | rfl | rfl | rfl | rfl | rfl <;> decide
    rw [k2 _ i (by omega) (by omega), x1]; exact d6 t i ht hi
end MOS
