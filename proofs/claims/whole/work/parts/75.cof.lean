/-! ===== office: the class ===== -/
section COF
variable {p : Nat} {h h0 h1 : MH} {B : Nat → Int32} {L q : Nat} {D : DD} {P : PT} {c : CT} {N : Nat → Int32} {f a m w : Nat}
theorem WI.wc (V : WI D) : WC D.1 := by
  obtain ⟨⟨a0, a1, a2, a3, a4, a5, a7, a8⟩, _, _, _, _, _, k⟩ := V
  have := wn_le D.2.1 (D.1 2)
  exact ⟨a0, a1, a2, a3, a4, a5, by omega, a7⟩
theorem WI.wn (V : WI D) : WN D.1 D.2.2.1 := by
  obtain ⟨_, _, _, _, _, ⟨n1, n2, n3, n4, n5⟩, _⟩ := V
  refine ⟨n1, n2, ?_⟩
  rw [n3 0 (by omega), n3 1 (by omega), n3 2 (by omega), n3 3 (by omega), n4 0 (by omega), n4 1 (by omega), n4 2 (by omega)]
  rfl
theorem CS.sw {q : (Nat → Nat → Option Nat) × List (Nat × Nat)} (C : CS p q) : CS (42 - p) (up2 (up2 q.1 3 9 (some p)) 26 1 (some (42 - p)), q.2) := by
  obtain ⟨c1, c2, c3, c4, c5, c6⟩ := C
  have rd : ∀ r ∈ ref0, (r.1 = 3 → r.2.length ≤ 9) ∧ (r.1 = 26 → r.2.length ≤ 1) := by decide
  have ne : ∀ b k, ¬ (b = 3 ∧ k = 9) → ¬ (b = 26 ∧ k = 1) → up2 (up2 q.1 3 9 (some p)) 26 1 (some (42 - p)) b k = q.1 b k := fun b k h1 h2 => by
    unfold up2
    rw [if_neg h2, if_neg h1]
  refine ⟨by omega, c2, (show up2 (up2 q.1 3 9 (some p)) 26 1 (some (42 - p)) 26 1 = some (42 - p) by unfold up2; rw [if_pos ⟨rfl, rfl⟩]), ?_, fun r hr i b hi => ?_, ?_⟩
  · show up2 (up2 q.1 3 9 (some p)) 26 1 (some (42 - p)) 3 9 = _
    unfold up2
    rw [if_neg (by omega), if_pos ⟨rfl, rfl⟩]
    congr 1
    omega
  · show up2 (up2 q.1 3 9 (some p)) 26 1 (some (42 - p)) r.1 i = _
    have hl := (List.getElem?_eq_some_iff.mp hi).1
    obtain ⟨x1, x2⟩ := rd r hr
    rw [ne r.1 i (fun z => by have := x1 z.1; omega) (fun z => by have := x2 z.1; omega)]
    exact c5 r hr i b hi
  · obtain ⟨d1, d2, d3, d4, d5, d6, d7, d8, d9, d10, d11⟩ := c6
    exact ⟨(ne 77 5 (by omega) (by omega)).trans d1, (ne 77 15 (by omega) (by omega)).trans d2, (ne 77 16 (by omega) (by omega)).trans d3, (ne 77 17 (by omega) (by omega)).trans d4, (ne 77 20 (by omega) (by omega)).trans d5, (ne 77 21 (by omega) (by omega)).trans d6, (ne 77 22 (by omega) (by omega)).trans d7, (ne 77 23 (by omega) (by omega)).trans d8, (ne 77 24 (by omega) (by omega)).trans d9, (ne 77 28 (by omega) (by omega)).trans d10, (ne 77 29 (by omega) (by omega)).trans d11⟩
/-- the cells that a reading may change -/
def arO (p b k : Nat) : Prop := (b = 1 ∧ 1 ≤ k ∧ k ≤ 5) ∨ (b = 3 ∧ 10 ≤ k ∧ k ≤ 13) ∨ b = 9 ∨ b = 11 ∨ b = 12 ∨ (42 - p ≤ b ∧ b ≤ 54 - p) ∨ (b = 0 ∧ 10 ≤ k ∧ k ≤ 12)
def FA (p : Nat) (e : Nat × Nat) (h h1 : MH) : Prop := h1.2.2 = h.2.2 ∧ (∀ b k, ¬ arO p b k → h1.1 b k = h.1 b k) ∧ (∀ b k, ¬ ((b = 1 ∧ k = 6) ∨ b = 10) → h1.2.1 b k = h.2.1 b k) ∧ h1.1 1 1 = 0 ∧ h1.1 0 10 = 4 ∧ h1.1 0 11 = Int32.ofNat e.1 ∧ h1.1 0 12 = Int32.ofNat e.2
def SU (p : Nat) (D : DD) (h h1 : MH) : Prop := CD (42 - p) D.2.1 D.1 D.2.2.1 h1 ∧ (∀ b k, ¬ (arO p b k ∨ b = 28 ∨ (b = 42 ∧ (k = 3 ∨ k = 4)) ∨ (b = 0 ∧ k = 9)) → h1.1 b k = h.1 b k) ∧ (∀ b k, ¬ ((b = 1 ∧ k = 6) ∨ b = 10) → h1.2.1 b k = h.2.1 b k) ∧
  h1.2.2.2 = h.2.2.2 ∧ (∀ b k, ¬ (b = 3 ∧ k = 9) → ¬ (b = 26 ∧ k = 1) → h1.2.2.1 b k = h.2.2.1 b k) ∧ h1.1 1 1 = 0 ∧ h1.1 42 3 = 0 ∧ h1.1 42 4 = 0 ∧ h1.1 0 9 = 1 ∧ h1.1 0 10 = 0 ∧ h1.1 0 11 = 0
theorem c_office (T : tBy B L p h) (W : RW h.2.1) (hw : L ≤ w) (hw2 : w ≤ 900) (h11 : h.1 1 1 = Int32.ofNat w) : (∃ e h1, pTx B L (L + 1) dZ 0 = .inl e ∧ 1 ≤ e.1 ∧ e.1 ≤ 6 ∧ fX11_office h 0 (Int32.ofNat L) = some (-1, h1) ∧ FA p e h h1) ∨ (∃ D h1, pTx B L (L + 1) dZ 0 = .inr D ∧ WI D ∧ 1 ≤ D.1 2 ∧ fX11_office h 0 (Int32.ofNat L) = some (Int32.ofNat (D.1 2), h1) ∧ SU p D h h1) := by
  have hp := T.1.1
  have S := T.1
  have s0 := S.sh 0 (w := (11, 0)) rfl
  have g00 : gR h 0 11 0 = some 1 := gR_at s0 (S.rf 0 rfl rfl)
  have g01 : gR h 0 11 1 = some 3 := gR_at s0 (S.rf 0 rfl rfl)
  have gw : gI h 1 10 1 = some (Int32.ofNat w) := by rw [gI_at (S.sh 1 (w := (10, 0)) rfl), h11]
  have cl := k_le (i := L) (n := w) (by omega) (by omega)
  obtain ⟨v, h1, e1, hv⟩ := c_read T W
  have F1 : frC p h h1 := by
    rcases hv with ⟨_, D', q', _, _, _, K⟩ | ⟨_, e, _, K⟩
    · exact K.1
    · exact K.1
  have S1 := KC.cs T F1
  have s01 : h1.2.2.2[0]? = some (11, 0) := S1.sh 0 rfl
  have g001 : gR h1 0 11 0 = some 1 := gR_at s01 (S1.rf 0 rfl rfl)
  have p2 : pI h1 1 10 1 0 = some (sI h1 1 1 0) := pI_at (S1.sh 1 (w := (10, 0)) rfl)
  have s02 : (sI h1 1 1 0).2.2.2[0]? = some (11, 0) := s01
  have s32 : (sI h1 1 1 0).2.2.2[3]? = some (8, 0) := S1.sh 3 rfl
  have g012 : gR (sI h1 1 1 0) 0 11 1 = some 3 := gR_at s02 (S1.rf 0 rfl rfl)
  have g12 : gI (sI h1 1 1 0) 3 8 12 = some (h1.1 3 12) := by rw [gI_at s32, sI_ne (by omega)]
  have p3 : pI (sI h1 1 1 0) 0 11 11 (h1.1 3 12) = some (sI (sI h1 1 1 0) 0 11 (h1.1 3 12)) := pI_at s02
  have g013 : gR (sI (sI h1 1 1 0) 0 11 (h1.1 3 12)) 0 11 1 = some 3 := gR_at (show (sI (sI h1 1 1 0) 0 11 (h1.1 3 12)).2.2.2[0]? = some (11, 0) from s01) (S1.rf 0 rfl rfl)
  have g13 : gI (sI (sI h1 1 1 0) 0 11 (h1.1 3 12)) 3 8 13 = some (h1.1 3 13) := by rw [gI_at (show (sI (sI h1 1 1 0) 0 11 (h1.1 3 12)).2.2.2[3]? = some (8, 0) from s32), sI_ne (by omega), sI_ne (by omega)]
  have p4 : pI (sI (sI h1 1 1 0) 0 11 (h1.1 3 12)) 0 11 12 (h1.1 3 13) = some (sI (sI (sI h1 1 1 0) 0 11 (h1.1 3 12)) 0 12 (h1.1 3 13)) := pI_at (show (sI (sI h1 1 1 0) 0 11 (h1.1 3 12)).2.2.2[0]? = some (11, 0) from s01)
  have s04 : (sI (sI (sI h1 1 1 0) 0 11 (h1.1 3 12)) 0 12 (h1.1 3 13)).2.2.2[0]? = some (11, 0) := s01
  have h42 : (sI (sI (sI h1 1 1 0) 0 11 (h1.1 3 12)) 0 12 (h1.1 3 13)).2 = h1.2 := rfl
  have h4o : ∀ b k, ¬ (b = 1 ∧ k = 1) → ¬ (b = 0 ∧ (k = 11 ∨ k = 12)) → (sI (sI (sI h1 1 1 0) 0 11 (h1.1 3 12)) 0 12 (h1.1 3 13)).1 b k = h1.1 b k := fun b k z1 z2 => by
    rw [sI_ne (by omega), sI_ne (by omega), sI_ne (by omega)]
  have h4a : (sI (sI (sI h1 1 1 0) 0 11 (h1.1 3 12)) 0 12 (h1.1 3 13)).1 1 1 = 0 := by rw [sI_ne (by omega), sI_ne (by omega), sI_eq]
  have h4b : (sI (sI (sI h1 1 1 0) 0 11 (h1.1 3 12)) 0 12 (h1.1 3 13)).1 0 11 = h1.1 3 12 := by rw [sI_ne (by omega), sI_eq]
  have h4c : (sI (sI (sI h1 1 1 0) 0 11 (h1.1 3 12)) 0 12 (h1.1 3 13)).1 0 12 = h1.1 3 13 := sI_eq
  generalize hg : sI (sI (sI h1 1 1 0) 0 11 (h1.1 3 12)) 0 12 (h1.1 3 13) = h4 at *
  have st : fX11_office h 0 (Int32.ofNat L) = if v = 0 then (bd2 (fX11_refuse h4 0 4) fun v12 h5 => some (v12, h5)) else (bd (fX11_openOffice h4 0) fun h5 => bd (gR h5 0 11 2) fun b12 => bd (gR h5 b12 5 1) fun b13 => bd (gI h5 b13 7 14) fun v14 => bd (ck h5 0 11) fun _ => bd2 (fX11_answer h5 0 v14) fun v16 h6 => some (v16, h6)) := by
    simp only [fX11_office, if_neg (k_neg (show L < 2147483648 by omega)), g00, gw, cl, if_pos hw, g01, ck_at (S.sh 3 (w := (8, 0)) rfl), e1, g001, p2, g012, g12, p3, g013, g13, p4, ck_at s04, bd_some, bd2_some]
  rcases hv with ⟨rfl, D', q', r1, V, r3, K⟩ | ⟨rfl, e, r1, K⟩
  · refine Or.inr ⟨D', ?_⟩
    obtain ⟨F, tk, d1, d2, d3, d4, d5, d6, d7⟩ := K
    rw [d3] at h4b
    have C4 : CS p h4.2.2 := by rw [h42]; exact S1
    -- the swap
    have x1 : gR h4 0 11 1 = some 3 := gR_at s04 (C4.rf 0 rfl rfl)
    have x2 : gR h4 3 8 9 = some (42 - p) := gR_at (C4.sh 3 rfl) C4.2.2.2.1
    have x3 : gR h4 0 11 2 = some 26 := gR_at s04 (C4.rf 0 rfl rfl)
    have x4 : gR h4 26 5 1 = some p := gR_at (C4.sh 26 rfl) C4.2.2.1
    have x5 : pR h4 3 8 9 p = some (sR h4 3 9 (some p)) := pR_at (C4.sh 3 rfl)
    have y0 : (sR h4 3 9 (some p)).2.2.2 = h4.2.2.2 := rfl
    have x6 : gR (sR h4 3 9 (some p)) 0 11 2 = some 26 := gR_at (show (sR h4 3 9 (some p)).2.2.2[0]? = some (11, 0) from s04) (by
      show up2 h4.2.2.1 3 9 (some p) 0 2 = _
      unfold up2
      rw [if_neg (by omega)]; exact C4.rf 0 rfl rfl)
    have x7 : pR (sR h4 3 9 (some p)) 26 5 1 (42 - p) = some (sR (sR h4 3 9 (some p)) 26 1 (some (42 - p))) := pR_at (show (sR h4 3 9 (some p)).2.2.2[26]? = some (5, 0) from C4.sh 26 rfl)
    have C5 : CS (42 - p) (sR (sR h4 3 9 (some p)) 26 1 (some (42 - p))).2.2 := C4.sw
    have z1 : (sR (sR h4 3 9 (some p)) 26 1 (some (42 - p))).1 = h4.1 := rfl
    have z2 : (sR (sR h4 3 9 (some p)) 26 1 (some (42 - p))).2.1 = h4.2.1 := rfl
    have z3 : (sR (sR h4 3 9 (some p)) 26 1 (some (42 - p))).2.2.2 = h4.2.2.2 := rfl
    have z4 : ∀ b k, ¬ (b = 3 ∧ k = 9) → ¬ (b = 26 ∧ k = 1) → (sR (sR h4 3 9 (some p)) 26 1 (some (42 - p))).2.2.1 b k = h4.2.2.1 b k := fun b k q1 q2 => by
      show up2 (up2 h4.2.2.1 3 9 (some p)) 26 1 (some (42 - p)) b k = _
      unfold up2
      rw [if_neg q2, if_neg q1]
    generalize hg5 : sR (sR h4 3 9 (some p)) 26 1 (some (42 - p)) = h5 at *
    have CD5 : CD (42 - p) D'.2.1 D'.1 (h5.1 28) h5 := by
      refine ⟨C5, V.wc, fun t ht => ?_, fun t i ht hi => ?_, fun i hi => rfl⟩
      · rw [z1, h4o (42 - p) _ (by omega) (by omega)]; exact d5 t ht
      · rw [z1, h4o (42 - p + 1 + t) _ (by omega) (by omega), show 42 - p + 1 + t = 43 - p + t by omega]; exact d6 t i ht hi
    have x8 : gR h5 0 11 1 = some 3 := gR_at (C5.sh 0 rfl) (C5.rf 0 rfl rfl)
    have x9 : gR h5 3 8 5 = some 8 := gR_at (C5.sh 3 rfl) (C5.rf 2 rfl rfl)
    have x10 : gR h5 8 4 0 = some 9 := gR_at (C5.sh 8 rfl) (C5.rf 3 rfl rfl)
    have x11 := c_copyFrom CD5 (b := 9) (by omega) (C5.sh 9 rfl)
    have x12 : gR (cpO h5 28 0 (h5.1 9) 31) 0 11 3 = some 42 := gR_at (show (cpO h5 28 0 (h5.1 9) 31).2.2.2[0]? = some (11, 0) from C5.sh 0 rfl) (C5.rf 0 rfl rfl)
    have s6 : (cpO h5 28 0 (h5.1 9) 31).2.2.2[42]? = some (6, 0) := C5.sh 42 rfl
    have s7 : (sI (cpO h5 28 0 (h5.1 9) 31) 42 3 0).2.2.2[42]? = some (6, 0) := C5.sh 42 rfl
    have s8 : (sI (sI (cpO h5 28 0 (h5.1 9) 31) 42 3 0) 42 4 0).2.2.2[0]? = some (11, 0) := C5.sh 0 rfl
    have op : fX11_openOffice h4 0 = some (sI (sI (sI (cpO h5 28 0 (h5.1 9) 31) 42 3 0) 42 4 0) 0 9 1) := by
      simp only [fX11_openOffice, x1, x2, x3, x4, x5, x6, x7, CD5.desk, CD5.now, x8, x9, x10, CD5.k4, x11, x12, ck_at s6, fX6_forget, pI_at s6, pI_at s7, pB_at s8 (Or.inr rfl), bd_some]
    have w2 : (sI (sI (sI (cpO h5 28 0 (h5.1 9) 31) 42 3 0) 42 4 0) 0 9 1).2 = h5.2 := rfl
    have wo : ∀ b k, ¬ b = 28 → ¬ (b = 42 ∧ (k = 3 ∨ k = 4)) → ¬ (b = 0 ∧ k = 9) → (sI (sI (sI (cpO h5 28 0 (h5.1 9) 31) 42 3 0) 42 4 0) 0 9 1).1 b k = h4.1 b k := fun b k q1 q2 q3 => by
      rw [sI_ne q3, sI_ne (by omega), sI_ne (by omega), cpO_out (by omega), z1]
    have w28 : ∀ i, i < 31 → (sI (sI (sI (cpO h5 28 0 (h5.1 9) 31) 42 3 0) 42 4 0) 0 9 1).1 28 i = D'.2.2.1 i := fun i hi => by
      rw [sI_ne (by omega), sI_ne (by omega), sI_ne (by omega)]
      have := cpO_in (h := h5) (b := 28) (d := 0) (k := 31) (f := h5.1 9) hi
      rw [Nat.zero_add] at this
      rw [this, z1, h4o 9 i (by omega) (by omega)]; exact d7 i hi
    have w3 : (sI (sI (sI (cpO h5 28 0 (h5.1 9) 31) 42 3 0) 42 4 0) 0 9 1).1 42 3 = 0 := by rw [sI_ne (by omega), sI_ne (by omega), sI_eq]
    have w4 : (sI (sI (sI (cpO h5 28 0 (h5.1 9) 31) 42 3 0) 42 4 0) 0 9 1).1 42 4 = 0 := by rw [sI_ne (by omega), sI_eq]
    have w9 : (sI (sI (sI (cpO h5 28 0 (h5.1 9) 31) 42 3 0) 42 4 0) 0 9 1).1 0 9 = 1 := sI_eq
    generalize hg6 : sI (sI (sI (cpO h5 28 0 (h5.1 9) 31) 42 3 0) 42 4 0) 0 9 1 = h6 at *
    have CD6 : CD (42 - p) D'.2.1 D'.1 D'.2.2.1 h6 := by
      obtain ⟨u1, u2, u3, u4, u5⟩ := CD5
      refine ⟨by rw [w2]; exact u1, u2, fun t ht => ?_, fun t i ht hi => ?_, w28⟩
      · rw [wo (42 - p) _ (by omega) (by omega) (by omega), ← z1]; exact u3 t ht
      · rw [wo (42 - p + 1 + t) _ (by omega) (by omega) (by omega), ← z1]; exact u4 t i ht hi
    have p7 : pI h6 0 11 10 0 = some (sI h6 0 10 0) := pI_at (CD6.1.sh 0 (w := (11, 0)) rfl)
    refine ⟨sI h6 0 10 0, r1, V, r3, ?_, ?_⟩
    · rw [st, if_neg (by decide)]
      simp only [op, CD6.desk, CD6.plan, CD6.c2, CD6.k11, fX11_answer, p7, bd_some, bd2_some]
    · refine ⟨CD6.same (by rfl) (fun b k q1 q2 => by rw [sI_ne (by omega)]), fun b k q => ?_, fun b k q => ?_, ?_, fun b k q1 q2 => ?_, ?_, ?_, ?_, ?_, sI_eq, ?_⟩
      · unfold arO at q
        rw [sI_ne (by omega), wo b k (by omega) (by omega) (by omega), h4o b k (by omega) (by omega)]
        exact F.2.1 b k (by omega)
      · show h6.2.1 b k = _
        rw [w2, z2, h42]; exact F.2.2 b k q
      · show h6.2.2.2 = _
        rw [w2, z3, h42, F.1]
      · show h6.2.2.1 b k = _
        rw [w2, z4 b k q1 q2, h42, F.1]
      · rw [sI_ne (by omega), wo 1 1 (by omega) (by omega) (by omega)]; exact h4a
      · rw [sI_ne (by omega)]; exact w3
      · rw [sI_ne (by omega)]; exact w4
      · rw [sI_ne (by omega)]; exact w9
      · rw [sI_ne (by omega), wo 0 11 (by omega) (by omega) (by omega)]; exact h4b
  · refine Or.inl ⟨e, sI h4 0 10 4, r1, K.2.2.2.1, K.2.2.2.2, ?_, ?_⟩
    · rw [st, if_pos rfl]
      simp only [fX11_refuse, pI_at s04, bd_some, bd2_some]
    · refine ⟨?_, fun b k q => ?_, fun b k q => ?_, ?_, sI_eq, ?_, ?_⟩
      · show h4.2.2 = _
        rw [h42, F1.1]
      · unfold arO at q
        rw [sI_ne (by omega), h4o b k (by omega) (by omega)]
        exact F1.2.1 b k (by omega)
      · show h4.2.1 b k = _
        rw [h42]; exact F1.2.2 b k q
      · rw [sI_ne (by omega)]; exact h4a
      · rw [sI_ne (by omega), h4b]; exact K.2.1
      · rw [sI_ne (by omega), h4c]; exact K.2.2.1
end COF
