/-! ===== office: the model reads ===== -/
section MOF
variable {p : Nat} {h : MH} {B : Nat → Int32} {L w : Nat}
/-- the heap when the model begins to read -/
def HB (L : Nat) (h h0 : MH) : Prop := h0.2.2.2 = h.2.2.2 ++ ((12, 0) :: mSh) ∧ (∀ b k, b < h.2.2.2.length → ¬ (b = 77 ∧ (k = 0 ∨ k = 6 ∨ k = 7 ∨ k = 8 ∨ k = 9 ∨ k = 12)) → h0.1 b k = h.1 b k) ∧ (∀ b k, b < h.2.2.2.length → h0.2.1 b k = h.2.1 b k) ∧ (∀ b k, b < h.2.2.2.length → ¬ (b = 77 ∧ k = 4) → h0.2.2.1 b k = h.2.2.1 b k) ∧ h0.1 77 6 = 0
theorem m_pre (T : tBy B L p h) (hw : L ≤ w) (hw2 : w ≤ 900) (h6 : h.1 77 6 = Int32.ofNat w) : ∃ h0 h1, tBm B L p h.2.2.2.length h0 ∧ HB L h h0 ∧
    fX13_office h 77 (Int32.ofNat L) = (bd (gI h1 77 13 12) fun v5 => if v5 ≤ 0 then (bd (gR h1 77 13 4) fun b6 => bd (pR h1 77 13 3 b6) fun h12 => fX13_office_99 FU h12 77 0) else (bd (pI h1 77 13 1 4) fun h12 => bd (gI h12 77 13 13) fun v6 => bd (pI h12 77 13 2 v6) fun h13 => some ((-1), h13))) ∧
    ((∃ D' q', pTx B L (L + 1) dZ 0 = .inr D' ∧ KM B L h.2.2.2.length h0 (xD D'.1) D' q' h1) ∨ (∃ e, pTx B L (L + 1) dZ 0 = .inl e ∧ KO h.2.2.2.length h0 e h1)) := by
  have S := T.1
  have hl := S.len
  have s := S.sh 77 (w := (13, 0)) rfl
  have R : ∀ (f : Nat → Nat → Int32) (k : Nat) (x : Int32), pI (f, h.2) 77 13 k x = some (up2 f 77 k x, h.2) := fun f k x => pI_at (h := (f, h.2)) s
  have p0 : pI h 77 13 0 0 = some (up2 h.1 77 0 0, h.2) := pI_at s
  have g6 : gI (up2 h.1 77 0 0, h.2) 77 13 6 = some (Int32.ofNat w) := by
    rw [gI_at (h := (up2 h.1 77 0 0, h.2)) s]
    show some (up2 h.1 77 0 0 77 6) = _
    unfold up2
    rw [if_neg (by omega), h6]
  obtain ⟨g1, g, n1, n2, n3, n4, n5, n6, n7, n8⟩ := m_init (up2 (up2 (up2 (up2 (up2 h.1 77 0 0) 77 7 (Int32.ofNat L)) 77 6 0) 77 8 0) 77 12 0, h.2)
  have n4' : ∀ b k, b < h.2.2.2.length → g.1 b k = (up2 (up2 (up2 (up2 (up2 h.1 77 0 0) 77 7 (Int32.ofNat L)) 77 6 0) 77 8 0) 77 12 0) b k ∧ g.2.1 b k = h.2.1 b k ∧ g.2.2.1 b k = h.2.2.1 b k := n4
  have n3' : g.2.2.2 = h.2.2.2 ++ ((12, 0) :: mSh) := n3
  have n5' : g.1 h.2.2.2.length 0 = -1 := n5
  have n6' : ∀ b k, h.2.2.2.length ≤ b → b ≤ h.2.2.2.length + 18 → ¬ (b = h.2.2.2.length ∧ k = 0) → ¬ b = h.2.2.2.length + 3 → g.1 b k = 0 := n6
  have n7' : ∀ i, i < 5 → g.1 (h.2.2.2.length + 3) i = -2 := n7
  have n8' : ∀ i, i < 18 → g.2.2.1 h.2.2.2.length (9 + i) = some (h.2.2.2.length + 1 + i) := n8
  have n2' : fX12_init g1 h.2.2.2.length = some g := n2
  have n1' : nO (up2 (up2 (up2 (up2 (up2 h.1 77 0 0) 77 7 (Int32.ofNat L)) 77 6 0) 77 8 0) 77 12 0, h.2) 12 = some (h.2.2.2.length, g1) := n1
  have sg : g.2.2.2[77]? = some (13, 0) := by rw [n3', List.getElem?_append_left (by omega)]; exact s
  have c77 : ∀ k, ¬ (k = 0 ∨ k = 6 ∨ k = 7 ∨ k = 8 ∨ k = 12) → g.1 77 k = h.1 77 k := fun k hk => by
    rw [(n4' 77 k (by omega)).1]
    unfold up2
    rw [if_neg (by omega), if_neg (by omega), if_neg (by omega), if_neg (by omega), if_neg (by omega)]
  have cb : ∀ b k, b < h.2.2.2.length → ¬ b = 77 → g.1 b k = h.1 b k := fun b k hb h7 => by
    rw [(n4' b k hb).1]
    unfold up2
    rw [if_neg (by omega), if_neg (by omega), if_neg (by omega), if_neg (by omega), if_neg (by omega)]
  have c7 : g.1 77 7 = Int32.ofNat L := by
    rw [(n4' 77 7 (by omega)).1]
    unfold up2
    rw [if_neg (by omega), if_neg (by omega), if_neg (by omega), if_pos ⟨rfl, rfl⟩]
  have c6 : g.1 77 6 = 0 := by
    rw [(n4' 77 6 (by omega)).1]
    unfold up2
    rw [if_neg (by omega), if_neg (by omega), if_pos ⟨rfl, rfl⟩]
  have c8 : g.1 77 8 = 0 := by
    rw [(n4' 77 8 (by omega)).1]
    unfold up2
    rw [if_neg (by omega), if_pos ⟨rfl, rfl⟩]
  have c12 : g.1 77 12 = 0 := by
    rw [(n4' 77 12 (by omega)).1]
    unfold up2
    rw [if_pos ⟨rfl, rfl⟩]
  have pr : pR g 77 13 4 h.2.2.2.length = some (sR g 77 4 (some h.2.2.2.length)) := pR_at sg
  have p9 : pI (sR g 77 4 (some h.2.2.2.length)) 77 13 9 0 = some (sI (sR g 77 4 (some h.2.2.2.length)) 77 9 0) := pI_at (show (sR g 77 4 (some h.2.2.2.length)).2.2.2[77]? = some (13, 0) from sg)
  have r0 : ∀ b k, ¬ (b = 77 ∧ k = 4) → (sI (sR g 77 4 (some h.2.2.2.length)) 77 9 0).2.2.1 b k = g.2.2.1 b k := fun b k hn => by
    show up2 g.2.2.1 77 4 (some h.2.2.2.length) b k = _
    unfold up2
    rw [if_neg hn]
  have r4 : (sI (sR g 77 4 (some h.2.2.2.length)) 77 9 0).2.2.1 77 4 = some h.2.2.2.length := by
    show up2 g.2.2.1 77 4 (some h.2.2.2.length) 77 4 = _
    unfold up2
    rw [if_pos ⟨rfl, rfl⟩]
  have x0 : ∀ b k, ¬ (b = 77 ∧ k = 9) → (sI (sR g 77 4 (some h.2.2.2.length)) 77 9 0).1 b k = g.1 b k := fun b k hn => sI_ne hn
  have x9 : (sI (sR g 77 4 (some h.2.2.2.length)) 77 9 0).1 77 9 = 0 := sI_eq
  have xj : (sI (sR g 77 4 (some h.2.2.2.length)) 77 9 0).2.1 = g.2.1 := rfl
  have xs : (sI (sR g 77 4 (some h.2.2.2.length)) 77 9 0).2.2.2 = g.2.2.2 := rfl
  generalize hg : sI (sR g 77 4 (some h.2.2.2.length)) 77 9 0 = h0 at *
  have C0 : CS p h0.2.2 := by
    obtain ⟨q1, q2, q3, q4, q5, q6⟩ := S
    have re : ∀ b k, b < 90 → ¬ (b = 77 ∧ k = 4) → h0.2.2.1 b k = h.2.2.1 b k := fun b k hb hn => by rw [r0 b k hn]; exact (n4' b k (by omega)).2.2
    obtain ⟨t, ht⟩ := q2
    refine ⟨q1, ⟨t ++ ((12, 0) :: mSh), by rw [xs, n3', ht, List.append_assoc]⟩, by rw [re 26 1 (by omega) (by omega)]; exact q3, by rw [re 3 9 (by omega) (by omega)]; exact q4, fun r hr i b hb => ?_, ?_⟩
    · have hr90 : r.1 < 77 := by
        have : ∀ r ∈ ref0, r.1 < 77 := by decide
        exact this r hr
      rw [re r.1 i (by omega) (by omega)]; exact q5 r hr i b hb
    · rw [re 77 5 (by omega) (by omega), re 77 15 (by omega) (by omega), re 77 16 (by omega) (by omega), re 77 17 (by omega) (by omega), re 77 20 (by omega) (by omega), re 77 21 (by omega) (by omega), re 77 22 (by omega) (by omega), re 77 23 (by omega) (by omega), re 77 24 (by omega) (by omega), re 77 28 (by omega) (by omega), re 77 29 (by omega) (by omega)]
      exact q6
  have Ty : tBy B L p h0 := by
    refine ⟨C0, T.2.1, T.2.2.1, fun k hk => ?_, fun k hk => ?_⟩
    · rw [x0 2 k (by omega), cb 2 k (by omega) (by omega)]; exact T.2.2.2.1 k hk
    · rw [x0 78 k (by omega), cb 78 k (by omega) (by omega)]; exact T.2.2.2.2 k hk
  have l7 : h0.1 77 7 = Int32.ofNat L := by rw [x0 77 7 (by omega)]; exact c7
  have M0 : MO h.2.2.2.length h0.2.2 := by
    refine ⟨hl, ?_, fun j w hj => ⟨?_, ?_⟩⟩
    · rw [xs, n3', List.getElem?_append_right (Nat.le_refl _), Nat.sub_self]; rfl
    · have hj18 : j < 18 := (List.getElem?_eq_some_iff.mp hj).1
      rw [r0 _ _ (by omega)]; exact n8' j hj18
    · rw [xs, n3', List.getElem?_append_right (by omega), show h.2.2.2.length + 1 + j - h.2.2.2.length = j + 1 by omega]
      exact hj
  have TM : tBm B L p h.2.2.2.length h0 := ⟨Ty, l7, M0, r4⟩
  obtain ⟨h10, e10, t1, t2, t3, t4, t5, t6, t7, t8⟩ := m_goesOn (q := 0) Ty l7 (Nat.zero_le _) (h := h0) (so := 0) (pl := h0.1 77 10) (nu := h0.1 77 11) (w := h0.2.1 77 14) ⟨rfl, fun _ _ _ => rfl, fun _ _ _ => rfl, by rw [x0 77 8 (by omega), c8]; rfl, x9, rfl, rfl, rfl⟩ (by decide)
  have K10 : KM B L h.2.2.2.length h0 (xD dZ.1) dZ 0 h10 := by
    have z0 : ∀ b k, h.2.2.2.length ≤ b → b ≤ h.2.2.2.length + 18 → ¬ (b = h.2.2.2.length ∧ k = 0) → ¬ b = h.2.2.2.length + 3 → h10.1 b k = 0 := fun b k q1 q2 q3 q4 => by
      rw [t2 b k (by omega), x0 b k (by omega)]; exact n6' b k q1 q2 q3 q4
    refine ⟨⟨t1, fun b k hn => t2 b k (by omega), fun b k hn => t3 b k (by omega)⟩, ⟨Nat.zero_le _, t4, t5, t6, t7, t8⟩, ?_, ?_, ?_, fun i e hi => ?_, fun t h1 ht => ?_, fun t i ht hx => absurd hx (Nat.not_lt_zero _), fun i hi => ?_, fun i hi => ?_, fun i hi => ?_, fun i h1 hi => ?_⟩
    · rw [t2 77 12 (by omega), x0 77 12 (by omega)]; exact c12
    · rw [z0 _ 8 (by omega) (by omega) (by omega) (by omega)]; rfl
    · rw [t2 _ 0 (by omega), x0 _ 0 (by omega), n5']; rfl
    · have hi' : ([] : NT)[i]? = some e := hi
      rw [List.getElem?_nil] at hi'; cases hi'
    · rw [z0 _ t (by omega) (by omega) (by omega) (by omega)]; rfl
    · rw [z0 _ i (by omega) (by omega) (by omega) (by omega)]; exact (if_neg (by omega)).symm
    · rw [z0 _ i (by omega) (by omega) (by omega) (by omega)]; exact (if_neg (by omega)).symm
    · rw [z0 _ i (by omega) (by omega) (by omega) (by omega)]; exact (if_neg (by omega)).symm
    · rw [t2 _ i (by omega), x0 _ i (by omega)]; exact n7' i hi
  have hL := T.2.1
  obtain ⟨n, hn⟩ := FU_at (L + 1 + 1) (by omega)
  obtain ⟨h11, e11, hv⟩ := m_tx TM (L + 1) 0 n dZ h10 (by omega) WI.z K10
  have e11' : fX13_readAll h10 77 = some h11 := by
    unfold fX13_readAll
    rw [hn]; exact e11
  refine ⟨h0, h11, TM, ⟨by rw [xs, n3'], fun b k hb hn => ?_, fun b k hb => ?_, fun b k hb hn => ?_, ?_⟩, ?_, hv⟩
  · rw [x0 b k (by omega)]
    by_cases z : b = 77
    · subst z; exact c77 k (by omega)
    · exact cb b k hb z
  · rw [xj]; exact (n4' b k hb).2.1
  · rw [r0 b k hn]; exact (n4' b k hb).2.2
  · rw [x0 77 6 (by omega)]; exact c6
  · have cl := k_le (i := L) (n := w) (by omega) (by omega)
    simp only [fX13_office, p0, if_neg (k_neg (show L < 2147483648 by omega)), g6, cl, if_pos hw, R, n1', n2', pr, p9, ck_at (Ty.1.sh 77 (w := (13, 0)) rfl), e10, ck_at (show h10.2.2.2[77]? = some (13, 0) by rw [t1]; exact Ty.1.sh 77 rfl), e11', bd_some, bd2_some]
end MOF
