/-! ===== READING: the class begins ===== -/
section BEG
variable {p : Nat} {h h0 : MH} {B : Nat → Int32} {L q : Nat} {D : DD}
def nZ : Nat → Int32 := fun i => if 5 ≤ i ∧ i < 10 then -2 else 0
def dZ : DD := (fun _ => 0, fun _ _ => 0, nZ, [])
theorem WI.z : WI dZ := by
  refine ⟨⟨Nat.zero_le _, Nat.zero_le _, Nat.zero_le _, Nat.zero_le _, Nat.zero_le _, Nat.zero_le _, Nat.zero_le _, Nat.zero_le _⟩, rfl, fun i e hi => ?_, fun _ _ _ => rfl, ⟨fun s hs => absurd hs (Nat.not_lt_zero _), fun s hs => absurd hs (Nat.not_lt_zero _), fun s hs => absurd hs (Nat.not_lt_zero _), fun s hs => absurd hs (Nat.not_lt_zero _), fun s hs => absurd hs (Nat.not_lt_zero _), fun s hs => absurd hs (Nat.not_lt_zero _), fun s hs => absurd hs (Nat.not_lt_zero _), fun s hs => absurd hs (Nat.not_lt_zero _), fun s hs => absurd hs (Nat.not_lt_zero _)⟩, ⟨fun s hs => absurd hs (Nat.not_lt_zero _), fun s hs => ⟨0, Nat.zero_le _, ?_⟩, fun i hi => ?_, fun i hi => ?_, fun i hi => ?_⟩, rfl⟩
  · have hi' : ([] : NT)[i]? = some e := hi
    rw [List.getElem?_nil] at hi'; cases hi'
  · exact if_neg (by omega)
  · exact if_neg (by omega)
  · exact if_neg (by omega)
  · exact if_pos (by omega)
theorem c_e7 {a : Nat} (s : h.2.2.2[a]? = some (7, 0)) : ∃ h1, fX7_empty h a = some h1 ∧ h1.2 = h.2 ∧ (∀ b k, ¬ (b = a ∧ 12 ≤ k ∧ k ≤ 19) → h1.1 b k = h.1 b k) ∧ ∀ t, t < 8 → h1.1 a (12 + t) = 0 := by
  have P : ∀ (f : Nat → Nat → Int32) (k : Nat) (x : Int32), pI (f, h.2) a 7 k x = some (up2 f a k x, h.2) := fun f k x => pI_at (h := (f, h.2)) s
  have E : fX7_empty h a = some (up2 (up2 (up2 (up2 (up2 (up2 (up2 (up2 h.1 a 12 0) a 13 0) a 14 0) a 15 0) a 16 0) a 17 0) a 18 0) a 19 0, h.2) := by simp only [fX7_empty, pI_at s, sI, P, bd_some]
  refine ⟨_, E, rfl, fun b k hn => ?_, fun t ht => ?_⟩
  · unfold up2
    show (if _ then _ else _) = _
    repeat rw [if_neg (by omega)]
  · unfold up2
    rcases (show t = 0 ∨ t = 1 ∨ t = 2 ∨ t = 3 ∨ t = 4 ∨ t = 5 ∨ t = 6 ∨ t = 7 by omega) with rfl | rfl | rfl | rfl | rfl | rfl | rfl | rfl <;> simp
theorem c_e23 : ∀ (m k n : Nat) (h : MH), k + m = 5 → gR h 8 4 0 = some 9 → h.2.2.2[8]? = some (4, 0) → h.2.2.2[9]? = some (15, 31) → ∃ h1, fX4_empty_23 (n + m + 1) h 8 (Int32.ofNat k) = some h1 ∧ h1.2 = h.2 ∧ (∀ b j, b ≠ 9 → h1.1 b j = h.1 b j) ∧ ∀ i, h1.1 9 i = if 5 + k ≤ i ∧ i < 10 then -2 else h.1 9 i
  | 0, k, n, h, e, g, s8, s9 => by
    refine ⟨h, ?_, rfl, fun _ _ _ => rfl, fun i => by rw [if_neg (by omega)]⟩
    show bX4_empty_23 _ h 8 (Int32.ofNat k) = _
    have c1 : ((5 : Int32) ≤ Int32.ofNat k) ↔ 5 ≤ k := k_le (i := 5) (by decide) (by omega)
    simp only [bX4_empty_23, c1, if_pos (show 5 ≤ k by omega)]
  | m + 1, k, n, h, e, g, s8, s9 => by
    have c1 : ((5 : Int32) ≤ Int32.ofNat k) ↔ 5 ≤ k := k_le (i := 5) (by decide) (by omega)
    have c2 : (5 : Int32) + Int32.ofNat k = Int32.ofNat (5 + k) := by rw [show (5 : Int32) = Int32.ofNat 5 from rfl, k_add]
    have t1 : tI h 9 (Int32.ofNat (5 + k)) (-2) = some (sI h 9 (5 + k) (-2)) := tI_at s9 (by omega) (by decide)
    obtain ⟨h1, e1, d1, d2, d3⟩ := c_e23 m (k + 1) n (sI h 9 (5 + k) (-2)) (by omega) (gR_at s8 (by have := g; rw [gR, if_pos (isK_of s8)] at this; exact this)) s8 s9
    refine ⟨h1, ?_, d1, fun b j hb => by rw [d2 b j hb, sI_ne (by omega)], fun i => ?_⟩
    · show bX4_empty_23 (fX4_empty_23 (n + m + 1)) h 8 (Int32.ofNat k) = _
      simp only [bX4_empty_23, c1, if_neg (show ¬ 5 ≤ k by omega), g, c2, t1, k_succ, e1, bd_some]
    · rw [d3 i]
      by_cases z : i = 5 + k
      · rw [z, if_neg (by omega), if_pos (by omega)]; exact sI_eq
      · rw [sI_ne (by omega)]
        by_cases z2 : 5 + k ≤ i ∧ i < 10
        · rw [if_pos z2, if_pos (by omega)]
        · rw [if_neg z2, if_neg (by omega)]
theorem c_e2 : ∀ (m k n : Nat) (h : MH), k + m = 31 → gR h 8 4 0 = some 9 → h.2.2.2[8]? = some (4, 0) → h.2.2.2[9]? = some (15, 31) → ∃ h1, fX4_empty_2 (n + m + 1) h 8 (Int32.ofNat k) = fX4_empty_23 FU h1 8 0 ∧ h1.2 = h.2 ∧ (∀ b j, b ≠ 9 → h1.1 b j = h.1 b j) ∧ ∀ i, h1.1 9 i = if k ≤ i ∧ i < 31 then 0 else h.1 9 i
  | 0, k, n, h, e, g, s8, s9 => by
    refine ⟨h, ?_, rfl, fun _ _ _ => rfl, fun i => by rw [if_neg (by omega)]⟩
    show bX4_empty_2 _ h 8 (Int32.ofNat k) = _
    have c1 : ((31 : Int32) ≤ Int32.ofNat k) ↔ 31 ≤ k := k_le (i := 31) (by decide) (by omega)
    simp only [bX4_empty_2, c1, if_pos (show 31 ≤ k by omega)]
  | m + 1, k, n, h, e, g, s8, s9 => by
    have c1 : ((31 : Int32) ≤ Int32.ofNat k) ↔ 31 ≤ k := k_le (i := 31) (by decide) (by omega)
    have t1 : tI h 9 (Int32.ofNat k) 0 = some (sI h 9 k 0) := tI_at s9 (by omega) (by decide)
    obtain ⟨h1, e1, d1, d2, d3⟩ := c_e2 m (k + 1) n (sI h 9 k 0) (by omega) (gR_at s8 (by have := g; rw [gR, if_pos (isK_of s8)] at this; exact this)) s8 s9
    refine ⟨h1, ?_, d1, fun b j hb => by rw [d2 b j hb, sI_ne (by omega)], fun i => ?_⟩
    · show bX4_empty_2 (fX4_empty_2 (n + m + 1)) h 8 (Int32.ofNat k) = _
      simp only [bX4_empty_2, c1, if_neg (show ¬ 31 ≤ k by omega), g, t1, k_succ, e1, bd_some]
    · rw [d3 i]
      by_cases z : i = k
      · rw [z, if_neg (by omega), if_pos (by omega)]; exact sI_eq
      · rw [sI_ne (by omega)]
        by_cases z2 : k ≤ i ∧ i < 31
        · rw [if_pos z2, if_pos (by omega)]
        · rw [if_neg z2, if_neg (by omega)]
theorem c_e4 (g : gR h 8 4 0 = some 9) (s8 : h.2.2.2[8]? = some (4, 0)) (s9 : h.2.2.2[9]? = some (15, 31)) : ∃ h1, fX4_empty h 8 = some h1 ∧ h1.2 = h.2 ∧ (∀ b j, b ≠ 9 → h1.1 b j = h.1 b j) ∧ ∀ i, i < 31 → h1.1 9 i = nZ i := by
  obtain ⟨n, hn⟩ := FU_at 31 (by decide)
  obtain ⟨n5, hn5⟩ := FU_at 5 (by decide)
  obtain ⟨h1, e1, d1, d2, d3⟩ := c_e2 31 0 n h rfl g s8 s9
  have g1 : gR h1 8 4 0 = some 9 := gR_at (by rw [d1]; exact s8) (by rw [d1]; have := g; rw [gR, if_pos (isK_of s8)] at this; exact this)
  obtain ⟨h2, e2, f1, f2, f3⟩ := c_e23 5 0 n5 h1 rfl g1 (by rw [d1]; exact s8) (by rw [d1]; exact s9)
  have e2' : fX4_empty_23 FU h1 8 0 = some h2 := by rw [hn5]; exact e2
  refine ⟨h2, ?_, f1.trans d1, fun b j hb => by rw [f2 b j hb, d2 b j hb], fun i hi => ?_⟩
  · unfold fX4_empty
    rw [hn]
    exact e1.trans e2'
  · rw [f3 i, d3 i]
    unfold nZ
    by_cases z : 5 ≤ i ∧ i < 10
    · rw [if_pos z, if_pos (show 5 + 0 ≤ i ∧ i < 10 by omega)]
    · rw [if_neg z, if_neg (show ¬ (5 + 0 ≤ i ∧ i < 10) by omega), if_pos (show 0 ≤ i ∧ i < 31 by omega)]
theorem i32n (x : Int32) : ∃ n, x = Int32.ofNat n := ⟨x.toBitVec.toNat, by apply Int32.toBitVec_inj.mp; simp⟩
theorem c_read (T : tBy B L p h) (W : RW h.2.1) : ∃ v h', fX8_readText h 3 (Int32.ofNat L) = some (v, h') ∧ ((v = 1 ∧ ∃ D' q', pTx B L (L + 1) dZ 0 = .inr D' ∧ WI D' ∧ 1 ≤ D'.1 2 ∧ KC B L p h (xD D'.1) D' q' h') ∨ (v = 0 ∧ ∃ e, pTx B L (L + 1) dZ 0 = .inl e ∧ KF p h e h')) := by
  have hp := T.1.1
  have hL := T.2.1
  have F0 : frC p h h := frC.rf0
  obtain ⟨h1, e1, a1, a2, a3⟩ := c_e7 (rPl T F0)
  have F1 : frC p h h1 := ⟨by rw [a1], fun b k hn => a2 b k (by omega), fun b k _ => by rw [a1]⟩
  have S1 := KC.cs T F1
  obtain ⟨h2, e2, b1, b2, b3⟩ := c_e4 (g80 T F1) (S1.sh 8 rfl) (S1.sh 9 rfl)
  have F2 : frC p h h2 := ⟨by rw [b1, a1], fun b k hn => by rw [b2 b k (by omega), a2 b k (by omega)], fun b k _ => by rw [b1, a1]⟩
  have F3 : frC p h (sI h2 3 10 0) := F2.sI (by omega)
  have F4 : frC p h (sI (sI h2 3 10 0) 3 11 0) := F3.sI (by omega)
  have F5 : frC p h (sI (sI (sI h2 3 10 0) 3 11 0) 3 12 0) := F4.sI (by omega)
  have F6 : frC p h (sI (sI (sI (sI h2 3 10 0) 3 11 0) 3 12 0) 3 13 (-1)) := F5.sI (by omega)
  have p3 : pI h2 3 8 10 0 = some (sI h2 3 10 0) := pI_at (r3 T F2)
  have p4 : pB (sI h2 3 10 0) 3 8 11 0 = some (sI (sI h2 3 10 0) 3 11 0) := pB_at (r3 T F3) (Or.inl rfl)
  have p5 : pI (sI (sI h2 3 10 0) 3 11 0) 3 8 12 0 = some (sI (sI (sI h2 3 10 0) 3 11 0) 3 12 0) := pI_at (r3 T F4)
  have p6 : pI (sI (sI (sI h2 3 10 0) 3 11 0) 3 12 0) 3 8 13 (-1) = some (sI (sI (sI (sI h2 3 10 0) 3 11 0) 3 12 0) 3 13 (-1)) := pI_at (r3 T F5)
  generalize hg : sI (sI (sI (sI h2 3 10 0) 3 11 0) 3 12 0) 3 13 (-1) = h6 at *
  have F7 : frC p h (sI h6 1 2 (Int32.ofNat L)) := F6.sI (by omega)
  have F8 : frC p h (sI (sI h6 1 2 (Int32.ofNat L)) 1 5 0) := F7.sI (by omega)
  have p7 : pI h6 1 10 2 (Int32.ofNat L) = some (sI h6 1 2 (Int32.ofNat L)) := pI_at (r1 T F6)
  have p8 : pI (sI h6 1 2 (Int32.ofNat L)) 1 10 5 0 = some (sI (sI h6 1 2 (Int32.ofNat L)) 1 5 0) := pI_at (r1 T F7)
  generalize hg2 : sI (sI h6 1 2 (Int32.ofNat L)) 1 5 0 = h8 at *
  have h8c : ∀ b k, ¬ b = 1 → h8.1 b k = h6.1 b k := fun b k hb => by rw [← hg2, sI_ne (by omega), sI_ne (by omega)]
  have h6c : ∀ b k, ¬ b = 3 → h6.1 b k = h2.1 b k := fun b k hb => by rw [← hg, sI_ne (by omega), sI_ne (by omega), sI_ne (by omega), sI_ne (by omega)]
  have T8 := KC.ty T F8
  have l8 : h8.1 1 2 = Int32.ofNat L := by rw [← hg2, sI_ne (by omega)]; exact sI_eq
  obtain ⟨n4, hn4⟩ := i32n (h8.1 1 4)
  obtain ⟨n3, hn3⟩ := i32n (h8.1 1 3)
  obtain ⟨h9, e9, t1, t2, t3, t4, t5, t6, t7⟩ := c_advance (q := 0) T8 l8 (Nat.zero_le _) (w := h8.2.1 1 6) (f := n4) (s := n3) (h := h8) ⟨rfl, fun _ _ _ => rfl, fun _ _ _ => rfl, hn4, hn3, by rw [← hg2]; exact sI_eq, rfl⟩
  have h9c : ∀ b k, ¬ b = 1 → h9.1 b k = h6.1 b k := fun b k hb => by rw [t2 b k (by omega), h8c b k hb]
  have F9 : frC p h h9 := ⟨by rw [t1]; exact F8.1, fun b k hn => by rw [t2 b k (by omega)]; exact F8.2.1 b k hn, fun b k hn => by rw [t3 b k (by omega)]; exact F8.2.2 b k hn⟩
  have K9 : KC B L p h (xD dZ.1) dZ 0 h9 := by
    refine ⟨F9, ⟨Nat.zero_le _, by rw [t2 1 2 (by omega)]; exact l8, t4, t5, t6, t7⟩, ?_, ?_, ?_, fun i e hi => ?_, fun t ht => ?_, fun t i ht hx => absurd hx (Nat.not_lt_zero _), fun i hi => ?_⟩
    · rw [h9c 3 10 (by omega), ← hg, sI_ne (by omega), sI_ne (by omega), sI_ne (by omega), sI_eq]; rfl
    · rw [h9c 3 11 (by omega), ← hg, sI_ne (by omega), sI_ne (by omega), sI_eq]; rfl
    · rw [h9c 3 12 (by omega), ← hg, sI_ne (by omega), sI_eq]
    · have hi' : ([] : NT)[i]? = some e := hi
      rw [List.getElem?_nil] at hi'; cases hi'
    · rw [h9c (42 - p) _ (by omega), h6c (42 - p) _ (by omega), b2 (42 - p) _ (by omega), a3 t ht]; rfl
    · rw [h9c 9 i (by omega), h6c 9 i (by omega), b3 i hi]; rfl
  obtain ⟨n, hn⟩ := FU_at (L + 1) (by omega)
  obtain ⟨v, h', e', hv⟩ := c_tx T W (L + 1) 0 0 n dZ h9 (by omega) (Nat.le_refl _) WI.z K9
  refine ⟨v, h', ?_, ?_⟩
  · have q8 : fX10_begin h6 1 (Int32.ofNat L) = some h9 := by
      simp only [fX10_begin, p7, p8, ck_at (r1 T F8), e9, bd_some]
    have e'' : fX8_readText_44 FU h9 3 0 = some (v, h') := by rw [hn]; exact e'
    simp only [fX8_readText, g39 T F0, ck_at (rPl T F0), e1, g35 T F1, ck_at (r8 T F1), e2, p3, p4, p5, p6, g30 T F6, ck_at (r1 T F6), q8, e'', bd_some]
  · rcases hv with ⟨r1, D', q', r2, r3, r4, r5⟩ | hv
    · exact Or.inl ⟨r1, D', q', r2, r3, r4, r5⟩
    · exact Or.inr hv
end BEG
