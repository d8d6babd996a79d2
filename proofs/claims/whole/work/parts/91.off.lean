/-! ===== office: both ===== -/
section OFF
variable {p : Nat} {P : PT} {c : CT} {N : Nat → Int32} {f a m w : Nat} {h h0 h1 hM g : MH} {B : Nat → Int32} {L q : Nat} {D : DD} {e : Nat × Nat}
theorem of_room (hs : g.2.2.2 = h.2.2.2 ++ ((12, 0) :: mSh)) : mLen g ≤ mLen h + 20 ∧ mSl g ≤ mSl h + 200 := by
  unfold mLen mSl
  rw [hs, List.length_append, List.map_append, List.sum_append]
  have e1 : ((12, 0) :: mSh).length ≤ 20 := by decide
  have e2 : (((12, 0) :: mSh).map mSz).sum ≤ 200 := by decide
  exact ⟨by omega, by omega⟩
theorem of_fault (R : RR p P c N f a m w h) (E : FA p e h h1) (H : HB L h1 h0) (K : KO h1.2.2.2.length h0 e hM) : RR p P c N f a m 0 (sI (sI hM 77 1 4) 77 2 (Int32.ofNat e.2)) ∧ (sI (sI hM 77 1 4) 77 2 (Int32.ofNat e.2)).2.2.2 = h.2.2.2 ++ ((12, 0) :: mSh) := by
  obtain ⟨r1, r2, r3, r4, r5, r6, r7, r8, r9, r10, r11, r12⟩ := R
  have hl := r1.1.len
  obtain ⟨a1, a2, a3, a4, a5, a6, a7⟩ := E
  obtain ⟨b1, b2, b3, b4, b5⟩ := H
  obtain ⟨⟨k1, k2, k3⟩, m1, m2, m3, -, -, -⟩ := K
  have l1 : h1.2.2.2.length = h.2.2.2.length := by rw [a1]
  have hp := r1.1.1
  have hs : hM.2.2.2 = h.2.2.2 ++ ((12, 0) :: mSh) := by rw [k1, b1, a1]
  have hr : ∀ b k, b < h.2.2.2.length → ¬ (b = 77 ∧ k = 4) → hM.2.2.1 b k = h.2.2.1 b k := fun b k q1 q2 => by rw [k1, b4 b k (by omega) q2, a1]
  have hc : ∀ b k, b < h.2.2.2.length → ¬ b = 77 → (sI (sI hM 77 1 4) 77 2 (Int32.ofNat e.2)).1 b k = h1.1 b k := fun b k q1 q2 => by
    rw [sI_ne (by omega), sI_ne (by omega), k2 b k (by omega), b2 b k (by omega) (by omega)]
  have hx : ∀ b k, b < h.2.2.2.length → ¬ b = 77 → ¬ arO p b k → (sI (sI hM 77 1 4) 77 2 (Int32.ofNat e.2)).1 b k = h.1 b k := fun b k q1 q2 q3 => by
    rw [hc b k q1 q2, a2 b k q3]
  have h77 : ∀ k, 14 ≤ k → (sI (sI hM 77 1 4) 77 2 (Int32.ofNat e.2)).1 77 k = h.1 77 k := fun k q1 => by
    rw [sI_ne (by omega), sI_ne (by omega), k2 77 k (by omega), b2 77 k (by omega) (by omega), a2 77 k (by unfold arO; omega)]
  have x6 : (sI (sI hM 77 1 4) 77 2 (Int32.ofNat e.2)).1 77 6 = 0 := by
    rw [sI_ne (by omega), sI_ne (by omega), k2 77 6 (by omega)]; exact b5
  have x1 : (sI (sI hM 77 1 4) 77 2 (Int32.ofNat e.2)).1 77 1 = 4 := by rw [sI_ne (by omega), sI_eq]
  have x2 : (sI (sI hM 77 1 4) 77 2 (Int32.ofNat e.2)).1 77 2 = Int32.ofNat e.2 := sI_eq
  have x12 : (sI (sI hM 77 1 4) 77 2 (Int32.ofNat e.2)).1 77 12 = Int32.ofNat e.1 := by rw [sI_ne (by omega), sI_ne (by omega)]; exact m2
  have xs : (sI (sI hM 77 1 4) 77 2 (Int32.ofNat e.2)).2 = hM.2 := rfl
  generalize hg : sI (sI hM 77 1 4) 77 2 (Int32.ofNat e.2) = g at *
  have t9 : g.1 0 9 = h.1 0 9 := hx 0 9 (by omega) (by omega) (by unfold arO; omega)
  have z0 : ∀ b, b < h.2.2.2.length → ¬ b = 77 → (∀ k, ¬ arO p b k) → g.1 b = h.1 b := fun b q1 q2 q3 => funext fun k => hx b k q1 q2 (q3 k)
  refine ⟨⟨?_, r2, r3, ?_, by rw [t9]; exact r5, ?_, ?_, ?_, ?_, ?_, by rw [t9]; exact r11, ?_⟩, by rw [xs]; exact hs⟩
  · obtain ⟨c1, c2, c3, c4, c5⟩ := r1
    refine ⟨c1.g34 (by rw [xs]; exact hs) (fun b k q1 q2 => by rw [xs]; exact hr b k (by omega) (by omega)), c2, fun t ht => ?_, fun t i ht hi => ?_, fun i hi => ?_⟩
    · rw [hx p _ (by omega) (by omega) (by unfold arO; omega)]; exact c3 t ht
    · rw [hx (p + 1 + t) _ (by omega) (by omega) (by unfold arO; omega)]; exact c4 t i ht hi
    · rw [hx 28 _ (by omega) (by omega) (by unfold arO; omega)]; exact c5 i hi
  · rcases r4 with ⟨q1, o, q2⟩ | ⟨q1, q2, q3, q4⟩
    · exact Or.inl ⟨t9.trans q1, o, q2.g34 (by rw [xs]; exact hs) (fun b k z1 z2 => by rw [xs]; exact hr b k z1 z2) (fun b k z1 z2 => hx b k z1 (by omega) (by unfold arO; omega))⟩
    · exact Or.inr ⟨t9.trans q1, by rw [xs, hr 77 3 (by omega) (by omega)]; exact q2, q3, q4⟩
  · obtain ⟨p1, p2, p3, p4, p5, p6, p7, p8, p9, p10⟩ := r6
    have e42 : g.1 42 = h.1 42 := z0 42 (by omega) (by omega) (fun k => by unfold arO; omega)
    refine ⟨p1, p2, p3, by rw [e42]; exact p4, by rw [e42]; exact p5, by rw [e42]; exact p6, by rw [h77 18 (by omega)]; exact p7, by rw [h77 19 (by omega)]; exact p8, fun j hj => ?_, fun j hj => ?_⟩
    · rw [z0 80 (by omega) (by omega) (fun k => by unfold arO; omega), z0 (44 + (f + 16 - a + j) % 16) (by omega) (by omega) (fun k => by unfold arO; omega)]; exact p9 j hj
    · rw [z0 81 (by omega) (by omega) (fun k => by unfold arO; omega), z0 (61 + j) (by omega) (by omega) (fun k => by unfold arO; omega)]; exact p10 j hj
  · obtain ⟨p1, p2, p3, p4⟩ := r7
    refine ⟨Nat.zero_le _, by rw [hc 1 1 (by omega) (by omega), a4]; rfl, by rw [x6]; rfl, fun i hi => ?_⟩
    rw [z0 2 (by omega) (by omega) (fun k => by unfold arO; omega), z0 78 (by omega) (by omega) (fun k => by unfold arO; omega)]; exact p4 i hi
  · rw [x1, hc 0 10 (by omega) (by omega), a5]
  · rw [x2, hc 0 10 (by omega) (by omega), hc 0 12 (by omega) (by omega), a5, a7, if_pos rfl]
  · rw [x12, hc 0 11 (by omega) (by omega), a6]
  · have hj : ∀ b k, b < 77 → ¬ ((b = 1 ∧ k = 6) ∨ b = 10) → g.2.1 b k = h.2.1 b k := fun b k q1 q2 => by rw [xs, k3 b k (by omega), b3 b k (by omega), a3 b k q2]
    obtain ⟨w1, w2, w3, w4⟩ := r12
    exact ⟨fun i x hx => by rw [hj 4 i (by omega) (by omega)]; exact w1 i x hx, fun i x hx => by rw [hj 5 i (by omega) (by omega)]; exact w2 i x hx, fun i x hx => by rw [hj 6 i (by omega) (by omega)]; exact w3 i x hx, fun i x hx => by rw [hj 7 i (by omega) (by omega)]; exact w4 i x hx⟩
theorem of_succ (R : RR p P c N f a m w h) (V : WI D) (hc2 : 1 ≤ D.1 2) (E : SU p D h h1) (H : HB L h1 h0) (K : KM B L h1.2.2.2.length h0 (xD D.1) D q hM)
    (M : MM h1.2.2.2.length D.2.1 D.1 D.2.2.1 g) (g1 : g.2.1 = hM.2.1) (g2 : g.2.2.2 = hM.2.2.2) (g3 : ∀ b k, ¬ (b = 77 ∧ k = 3) → g.2.2.1 b k = hM.2.2.1 b k) (g4 : ∀ b j, ¬ b = 79 → ¬ (b = 77 ∧ (j = 1 ∨ j = 2 ∨ j = 18 ∨ j = 19)) → g.1 b j = hM.1 b j) (g5 : g.1 77 1 = 0) (g6 : g.1 77 2 = -1) (g7 : g.1 77 18 = 0) (g8 : g.1 77 19 = 0) :
    RR (42 - p) D.2.1 D.1 D.2.2.1 f 0 0 0 g ∧ g.2.2.2 = h.2.2.2 ++ ((12, 0) :: mSh) := by
  obtain ⟨r1, r2, r3, r4, r5, r6, r7, r8, r9, r10, r11, r12⟩ := R
  have hl := r1.1.len
  obtain ⟨a0, a2, a3, as, ar, a4, a42, a43, a9, a10, a11⟩ := E
  obtain ⟨b1, b2, b3, b4, b5⟩ := H
  obtain ⟨⟨k1, k2, k3⟩, tk, d1, -⟩ := K
  have l1 : h1.2.2.2.length = h.2.2.2.length := by rw [as]
  have hp := r1.1.1
  have hs : g.2.2.2 = h1.2.2.2 ++ ((12, 0) :: mSh) := by rw [g2, k1, b1]
  have hr : ∀ b k, b < h.2.2.2.length → ¬ (b = 77 ∧ (k = 3 ∨ k = 4)) → g.2.2.1 b k = h1.2.2.1 b k := fun b k q1 q2 => by rw [g3 b k (by omega), k1, b4 b k (by omega) (by omega)]
  have hc : ∀ b k, b < h.2.2.2.length → ¬ b = 77 → ¬ b = 79 → g.1 b k = h1.1 b k := fun b k q1 q2 q3 => by
    rw [g4 b k q3 (by omega), k2 b k (by omega), b2 b k (by omega) (by omega)]
  have x6 : g.1 77 6 = 0 := by
    rw [g4 77 6 (by omega) (by omega), k2 77 6 (by omega)]; exact b5
  have x12 : g.1 77 12 = 0 := by rw [g4 77 12 (by omega) (by omega)]; exact d1
  have x9 : g.1 0 9 = 1 := by rw [hc 0 9 (by omega) (by omega) (by omega)]; exact a9
  have x10 : g.1 0 10 = 0 := by rw [hc 0 10 (by omega) (by omega) (by omega)]; exact a10
  refine ⟨⟨?_, V.2.2.2.2.1, V.wn, Or.inl ⟨x9, _, M⟩, fun z => absurd (x9.symm.trans z) (by decide), ?_, ?_, by rw [g5, x10], by rw [g6, x10, if_neg (by decide)], ?_, fun _ => hc2, ?_⟩, by rw [hs, as]⟩
  · obtain ⟨c1, c2, c3, c4, c5⟩ := a0
    refine ⟨c1.g34 hs (fun b k q1 q2 => hr b k (by omega) q2), c2, fun t ht => ?_, fun t i ht hi => ?_, fun i hi => ?_⟩
    · rw [hc (42 - p) _ (by omega) (by omega) (by omega)]; exact c3 t ht
    · rw [hc (42 - p + 1 + t) _ (by omega) (by omega) (by omega)]; exact c4 t i ht hi
    · rw [hc 28 _ (by omega) (by omega) (by omega)]; exact c5 i hi
  · refine ⟨r6.1, Nat.zero_le _, Nat.zero_le _, ?_, ?_, ?_, by rw [g7]; rfl, by rw [g8]; rfl, fun j hj => absurd hj (Nat.not_lt_zero _), fun j hj => absurd hj (Nat.not_lt_zero _)⟩
    · rw [hc 42 2 (by omega) (by omega) (by omega), a2 42 2 (by unfold arO; omega)]; exact r6.2.2.2.1
    · rw [hc 42 3 (by omega) (by omega) (by omega), a42]; rfl
    · rw [hc 42 4 (by omega) (by omega) (by omega), a43]; rfl
  · obtain ⟨p1, p2, p3, p4⟩ := r7
    refine ⟨Nat.zero_le _, by rw [hc 1 1 (by omega) (by omega) (by omega), a4]; rfl, by rw [x6]; rfl, fun i hi => ?_⟩
    rw [hc 2 i (by omega) (by omega) (by omega), hc 78 i (by omega) (by omega) (by omega), a2 2 i (by unfold arO; omega), a2 78 i (by unfold arO; omega)]; exact p4 i hi
  · rw [x12, hc 0 11 (by omega) (by omega) (by omega), a11]
  · have hj : ∀ b k, b < 77 → ¬ ((b = 1 ∧ k = 6) ∨ b = 10) → g.2.1 b k = h.2.1 b k := fun b k q1 q2 => by rw [g1, k3 b k (by omega), b3 b k (by omega), a3 b k q2]
    obtain ⟨w1, w2, w3, w4⟩ := r12
    exact ⟨fun i x hx => by rw [hj 4 i (by omega) (by omega)]; exact w1 i x hx, fun i x hx => by rw [hj 5 i (by omega) (by omega)]; exact w2 i x hx, fun i x hx => by rw [hj 6 i (by omega) (by omega)]; exact w3 i x hx, fun i x hx => by rw [hj 7 i (by omega) (by omega)]; exact w4 i x hx⟩
theorem of_ref (R : RR p P c N f a m w h) {x : Int32} (e1 : fX11_office h 0 x = (bd (ck h 0 11) fun _ => bd2 (fX11_refuse h 0 2) fun v2 h1 => some (v2, h1))) (e2 : fX13_office (sI h 0 10 2) 77 x = (bd2 (fX13_refused (sI (sI h 0 10 2) 77 0 0) 77 2) fun v2 h2 => some (v2, h2))) : CL h (fX11_office h 0 x) (fun h => fX13_office h 77 x) := by
  have s0 : h.2.2.2[0]? = some (11, 0) := R.cs.sh 0 rfl
  refine (R.ob1 (-1) 2 (by decide) ?_ ?_).cl
  · rw [e1]
    simp only [ck_at s0, fX11_refuse, pI_at s0, bd_some, bd2_some]
  · show fX13_office (sI h 0 10 2) 77 x = _
    rw [e2, m_refused (R.s1 2), bd2_some]
theorem a_office (R : RR p P c N f a m w h) (x : Int32) : CL h (fX11_office h 0 x) (fun h => fX13_office h 77 x) := by
  have S := R.cs
  obtain ⟨w1, w2, w3, w4⟩ := R.2.2.2.2.2.2.1
  have s0 : h.2.2.2[0]? = some (11, 0) := S.sh 0 rfl
  have s77 := R.s1 2
  have p0 : pI (sI h 0 10 2) 77 13 0 0 = some (sI (sI h 0 10 2) 77 0 0) := pI_at s77
  have ck7 : ck (sI (sI h 0 10 2) 77 0 0) 77 13 = some () := ck_at (show (sI (sI h 0 10 2) 77 0 0).2.2.2[77]? = some (13, 0) from s77)
  by_cases hx : x < 0
  · refine of_ref R ?_ ?_
    · unfold fX11_office; rw [if_pos hx]
    · simp only [fX13_office, p0, bd_some, if_pos hx, ck7]
  · have g0 : gR h 0 11 0 = some 1 := gR_at s0 (S.rf 0 rfl rfl)
    have g1 : gI h 1 10 1 = some (Int32.ofNat w) := by rw [gI_at (S.sh 1 (w := (10, 0)) rfl), w2]
    have g6 : gI (sI (sI h 0 10 2) 77 0 0) 77 13 6 = some (Int32.ofNat w) := by
      rw [gI_at (show (sI (sI h 0 10 2) 77 0 0).2.2.2[77]? = some (13, 0) from s77), sI_ne (by omega), sI_ne (by omega), w3]
    by_cases hw : x ≤ Int32.ofNat w
    · obtain ⟨L, hL, rfl⟩ : ∃ L, L ≤ w ∧ x = Int32.ofNat L := by
        have h1 := hx
        have h2 := hw
        rw [Int32.lt_iff_toInt_lt, Int32.toInt_zero] at h1
        rw [Int32.le_iff_toInt_le, k_toInt (by omega)] at h2
        exact ⟨x.toInt.toNat, by omega, i32_of_toInt (by omega) (by omega)⟩
      have T : tBy (fun k => if k < 900 then h.1 2 k else 0) L p h := by
        refine ⟨S, by omega, fun k => ?_, fun k hk => (if_pos hk).symm, fun k hk => ?_⟩
        · by_cases z : k < 900
          · show bR (if k < 900 then h.1 2 k else 0)
            rw [if_pos z]; exact (w4 k z).2
          · show bR (if k < 900 then h.1 2 k else 0)
            rw [if_neg z]; exact ⟨by decide, by decide⟩
        · show _ = (if k < 900 then h.1 2 k else 0)
          rw [if_pos hk]; exact ((w4 k hk).1).symm
      have hp := S.1
      have hl := S.len
      rcases c_office T R.2.2.2.2.2.2.2.2.2.2.2 hL w1 w2 with ⟨e, h1, q1, q2, q3, q4, E⟩ | ⟨D, h1, q1, V, q3, q4, E⟩
      · have T1 : tBy (fun k => if k < 900 then h.1 2 k else 0) L p h1 := by
          refine ⟨by rw [E.1]; exact S, T.2.1, T.2.2.1, fun k hk => ?_, fun k hk => ?_⟩
          · rw [E.2.1 2 k (by unfold arO; omega)]; exact T.2.2.2.1 k hk
          · rw [E.2.1 78 k (by unfold arO; omega)]; exact T.2.2.2.2 k hk
        obtain ⟨h0, hM, t1, t2, t3, t4⟩ := m_pre T1 hL w1 (by rw [E.2.1 77 6 (by unfold arO; omega)]; exact w3)
        rcases t4 with ⟨D', q', u1, u2⟩ | ⟨e', u1, K⟩
        · rw [q1] at u1; cases u1
        · rw [q1] at u1
          obtain rfl : e = e' := Sum.inl.inj u1
          obtain ⟨R', hs⟩ := of_fault R E t2 K
          have s7 : hM.2.2.2[77]? = some (13, 0) := m77 t1 K.1
          refine ⟨-1, h1, _, q4, ?_, ⟨_, _, _, _, _, _, _, _, R'⟩, (of_room hs).1, (of_room hs).2⟩
          show fX13_office h1 77 (Int32.ofNat L) = _
          have x12 : gI hM 77 13 12 = some (Int32.ofNat e.1) := by rw [gI_at s7, K.2.2.1]
          have x13 : gI (sI hM 77 1 4) 77 13 13 = some (Int32.ofNat e.2) := by rw [gI_at (show (sI hM 77 1 4).2.2.2[77]? = some (13, 0) from s7), sI_ne (by omega), K.2.2.2.1]
          have c0 : ¬ Int32.ofNat e.1 ≤ 0 := fun z => by have := (k_le (i := e.1) (n := 0) (by omega) (by decide)).mp z; omega
          rw [t3]
          simp only [x12, bd_some, if_neg c0, pI_at s7, x13, pI_at (show (sI hM 77 1 4).2.2.2[77]? = some (13, 0) from s7)]
      · have T1 : tBy (fun k => if k < 900 then h.1 2 k else 0) L (42 - p) h1 := by
          refine ⟨E.1.1, T.2.1, T.2.2.1, fun k hk => ?_, fun k hk => ?_⟩
          · rw [E.2.1 2 k (by unfold arO; omega)]; exact T.2.2.2.1 k hk
          · rw [E.2.1 78 k (by unfold arO; omega)]; exact T.2.2.2.2 k hk
        obtain ⟨h0, hM, t1, t2, t3, t4⟩ := m_pre T1 hL w1 (by rw [E.2.1 77 6 (by unfold arO; omega)]; exact w3)
        rcases t4 with ⟨D', q', u1, K⟩ | ⟨e', u1, u2⟩
        · rw [q1] at u1
          obtain rfl : D = D' := Sum.inr.inj u1
          obtain ⟨g, y1, y2, y3, y4, y5, y6, y7, y8, y9, y10⟩ := m_suc t1 K V q3
          obtain ⟨R', hs⟩ := of_succ R V q3 E t2 K y2 y3 y4 y5 y6 y7 y8 y9 y10
          exact ⟨_, h1, g, q4, t3.trans y1, ⟨_, _, _, _, _, _, _, _, R'⟩, (of_room hs).1, (of_room hs).2⟩
        · rw [q1] at u1; cases u1
    · refine of_ref R ?_ ?_
      · simp only [fX11_office, if_neg hx, g0, g1, bd_some, if_neg hw]
      · simp only [fX13_office, p0, bd_some, if_neg hx, g6, if_neg hw, ck7]
end OFF
