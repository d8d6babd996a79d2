/-! ===== TOKENS: the model's way ===== -/
section TKM
variable {p : Nat} {h h0 : MH} {B : Nat → Int32} {L q : Nat} {so pl nu : Int32} {sp : Nat} {w : Int64}
def tM (h0 h : MH) (sp : Nat) (so pl nu : Int32) (w : Int64) : Prop := h.2.2 = h0.2.2 ∧ (∀ b k, ¬ (b = 77 ∧ (k = 8 ∨ k = 9 ∨ k = 10 ∨ k = 11)) → h.1 b k = h0.1 b k) ∧ (∀ b k, ¬ (b = 77 ∧ k = 14) → h.2.1 b k = h0.2.1 b k) ∧ h.1 77 8 = Int32.ofNat sp ∧ h.1 77 9 = so ∧ h.1 77 10 = pl ∧ h.1 77 11 = nu ∧ h.2.1 77 14 = w
theorem tM.x8 (T : tM h0 h sp so pl nu w) (x : Nat) : tM h0 (sI h 77 8 (Int32.ofNat x)) x so pl nu w := by
  obtain ⟨a1, a2, a3, a4, a5, a6, a7, a8⟩ := T
  exact ⟨a1, fun b k z => by rw [sI_ne (by omega)]; exact a2 b k z, a3, sI_eq, by rw [sI_ne (by omega)]; exact a5, by rw [sI_ne (by omega)]; exact a6, by rw [sI_ne (by omega)]; exact a7, a8⟩
theorem tM.x9 (T : tM h0 h sp so pl nu w) (x : Int32) : tM h0 (sI h 77 9 x) sp x pl nu w := by
  obtain ⟨a1, a2, a3, a4, a5, a6, a7, a8⟩ := T
  exact ⟨a1, fun b k z => by rw [sI_ne (by omega)]; exact a2 b k z, a3, by rw [sI_ne (by omega)]; exact a4, sI_eq, by rw [sI_ne (by omega)]; exact a6, by rw [sI_ne (by omega)]; exact a7, a8⟩
theorem tM.x10 (T : tM h0 h sp so pl nu w) (x : Int32) : tM h0 (sI h 77 10 x) sp so x nu w := by
  obtain ⟨a1, a2, a3, a4, a5, a6, a7, a8⟩ := T
  exact ⟨a1, fun b k z => by rw [sI_ne (by omega)]; exact a2 b k z, a3, by rw [sI_ne (by omega)]; exact a4, by rw [sI_ne (by omega)]; exact a5, sI_eq, by rw [sI_ne (by omega)]; exact a7, a8⟩
theorem tM.x11 (T : tM h0 h sp so pl nu w) (x : Int32) : tM h0 (sI h 77 11 x) sp so pl x w := by
  obtain ⟨a1, a2, a3, a4, a5, a6, a7, a8⟩ := T
  exact ⟨a1, fun b k z => by rw [sI_ne (by omega)]; exact a2 b k z, a3, by rw [sI_ne (by omega)]; exact a4, by rw [sI_ne (by omega)]; exact a5, by rw [sI_ne (by omega)]; exact a6, sI_eq, a8⟩
theorem tM.x14 (T : tM h0 h sp so pl nu w) (x : Int64) : tM h0 (sJ h 77 14 x) sp so pl nu x := by
  obtain ⟨a1, a2, a3, a4, a5, a6, a7, a8⟩ := T
  exact ⟨a1, a2, fun b k z => by show (if b = 77 ∧ k = 14 then x else h.2.1 b k) = _; rw [if_neg z]; exact a3 b k z, a4, a5, a6, a7, by show (if 77 = 77 ∧ 14 = 14 then x else h.2.1 77 14) = x; rw [if_pos ⟨rfl, rfl⟩]⟩
/-- what byteAt answers -/
def ub (B : Nat → Int32) (L k : Nat) : Int32 := if k < L then B k &&& 255 else -1
theorem tM.s77 (T : tBy B L p h0) (E : tM h0 h sp so pl nu w) : h.2.2.2[77]? = some (13, 0) := by rw [E.1]; exact T.1.sh 77 rfl
theorem m_byteAt (T : tBy B L p h0) (hl : h0.1 77 7 = Int32.ofNat L) (E : tM h0 h sp so pl nu w) (k : Nat) (hk : k ≤ 900) : fX13_byteAt h 77 (Int32.ofNat k) = some (ub B L k, h) := by
  have s77 := tM.s77 T E
  obtain ⟨S, hL, hb, t1, t2⟩ := T
  have S' : CS p h.2.2 := by rw [E.1]; exact S
  have g7 : gI h 77 13 7 = some (Int32.ofNat L) := by rw [gI_at s77, E.2.1 77 7 (by omega), hl]
  have g5 : gR h 77 13 5 = some 78 := gR_at s77 S'.2.2.2.2.2.1
  have kl := k_le (i := L) (n := k) (by omega) (by omega)
  simp only [fX13_byteAt, g7, g5, bd_some, kl]
  unfold ub
  by_cases z : k < L
  · have l1 : lB h 78 (Int32.ofNat k) = some (B k) := by rw [lB_at (S'.sh 78 rfl) (show k < 900 by omega) (by decide), E.2.1 78 k (by omega), t2 k (by omega)]
    rw [if_neg (by omega), if_pos z, l1, bd_some]
  · rw [if_pos (by omega), if_neg z]
theorem sk_nb : ∀ m k, sk B m k < k + m → ¬ B (sk B m k) = 32
  | 0, k, h => by unfold sk at h; omega
  | m + 1, k, h => by
    unfold sk at h ⊢
    by_cases z : B k = 32
    · rw [if_pos z] at h ⊢; exact sk_nb m (k + 1) (by omega)
    · rw [if_neg z]; exact z
theorem m_let (h : MH) (hb : ∀ k, bR (B k)) (k : Nat) : fX13_isLetter h (ub B L k) = some (if k < L ∧ cls (B k) = 1 then 1 else 0, h) := by
  unfold fX13_isLetter ub
  by_cases z : k < L
  · obtain ⟨c1, c2, c3, c4, c5, c6, c7, c8⟩ := cls_ub (hb k)
    rw [if_pos z]
    by_cases z1 : cls (B k) = 1
    · obtain ⟨d1, d2⟩ := c3.mp z1
      rw [if_neg d1, if_neg d2, if_pos ⟨z, z1⟩]
    · rw [if_neg (show ¬ (k < L ∧ cls (B k) = 1) from fun x => z1 x.2)]
      by_cases d1 : (B k &&& 255) < 97
      · rw [if_pos d1]
      · by_cases d2 : 122 < (B k &&& 255)
        · rw [if_neg d1, if_pos d2]
        · exact absurd (c3.mpr ⟨d1, d2⟩) z1
  · rw [if_neg z, if_pos (show (-1 : Int32) < 97 by decide), if_neg (show ¬ (k < L ∧ cls (B k) = 1) from fun x => z x.1)]
theorem m_dig (h : MH) (hb : ∀ k, bR (B k)) (k : Nat) : fX13_isDigit h (ub B L k) = some (if k < L ∧ cls (B k) = 2 then 1 else 0, h) := by
  unfold fX13_isDigit ub
  by_cases z : k < L
  · obtain ⟨c1, c2, c3, c4, c5, c6, c7, c8⟩ := cls_ub (hb k)
    rw [if_pos z]
    by_cases z1 : cls (B k) = 2
    · obtain ⟨d1, d2⟩ := c4.mp z1
      rw [if_neg d1, if_neg d2, if_pos ⟨z, z1⟩]
    · rw [if_neg (show ¬ (k < L ∧ cls (B k) = 2) from fun x => z1 x.2)]
      by_cases d1 : (B k &&& 255) < 48
      · rw [if_pos d1]
      · by_cases d2 : 57 < (B k &&& 255)
        · rw [if_neg d1, if_pos d2]
        · exact absurd (c4.mpr ⟨d1, d2⟩) z1
  · rw [if_neg z, if_pos (show (-1 : Int32) < 48 by decide), if_neg (show ¬ (k < L ∧ cls (B k) = 2) from fun x => z x.1)]
/-- a word's letters -/
theorem m_let85 (T : tBy B L p h0) (hl : h0.1 77 7 = Int32.ofNat L) : ∀ (m k n cnt Y : Nat) (h : MH), k + m = L → cnt ≤ k → tM h0 h k so pl nu (Int64.ofNat Y) →
    ∃ h', fX13_goesOn_85 (n + m + 1) h 77 (Int32.ofNat cnt) = some h' ∧ (8 < cnt + (rn B 1 m k - k) → ∃ w', tM h0 h' (rn B 1 m k) so pl nu w') ∧ (¬ 8 < cnt + (rn B 1 m k - k) → tM h0 h' (rn B 1 m k) 2 pl nu (Int64.ofNat (pkN B (rn B 1 m k - k) k Y))) := by
  have hL := T.2.1
  have hb := T.2.2.1
  have stop : ∀ (k cnt Y : Nat) (h : MH) (K : MH → Nat → Int32 → Option MH), k ≤ 900 → cnt ≤ 900 → ¬ (k < L ∧ cls (B k) = 1) → tM h0 h k so pl nu (Int64.ofNat Y) → ∃ h', bX13_goesOn_85 K h 77 (Int32.ofNat cnt) = some h' ∧ (8 < cnt → ∃ w', tM h0 h' k so pl nu w') ∧ (¬ 8 < cnt → tM h0 h' k 2 pl nu (Int64.ofNat Y)) := fun k cnt Y h K hk hc z E => by
    have s77 := tM.s77 T E
    have g8 : gI h 77 13 8 = some (Int32.ofNat k) := by rw [gI_at s77, E.2.2.2.1]
    have ba := m_byteAt T hl E k hk
    have c8 : ((8 : Int32) < Int32.ofNat cnt) ↔ 8 < cnt := k_lt (i := 8) (by decide) (by omega)
    simp only [bX13_goesOn_85, g8, ck_at s77, ba, m_let h hb k, if_neg z, if_true, bd_some, bd2_some, c8, pI_at s77]
    by_cases z8 : 8 < cnt
    · rw [if_pos z8]; exact ⟨h, rfl, fun _ => ⟨_, E⟩, fun x => absurd z8 x⟩
    · rw [if_neg z8]; exact ⟨_, rfl, fun x => absurd x z8, fun _ => E.x9 2⟩
  intro m
  induction m with
  | zero =>
    intro k n cnt Y h e hc E
    have e0 : rn B 1 0 k = k := rfl
    rw [e0, Nat.sub_self, Nat.add_zero]
    exact stop k cnt Y h _ (by omega) (by omega) (by omega) E
  | succ m ih =>
    intro k n cnt Y h e hc E
    by_cases z : cls (B k) = 1
    · have er : rn B 1 (m + 1) k = rn B 1 m (k + 1) := by show (if cls (B k) = 1 then _ else _) = _; rw [if_pos z]
      have hle := (rn_le (B := B) (s := 1) m (k + 1)).1
      rw [er]
      have s77 := tM.s77 T E
      have g8 : gI h 77 13 8 = some (Int32.ofNat k) := by rw [gI_at s77, E.2.2.2.1]
      have ba := m_byteAt T hl E k (by omega)
      have zz : k < L ∧ cls (B k) = 1 := ⟨by omega, z⟩
      have c8 : ((8 : Int32) ≤ Int32.ofNat cnt) ↔ 8 ≤ cnt := k_le (i := 8) (by decide) (by omega)
      have hub : ub B L k = B k &&& 255 := by unfold ub; rw [if_pos zz.1]
      show ∃ h', bX13_goesOn_85 (fX13_goesOn_85 (n + m + 1)) h 77 (Int32.ofNat cnt) = some h' ∧ _
      by_cases z8 : 8 ≤ cnt
      · obtain ⟨h', e', a1, a2⟩ := ih (k + 1) n (cnt + 1) Y _ (by omega) (by omega) (E.x8 (k + 1))
        refine ⟨h', ?_, fun x => a1 (by omega), fun x => by omega⟩
        simp only [bX13_goesOn_85, bX13_goesOn_132, g8, ck_at s77, ba, m_let h hb k, if_pos zz, i10, if_false, bd_some, bd2_some, c8, if_pos z8, pI_at s77, k_succ]
        exact e'
      · obtain ⟨c1, c2, c3, c4⟩ := cls_lt (hb k) z
        have E1 := E.x14 (Int64.ofNat (32 * Y + ltN (B k)))
        have s1 := tM.s77 T E1
        have g8' : gI (sJ h 77 14 (Int64.ofNat (32 * Y + ltN (B k)))) 77 13 8 = some (Int32.ofNat k) := by rw [gI_at s1, E1.2.2.2.1]
        have g14 : gJ h 77 13 14 = some (Int64.ofNat Y) := by rw [gJ_at s77, E.2.2.2.2.2.2.2]
        have e32 : (32 : Int64) * Int64.ofNat Y + Int64.ofNat (ltN (B k)) = Int64.ofNat (32 * Y + ltN (B k)) := by rw [show (32 : Int64) = Int64.ofNat 32 from rfl, ← Int64.ofNat_mul, ← Int64.ofNat_add]
        obtain ⟨h', e', a1, a2⟩ := ih (k + 1) n (cnt + 1) (32 * Y + ltN (B k)) _ (by omega) (by omega) (E1.x8 (k + 1))
        refine ⟨h', ?_, fun x => a1 (by omega), fun x => ?_⟩
        · simp only [bX13_goesOn_85, bX13_goesOn_132, g8, g14, ck_at s77, ba, m_let h hb k, if_pos zz, i10, if_false, bd_some, bd2_some, c8, if_neg z8]
          simp only [hub, c2, k_i2l (show ltN (B k) < 2147483648 by omega), e32, pJ_at s77, g8', pI_at s1, bd_some, bd2_some, ck_at s1, k_succ]
          exact e'
        · have := a2 (by omega)
          rw [show rn B 1 m (k + 1) - k = (rn B 1 m (k + 1) - (k + 1)) + 1 by omega]
          exact this
    · have er : rn B 1 (m + 1) k = k := by show (if cls (B k) = 1 then _ else _) = _; rw [if_neg z]
      rw [er, Nat.sub_self, Nat.add_zero]
      exact stop k cnt Y h _ (by omega) (by omega) (fun x => z x.2) E
/-- a whole's digits -/
theorem m_dig174 (T : tBy B L p h0) (hl : h0.1 77 7 = Int32.ofNat L) : ∀ (m k n cnt Y : Nat) (h : MH), k + m = L → cnt ≤ k → tM h0 h k so pl (Int32.ofNat Y) w →
    ∃ h', fX13_goesOn_174 (n + m + 1) h 77 (Int32.ofNat cnt) = some h' ∧ (3 < cnt + (rn B 2 m k - k) → ∃ w', tM h0 h' (rn B 2 m k) so pl w' w) ∧ (¬ 3 < cnt + (rn B 2 m k - k) → tM h0 h' (rn B 2 m k) 3 pl (Int32.ofNat (vlN B (rn B 2 m k - k) k Y)) w) := by
  have hL := T.2.1
  have hb := T.2.2.1
  have stop : ∀ (k cnt Y : Nat) (h : MH) (K : MH → Nat → Int32 → Option MH), k ≤ 900 → cnt ≤ 900 → ¬ (k < L ∧ cls (B k) = 2) → tM h0 h k so pl (Int32.ofNat Y) w → ∃ h', bX13_goesOn_174 K h 77 (Int32.ofNat cnt) = some h' ∧ (3 < cnt → ∃ w', tM h0 h' k so pl w' w) ∧ (¬ 3 < cnt → tM h0 h' k 3 pl (Int32.ofNat Y) w) := fun k cnt Y h K hk hc z E => by
    have s77 := tM.s77 T E
    have g8 : gI h 77 13 8 = some (Int32.ofNat k) := by rw [gI_at s77, E.2.2.2.1]
    have ba := m_byteAt T hl E k hk
    have c8 : ((3 : Int32) < Int32.ofNat cnt) ↔ 3 < cnt := k_lt (i := 3) (by decide) (by omega)
    simp only [bX13_goesOn_174, g8, ck_at s77, ba, m_dig h hb k, if_neg z, if_true, bd_some, bd2_some, c8, pI_at s77]
    by_cases z8 : 3 < cnt
    · rw [if_pos z8]; exact ⟨h, rfl, fun _ => ⟨_, E⟩, fun x => absurd z8 x⟩
    · rw [if_neg z8]; exact ⟨_, rfl, fun x => absurd x z8, fun _ => E.x9 3⟩
  intro m
  induction m with
  | zero =>
    intro k n cnt Y h e hc E
    have e0 : rn B 2 0 k = k := rfl
    rw [e0, Nat.sub_self, Nat.add_zero]
    exact stop k cnt Y h _ (by omega) (by omega) (by omega) E
  | succ m ih =>
    intro k n cnt Y h e hc E
    by_cases z : cls (B k) = 2
    · have er : rn B 2 (m + 1) k = rn B 2 m (k + 1) := by show (if cls (B k) = 2 then _ else _) = _; rw [if_pos z]
      have hle := (rn_le (B := B) (s := 2) m (k + 1)).1
      rw [er]
      have s77 := tM.s77 T E
      have g8 : gI h 77 13 8 = some (Int32.ofNat k) := by rw [gI_at s77, E.2.2.2.1]
      have ba := m_byteAt T hl E k (by omega)
      have zz : k < L ∧ cls (B k) = 2 := ⟨by omega, z⟩
      have c8 : ((3 : Int32) ≤ Int32.ofNat cnt) ↔ 3 ≤ cnt := k_le (i := 3) (by decide) (by omega)
      have hub : ub B L k = B k &&& 255 := by unfold ub; rw [if_pos zz.1]
      show ∃ h', bX13_goesOn_174 (fX13_goesOn_174 (n + m + 1)) h 77 (Int32.ofNat cnt) = some h' ∧ _
      by_cases z8 : 3 ≤ cnt
      · obtain ⟨h', e', a1, a2⟩ := ih (k + 1) n (cnt + 1) Y _ (by omega) (by omega) (E.x8 (k + 1))
        refine ⟨h', ?_, fun x => a1 (by omega), fun x => by omega⟩
        simp only [bX13_goesOn_174, bX13_goesOn_216, g8, ck_at s77, ba, m_dig h hb k, if_pos zz, i10, if_false, bd_some, bd2_some, c8, if_pos z8, pI_at s77, k_succ]
        exact e'
      · obtain ⟨c1, c2, c3⟩ := cls_dg (hb k) z
        have E1 := E.x11 (Int32.ofNat (10 * Y + dgN (B k)))
        have s1 := tM.s77 T E1
        have g8' : gI (sI h 77 11 (Int32.ofNat (10 * Y + dgN (B k)))) 77 13 8 = some (Int32.ofNat k) := by rw [gI_at s1, E1.2.2.2.1]
        have g11 : gI h 77 13 11 = some (Int32.ofNat Y) := by rw [gI_at s77, E.2.2.2.2.2.2.1]
        have e10 : (10 : Int32) * Int32.ofNat Y + Int32.ofNat (dgN (B k) + 48) - 48 = Int32.ofNat (10 * Y + dgN (B k)) := by
          rw [show (10 : Int32) = Int32.ofNat 10 from rfl, k_mul, k_add, show (48 : Int32) = Int32.ofNat 48 from rfl, k_sub (by omega)]
          congr 1
        obtain ⟨h', e', a1, a2⟩ := ih (k + 1) n (cnt + 1) (10 * Y + dgN (B k)) _ (by omega) (by omega) (E1.x8 (k + 1))
        refine ⟨h', ?_, fun x => a1 (by omega), fun x => ?_⟩
        · simp only [bX13_goesOn_174, bX13_goesOn_216, g8, g11, ck_at s77, ba, m_dig h hb k, if_pos zz, i10, if_false, bd_some, bd2_some, c8, if_neg z8]
          simp only [hub, c2, e10, pI_at s77, g8', pI_at s1, bd_some, bd2_some, ck_at s1, k_succ]
          exact e'
        · have := a2 (by omega)
          rw [show rn B 2 m (k + 1) - k = (rn B 2 m (k + 1) - (k + 1)) + 1 by omega]
          exact this
    · have er : rn B 2 (m + 1) k = k := by show (if cls (B k) = 2 then _ else _) = _; rw [if_neg z]
      rw [er, Nat.sub_self, Nat.add_zero]
      exact stop k cnt Y h _ (by omega) (by omega) (fun x => z x.2) E
theorem m_go10 (T : tBy B L p h0) (hl : h0.1 77 7 = Int32.ofNat L) : ∀ (m k n : Nat) (h : MH), k + m = L → tM h0 h k so pl nu w → ∃ h', fX13_goesOn_10 (n + m + 1) h 77 = bX13_goesOn_10 (fun _ _ => none) h' 77 ∧ tM h0 h' (sk B m k) so pl nu w := by
  have hL := T.2.1
  have hb := T.2.2.1
  intro m
  induction m with
  | zero =>
    intro k n h e E
    have s77 := tM.s77 T E
    have g8 : gI h 77 13 8 = some (Int32.ofNat k) := by rw [gI_at s77, E.2.2.2.1]
    have ba := m_byteAt T hl E k (by omega)
    have hub : ub B L k = -1 := by unfold ub; rw [if_neg (by omega)]
    refine ⟨h, ?_, E⟩
    show bX13_goesOn_10 _ h 77 = _
    simp only [bX13_goesOn_10, g8, ck_at s77, ba, hub, bd_some, bd2_some, if_neg (show ¬ (-1 : Int32) = 32 by decide)]
  | succ m ih =>
    intro k n h e E
    have s77 := tM.s77 T E
    have g8 : gI h 77 13 8 = some (Int32.ofNat k) := by rw [gI_at s77, E.2.2.2.1]
    have ba := m_byteAt T hl E k (by omega)
    have hub : ub B L k = B k &&& 255 := by unfold ub; rw [if_pos (by omega)]
    have c1 := (cls_ub (hb k)).1
    unfold sk
    by_cases z : B k = 32
    · rw [if_pos z]
      obtain ⟨h', e', E'⟩ := ih (k + 1) n _ (by omega) (E.x8 (k + 1))
      refine ⟨h', ?_, E'⟩
      show bX13_goesOn_10 _ h 77 = _
      rw [← e']
      simp only [bX13_goesOn_10, g8, ck_at s77, ba, hub, bd_some, bd2_some, if_pos (c1.mpr z), pI_at s77, k_succ]
      rfl
    · rw [if_neg z]
      refine ⟨h, ?_, E⟩
      show bX13_goesOn_10 _ h 77 = _
      simp only [bX13_goesOn_10, g8, ck_at s77, ba, hub, bd_some, bd2_some, if_neg (fun x => z (c1.mp x))]
def msI (s : Nat) : Int32 := if s = 0 then 1 else if s = 1 then 2 else if s = 2 then 3 else if s = 3 then 4 else if s = 4 then 5 else 0
/-- the model's token at q -/
def tkM (B : Nat → Int32) (L q : Nat) (h0 h : MH) : Prop := h.2.2 = h0.2.2 ∧ (∀ b k, ¬ (b = 77 ∧ (k = 8 ∨ k = 9 ∨ k = 10 ∨ k = 11)) → h.1 b k = h0.1 b k) ∧ (∀ b k, ¬ (b = 77 ∧ k = 14) → h.2.1 b k = h0.2.1 b k) ∧ (tSo B L q ≠ 5 → h.1 77 8 = Int32.ofNat (tTo B L q)) ∧ h.1 77 9 = msI (tSo B L q) ∧ h.1 77 10 = Int32.ofNat (tFr B L q) ∧ (tSo B L q = 2 → h.1 77 11 = Int32.ofNat (tVl B L q)) ∧ (tSo B L q = 1 → h.2.1 77 14 = Int64.ofNat (tWd B L q))
theorem tM.mk (E : tM h0 h sp so pl nu w) (h1 : tSo B L q ≠ 5 → sp = tTo B L q) (h2 : so = msI (tSo B L q)) (h3 : pl = Int32.ofNat (tFr B L q)) (h4 : tSo B L q = 2 → nu = Int32.ofNat (tVl B L q)) (h5 : tSo B L q = 1 → w = Int64.ofNat (tWd B L q)) : tkM B L q h0 h := by
  obtain ⟨a1, a2, a3, a4, a5, a6, a7, a8⟩ := E
  exact ⟨a1, a2, a3, fun z => by rw [a4, h1 z], by rw [a5, h2], by rw [a6, h3], fun z => by rw [a7, h4 z], fun z => by rw [a8, h5 z]⟩
theorem m_goesOn (T : tBy B L p h0) (hl : h0.1 77 7 = Int32.ofNat L) (hq : q ≤ L) (E : tM h0 h q so pl nu w) (hso : ¬ so = 6) : ∃ h', fX13_goesOn h 77 = some h' ∧ tkM B L q h0 h' := by
  have hL := T.2.1
  have hb := T.2.2.1
  have s77 := tM.s77 T E
  have F1 := tFr_le (B := B) hq
  obtain ⟨n, hn⟩ := FU_at (L - q) (by omega)
  obtain ⟨h1, e1, E1⟩ := m_go10 T hl (L - q) q n h (by omega) E
  have E1' : tM h0 h1 (tFr B L q) so pl nu w := E1
  have g9 : gI h 77 13 9 = some so := by rw [gI_at s77, E.2.2.2.2.1]
  have e0 : fX13_goesOn h 77 = bX13_goesOn_10 (fun _ _ => none) h1 77 := by
    simp only [fX13_goesOn, g9, bd_some, if_neg hso]
    rw [hn]; exact e1
  rw [e0]
  have s1 := tM.s77 T E1'
  have g8 : gI h1 77 13 8 = some (Int32.ofNat (tFr B L q)) := by rw [gI_at s1, E1'.2.2.2.1]
  have ba1 := m_byteAt T hl E1' (tFr B L q) (by omega)
  have E2 := E1'.x10 (Int32.ofNat (tFr B L q))
  have s2 := tM.s77 T E2
  have E3 := E2.x9 0
  have s3 := tM.s77 T E3
  have g83 : gI (sI (sI h1 77 10 (Int32.ofNat (tFr B L q))) 77 9 0) 77 13 8 = some (Int32.ofNat (tFr B L q)) := by rw [gI_at s3, E3.2.2.2.1]
  have ba3 := m_byteAt T hl E3 (tFr B L q) (by omega)
  have n32 : ¬ ub B L (tFr B L q) = 32 := by
    unfold ub
    by_cases z : tFr B L q < L
    · rw [if_pos z]
      intro w
      have nb := sk_nb (B := B) (L - q) q (by show tFr B L q < _; omega)
      exact nb ((cls_ub (hb (tFr B L q))).1.mp w)
    · rw [if_neg z]; decide
  simp only [bX13_goesOn_10, g8, ck_at s1, ba1, if_neg n32, pI_at s1, pI_at s2, g83, ck_at s3, ba3, m_let _ hb, m_dig _ hb, bd_some, bd2_some, pI_at s3, pJ_at s3]
  by_cases z : tFr B L q < L
  · have hcl : tCl B L q = cls (B (tFr B L q)) := by unfold tCl; rw [if_pos z]
    obtain ⟨c1, c2, c3, c4, c5, c6, c7, c8⟩ := cls_ub (hb (tFr B L q))
    have hub : ub B L (tFr B L q) = B (tFr B L q) &&& 255 := by unfold ub; rw [if_pos z]
    rw [hub, if_neg c2]
    rw [← hcl] at c3 c4 c5 c6 c7 c8
    by_cases z1 : tCl B L q = 1
    · have y1 : tFr B L q < L ∧ cls (B (tFr B L q)) = 1 := ⟨z, hcl ▸ z1⟩
      simp only [if_pos y1, i10, if_false]
      have et : tTo B L q = rn B 1 (L - tFr B L q) (tFr B L q) := by
        unfold tTo
        rw [if_neg (by omega), if_pos (Or.inl z1), z1, show L - tFr B L q = (L - (tFr B L q + 1)) + 1 by omega]
        show _ = (if cls (B (tFr B L q)) = 1 then _ else _)
        rw [if_pos y1.2]
      obtain ⟨n2, hn2⟩ := FU_at (L - tFr B L q) (by omega)
      obtain ⟨h', e', a1, a2⟩ := m_let85 T hl (L - tFr B L q) (tFr B L q) n2 0 0 _ (by omega) (Nat.zero_le _) (E3.x14 (Int64.ofNat 0))
      rw [← et, Nat.zero_add] at a1 a2
      refine ⟨h', by rw [hn2]; exact e', ?_⟩
      by_cases z8 : 8 < tTo B L q - tFr B L q
      · obtain ⟨w', E'⟩ := a1 z8
        have hs : tSo B L q = 5 := by unfold tSo; rw [if_pos ⟨z1, z8⟩]
        exact E'.mk (fun x => absurd hs x) (by rw [hs]; rfl) rfl (fun x => by omega) (fun x => by omega)
      · have E' := a2 z8
        have hs : tSo B L q = 1 := by unfold tSo; rw [if_neg (fun x => z8 x.2), if_neg (fun x => by omega)]; exact z1
        exact E'.mk (fun _ => rfl) (by rw [hs]; rfl) rfl (fun x => by omega) (fun _ => by unfold tWd; rw [if_pos hs])
    · have y1 : ¬ (tFr B L q < L ∧ cls (B (tFr B L q)) = 1) := fun x => z1 (hcl ▸ x.2)
      simp only [if_neg y1, if_true]
      by_cases z2 : tCl B L q = 2
      · have y2 : tFr B L q < L ∧ cls (B (tFr B L q)) = 2 := ⟨z, hcl ▸ z2⟩
        simp only [if_pos y2, i10, if_false]
        have et : tTo B L q = rn B 2 (L - tFr B L q) (tFr B L q) := by
          unfold tTo
          rw [if_neg (by omega), if_pos (Or.inr z2), z2, show L - tFr B L q = (L - (tFr B L q + 1)) + 1 by omega]
          show _ = (if cls (B (tFr B L q)) = 2 then _ else _)
          rw [if_pos y2.2]
        obtain ⟨n2, hn2⟩ := FU_at (L - tFr B L q) (by omega)
        obtain ⟨h', e', a1, a2⟩ := m_dig174 T hl (L - tFr B L q) (tFr B L q) n2 0 0 _ (by omega) (Nat.zero_le _) (E3.x11 (Int32.ofNat 0))
        rw [← et, Nat.zero_add] at a1 a2
        refine ⟨h', by rw [hn2]; exact e', ?_⟩
        by_cases z8 : 3 < tTo B L q - tFr B L q
        · obtain ⟨w', E'⟩ := a1 z8
          have hs : tSo B L q = 5 := by unfold tSo; rw [if_neg (fun x => z1 x.1), if_pos ⟨z2, z8⟩]
          exact E'.mk (fun x => absurd hs x) (by rw [hs]; rfl) rfl (fun x => by omega) (fun x => by omega)
        · have E' := a2 z8
          have hs : tSo B L q = 2 := by unfold tSo; rw [if_neg (fun x => z1 x.1), if_neg (fun x => z8 x.2)]; exact z2
          exact E'.mk (fun _ => rfl) (by rw [hs]; rfl) rfl (fun _ => rfl) (fun x => by omega)
      · have y2 : ¬ (tFr B L q < L ∧ cls (B (tFr B L q)) = 2) := fun x => z2 (hcl ▸ x.2)
        simp only [if_neg y2, if_true]
        have hs : tSo B L q = tCl B L q := by unfold tSo; rw [if_neg (fun x => z1 x.1), if_neg (fun x => z2 x.1)]
        have et : tTo B L q = tFr B L q + 1 := by unfold tTo; rw [if_neg (by omega), if_neg (by omega)]
        by_cases z3 : tCl B L q = 3
        · have E4 := E3.x9 4
          have s4 := tM.s77 T E4
          have g84 : gI (sI (sI (sI h1 77 10 (Int32.ofNat (tFr B L q))) 77 9 0) 77 9 4) 77 13 8 = some (Int32.ofNat (tFr B L q)) := by rw [gI_at s4, E4.2.2.2.1]
          rw [if_pos (c5.mp z3)]
          simp only [bX13_goesOn_257, bX13_goesOn_269, if_pos (c5.mp z3), pI_at s3, g84, pI_at s4, bd_some, k_succ]
          exact ⟨_, rfl, (E4.x8 (tFr B L q + 1)).mk (fun _ => et.symm) (by rw [hs, z3]; rfl) rfl (fun x => by omega) (fun x => by omega)⟩
        · have n59 : ¬ (B (tFr B L q) &&& 255) = 59 := fun x => z3 (c5.mpr x)
          rw [if_neg n59]
          by_cases z4 : tCl B L q = 4
          · have E4 := E3.x9 5
            have s4 := tM.s77 T E4
            have g84 : gI (sI (sI (sI h1 77 10 (Int32.ofNat (tFr B L q))) 77 9 0) 77 9 5) 77 13 8 = some (Int32.ofNat (tFr B L q)) := by rw [gI_at s4, E4.2.2.2.1]
            rw [if_pos (c6.mp z4)]
            simp only [bX13_goesOn_257, bX13_goesOn_269, if_neg n59, pI_at s3, g84, pI_at s4, bd_some, k_succ]
            exact ⟨_, rfl, (E4.x8 (tFr B L q + 1)).mk (fun _ => et.symm) (by rw [hs, z4]; rfl) rfl (fun x => by omega) (fun x => by omega)⟩
          · rw [if_neg (fun x => z4 (c6.mpr x))]
            have z5 : tCl B L q = 5 := by omega
            exact ⟨_, rfl, E3.mk (fun x => absurd (hs.trans z5) x) (by rw [hs, z5]; rfl) rfl (fun x => by omega) (fun x => by omega)⟩
  · have hub : ub B L (tFr B L q) = -1 := by unfold ub; rw [if_neg z]
    rw [hub, if_pos rfl]
    have hcl : tCl B L q = 0 := by unfold tCl; rw [if_neg z]
    have hs : tSo B L q = 0 := by unfold tSo; rw [if_neg (by omega), if_neg (by omega)]; exact hcl
    have et : tTo B L q = tFr B L q := by unfold tTo; rw [if_pos hcl]
    exact ⟨_, rfl, (E3.x9 1).mk (fun _ => et.symm) (by rw [hs]; rfl) rfl (fun x => by omega) (fun x => by omega)⟩
end TKM
