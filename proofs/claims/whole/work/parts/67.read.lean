/-! ===== READING, over plain numbers ===== -/
abbrev NT : Type := List (Nat × Nat × Nat)
abbrev DD : Type := CT × PT × (Nat → Int32) × NT
abbrev RS (α : Type) : Type := Sum (Nat × Nat) α
def nT4 : List Nat := [509813861, 427595, 16826546, 20579760, 611717, 263620, 755156, 17376724, 14836]
def nT5 : List Nat := [2410643, 24627848, 9675, 176741, 14138521]
def nT6 : List Nat := [463, 25779, 6333908]
def nT7 : List Nat := [674915196180, 370116, 20584014, 3751539]
/-- a word's place in a list -/
def ix : List Nat → Nat → Option Nat
  | [], _ => none
  | x :: l, w => if x = w then some 0 else match ix l w with
    | none => none
    | some i => some (i + 1)
/-- a name told -/
def fd : NT → Nat → Option (Nat × Nat × Nat)
  | [], _ => none
  | e :: l, w => if e.1 = w then some e else fd l w
def lk (l : NT) (w s : Nat) : Option Nat := match fd l w with
  | none => none
  | some e => if e.2.1 = s then some e.2.2 else none
def upN {α : Type} (f : Nat → α) (i : Nat) (v : α) : Nat → α := fun k => if k = i then v else f k
def upP (P : PT) (t i : Nat) (v : Int32) : PT := fun t' i' => if t' = t ∧ i' = i then v else P t' i'
section PRS
variable (B : Nat → Int32) (L : Nat)
def pFl (w q : Nat) : RS Nat := if tWd B L q = w then .inr (tTo B L q) else .inl (1, tFr B L q)
def pWh (mx q : Nat) : RS (Nat × Nat) := if tSo B L q = 2 then (if tVl B L q ≤ mx then .inr (tVl B L q, tTo B L q) else .inl (4, tFr B L q)) else .inl (1, tFr B L q)
def pCh (l : List Nat) (q : Nat) : RS (Nat × Nat) := match ix l (tWd B L q) with
  | some i => .inr (i, tTo B L q)
  | none => .inl (1, tFr B L q)
def pNew (l : NT) (q : Nat) : RS (Nat × Nat) := if tSo B L q = 1 ∧ ix nT4 (tWd B L q) = none then (match fd l (tWd B L q) with
    | some _ => .inl (3, tFr B L q)
    | none => .inr (tWd B L q, tTo B L q)) else .inl (1, tFr B L q)
/-- the number of a name told; the token stays -/
def pOld (l : NT) (s q : Nat) : RS Nat := if tSo B L q = 1 ∧ ix nT4 (tWd B L q) = none then (match lk l (tWd B L q) s with
    | some j => .inr j
    | none => .inl (2, tFr B L q)) else .inl (1, tFr B L q)
def pMk (l : NT) : Nat → Nat → Nat → RS (Nat × Nat)
  | 0, b, q => .inr (b, q)
  | m + 1, b, q => if tSo B L q = 4 then (match pOld B L l 1 (tTo B L q) with
    | .inl e => .inl e
    | .inr j => if b.testBit j = true then .inl (3, tFr B L (tTo B L q)) else pMk l m (b ||| 1 <<< j) (tTo B L (tTo B L q))) else .inr (b, q)
end PRS
/-! the class's state while it reads -/
def frC (p : Nat) (h0 h : MH) : Prop := h.2.2 = h0.2.2 ∧ (∀ b k, ¬ ((b = 1 ∧ 2 ≤ k ∧ k ≤ 5) ∨ (b = 3 ∧ 10 ≤ k ∧ k ≤ 13) ∨ b = 9 ∨ b = 11 ∨ b = 12 ∨ (42 - p ≤ b ∧ b ≤ 54 - p)) → h.1 b k = h0.1 b k) ∧ ∀ b k, ¬ ((b = 1 ∧ k = 6) ∨ b = 10) → h.2.1 b k = h0.2.1 b k
def tkH (B : Nat → Int32) (L q : Nat) (h : MH) : Prop := q ≤ L ∧ h.1 1 2 = Int32.ofNat L ∧ h.1 1 4 = Int32.ofNat (tFr B L q) ∧ h.1 1 3 = Int32.ofNat (tSo B L q) ∧ h.1 1 5 = Int32.ofNat (tTo B L q) ∧ h.2.1 1 6 = Int64.ofNat (tWd B L q)
def dtC (p : Nat) (X : Nat → Nat → Prop) (D : DD) (h : MH) : Prop := h.1 3 10 = Int32.ofNat D.2.2.2.length ∧ h.1 3 11 = Int32.ofNat (D.1 8) ∧ h.1 3 12 = 0 ∧
  (∀ (i : Nat) (e : Nat × Nat × Nat), D.2.2.2[i]? = some e → h.2.1 10 i = Int64.ofNat e.1 ∧ h.1 11 i = Int32.ofNat e.2.1 ∧ h.1 12 i = Int32.ofNat e.2.2) ∧
  (∀ t, t < 8 → h.1 (42 - p) (12 + t) = Int32.ofNat (D.1 t)) ∧ (∀ t i, t < 12 → X t i → h.1 (43 - p + t) i = D.2.1 t i) ∧ ∀ i, i < 31 → h.1 9 i = D.2.2.1 i
def KC (B : Nat → Int32) (L p : Nat) (h0 : MH) (X : Nat → Nat → Prop) (D : DD) (q : Nat) (h : MH) : Prop := frC p h0 h ∧ tkH B L q h ∧ dtC p X D h
def KF (p : Nat) (h0 : MH) (e : Nat × Nat) (h : MH) : Prop := frC p h0 h ∧ h.1 3 12 = Int32.ofNat e.1 ∧ h.1 3 13 = Int32.ofNat e.2 ∧ 1 ≤ e.1 ∧ e.1 ≤ 6
/-- names told are in order -/
def WD (D : DD) : Prop := D.2.2.2.length ≤ 17 ∧ ∀ (i : Nat) (e : Nat × Nat × Nat), D.2.2.2[i]? = some e → e.1 < 1099511627776 ∧ e.2.1 < 6 ∧ e.2.2 < 5
section KCS
variable {p : Nat} {h h0 h' : MH} {B : Nat → Int32} {L q : Nat} {X : Nat → Nat → Prop} {D : DD}
theorem lgE (x y : Int64) : (lg_cmp x y = 0) ↔ x = y := by
  unfold lg_cmp
  by_cases h1 : x > y
  · rw [if_pos h1]
    constructor
    · intro q; exact absurd q (by decide)
    · rintro rfl; exact absurd h1 (Int64.lt_irrefl)
  · rw [if_neg h1]
    by_cases h2 : x = y
    · rw [if_pos h2]; exact ⟨fun _ => h2, fun _ => rfl⟩
    · rw [if_neg h2]
      exact ⟨fun q => absurd q (by decide), fun q => absurd q h2⟩
theorem j_eqN {a b : Nat} (ha : a < 9223372036854775808) (hb : b < 9223372036854775808) : (Int64.ofNat a = Int64.ofNat b) ↔ a = b := by
  constructor
  · intro h
    have := congrArg Int64.toInt h
    rw [j_toInt ha, j_toInt hb] at this
    omega
  · rintro rfl; rfl
theorem tWd_lt (hb : ∀ k, bR (B k)) (hq : q ≤ L) : tWd B L q < 1099511627776 := by
  unfold tWd
  by_cases z : tSo B L q = 1
  · rw [if_pos z]
    have hc : tCl B L q = 1 ∧ tTo B L q - tFr B L q ≤ 8 := by
      unfold tSo at z
      split at z
      · omega
      · split at z
        · omega
        · omega
    have hl : ∀ j, tFr B L q ≤ j → j < tFr B L q + (tTo B L q - tFr B L q) → ltN (B j) < 32 := fun j h1 h2 => (cls_lt (hb j) (tTo_in hb (Or.inl rfl) hc.1 h1 (by omega))).2.2.1
    have := pkN_lt (B := B) (tTo B L q - tFr B L q) (tFr B L q) 0 0 hl (by decide)
    have h2 : 2 ^ (0 + 5 * (tTo B L q - tFr B L q)) ≤ 2 ^ 40 := Nat.pow_le_pow_right (by decide) (by omega)
    have h3 : (2 : Nat) ^ 40 = 1099511627776 := by decide
    omega
  · rw [if_neg z]; decide
theorem frC.rf0 : frC p h h := ⟨rfl, fun _ _ _ => rfl, fun _ _ _ => rfl⟩
theorem frC.sI (F : frC p h0 h) {a k : Nat} {x : Int32} (ha : (a = 1 ∧ 2 ≤ k ∧ k ≤ 5) ∨ (a = 3 ∧ 10 ≤ k ∧ k ≤ 13) ∨ a = 9 ∨ a = 11 ∨ a = 12 ∨ (42 - p ≤ a ∧ a ≤ 54 - p)) : frC p h0 (sI h a k x) :=
  ⟨F.1, fun b j hn => by rw [sI_ne (fun z => hn (by rw [z.1, z.2]; exact ha))]; exact F.2.1 b j hn, F.2.2⟩
theorem KC.cs (T : tBy B L p h0) (F : frC p h0 h) : CS p h.2.2 := by rw [F.1]; exact T.1
theorem KC.ty (T : tBy B L p h0) (F : frC p h0 h) : tBy B L p h := by
  have hp := T.1.1
  refine ⟨KC.cs T F, T.2.1, T.2.2.1, fun k hk => ?_, fun k hk => ?_⟩
  · rw [F.2.1 2 k (by omega)]; exact T.2.2.2.1 k hk
  · rw [F.2.1 78 k (by omega)]; exact T.2.2.2.2 k hk
theorem c_adv (T : tBy B L p h0) (K : KC B L p h0 X D q h) : ∃ h', fX10_advance h 1 = some h' ∧ KC B L p h0 X D (tTo B L q) h' := by
  obtain ⟨F, ⟨k1, k2, k3, k4, k5, k6⟩, k7⟩ := K
  have hp := T.1.1
  obtain ⟨o1, o2, o3⟩ := tTo_le (B := B) k1 T.2.2.1
  obtain ⟨h', e, t1, t2, t3, t4, t5, t6, t7⟩ := c_advance (q := tTo B L q) (KC.ty T F) k2 o2 (w := h.2.1 1 6) (f := tFr B L q) (s := tSo B L q) ⟨rfl, fun _ _ _ => rfl, fun _ _ _ => rfl, k3, k4, k5, rfl⟩
  refine ⟨h', e, ⟨by rw [t1]; exact F.1, fun b k hn => by rw [t2 b k (by omega)]; exact F.2.1 b k hn, fun b k hn => by rw [t3 b k (by omega)]; exact F.2.2 b k hn⟩, ⟨o2, by rw [t2 1 2 (by omega)]; exact k2, t4, t5, t6, t7⟩, ?_⟩
  obtain ⟨d1, d2, d3, d4, d5, d6, d7⟩ := k7
  refine ⟨by rw [t2 3 10 (by omega)]; exact d1, by rw [t2 3 11 (by omega)]; exact d2, by rw [t2 3 12 (by omega)]; exact d3, fun i e hi => ?_, fun t ht => ?_, fun t i ht hx => ?_, fun i hi => ?_⟩
  · rw [t3 10 i (by omega), t2 11 i (by omega), t2 12 i (by omega)]; exact d4 i e hi
  · rw [t2 (42 - p) (12 + t) (by omega)]; exact d5 t ht
  · rw [t2 (43 - p + t) i (by omega)]; exact d6 t i ht hx
  · rw [t2 9 i (by omega)]; exact d7 i hi
/-- a fault is told -/
theorem c_fail {pl : Nat} (T : tBy B L p h0) (F : frC p h0 h) (hf : h.1 1 4 = Int32.ofNat pl) {n : Nat} (hn : 1 ≤ n ∧ n ≤ 6) : ∃ h', fX8_fail h 3 (Int32.ofNat n) = some (0, h') ∧ KF p h0 (n, pl) h' := by
  have S := KC.cs T F
  have s3 := S.sh 3 (w := (8, 0)) rfl
  have s3' : (sI h 3 12 (Int32.ofNat n)).2.2.2[3]? = some (8, 0) := s3
  have g0 : gR (sI h 3 12 (Int32.ofNat n)) 3 8 0 = some 1 := gR_at s3' (S.rf 2 rfl rfl)
  have g4 : gI (sI h 3 12 (Int32.ofNat n)) 1 10 4 = some (Int32.ofNat pl) := by
    rw [gI_at (show (sI h 3 12 (Int32.ofNat n)).2.2.2[1]? = some (10, 0) from S.sh 1 rfl), sI_ne (by omega), hf]
  refine ⟨sI (sI h 3 12 (Int32.ofNat n)) 3 13 (Int32.ofNat pl), ?_, (F.sI (by omega)).sI (by omega), ?_, sI_eq, hn.1, hn.2⟩
  · simp only [fX8_fail, pI_at s3, bd_some, g0, g4, pI_at s3']
  · rw [sI_ne (by omega)]; exact sI_eq
/-! which of these words -/
def oN (o : Option Nat) : Int32 := match o with
  | none => -1
  | some k => Int32.ofNat k
theorem ix_lt : ∀ (l : List Nat) (w i : Nat), ix l w = some i → i < l.length ∧ l[i]? = some w
  | [], w, i, e => by cases e
  | x :: l, w, i, e => by
    unfold ix at e
    by_cases z : x = w
    · rw [if_pos z] at e; cases e; rw [z]; exact ⟨Nat.zero_lt_succ _, rfl⟩
    · rw [if_neg z] at e
      cases e1 : ix l w with
      | none => rw [e1] at e; cases e
      | some j =>
        rw [e1] at e; cases e
        have := ix_lt l w j e1
        exact ⟨Nat.succ_lt_succ this.1, this.2⟩
theorem nA_16 {a n : Nat} (hS : h.2.2.2[a]? = some (16, n)) : nA h a = some (Int32.ofNat n) := by
  unfold nA
  rw [hS]
  exact if_pos (show 14 ≤ 16 ∧ 16 ≤ 17 by decide)
theorem c_ch2 {a n w : Nat} (s1 : h.2.2.2[1]? = some (10, 0)) (hS : h.2.2.2[a]? = some (16, n)) (hn : n < 1000) (hw : h.2.1 1 6 = Int64.ofNat w) (hw2 : w < 9223372036854775808) : ∀ (l : List Nat) (k m : Nat), k + l.length = n → (∀ i x, l[i]? = some x → h.2.1 a (k + i) = Int64.ofNat x ∧ x < 9223372036854775808) →
    fX10_choice_2 (m + l.length + 1) h 1 a (Int32.ofNat k) = some (match ix l w with
      | none => -1
      | some i => Int32.ofNat (k + i), h)
  | [], k, m, e, hv => by
    show bX10_choice_2 _ h 1 a (Int32.ofNat k) = _
    have c1 := k_le (i := n) (n := k) (by omega) (by simp only [List.length_nil] at e; omega)
    simp only [List.length_nil] at e
    simp only [bX10_choice_2, nA_16 hS, bd_some, c1, if_pos (show n ≤ k by omega), ix]
  | x :: l, k, m, e, hv => by
    simp only [List.length_cons] at e
    have c1 := k_le (i := n) (n := k) (by omega) (by omega)
    have v0 := hv 0 x rfl
    have l1 : lJ h a (Int32.ofNat k) = some (Int64.ofNat x) := by rw [lJ_at hS (by omega) (by omega), show k = k + 0 from rfl, v0.1]
    have ih := c_ch2 s1 hS hn hw hw2 l (k + 1) m (by omega) (fun i y hi => by rw [show k + 1 + i = k + (i + 1) by omega]; exact hv (i + 1) y hi)
    show bX10_choice_2 (fX10_choice_2 (m + l.length + 1)) h 1 a (Int32.ofNat k) = _
    simp only [bX10_choice_2, nA_16 hS, bd_some, c1, if_neg (show ¬ n ≤ k by omega), l1, gJ_at s1, hw, lgE, j_eqN v0.2 hw2, ix]
    by_cases z : x = w
    · rw [if_pos z, if_pos z]; rfl
    · rw [if_neg z, if_neg z, k_succ, ih]
      cases ix l w with
      | none => rfl
      | some i => show some (Int32.ofNat (k + 1 + i), h) = some (Int32.ofNat (k + (i + 1)), h); rw [show k + 1 + i = k + (i + 1) by omega]
theorem c_chA {a n : Nat} (T : tBy B L p h0) (K : KC B L p h0 X D q h) (l : List Nat) (hS : h.2.2.2[a]? = some (16, n)) (hn : n < 1000) (hl : l.length = n) (hv : ∀ i x, l[i]? = some x → h.2.1 a i = Int64.ofNat x ∧ x < 9223372036854775808) : fX10_choice h 1 a = some (oN (ix l (tWd B L q)), h) := by
  have S := KC.cs T K.1
  have w1 := tWd_lt (B := B) (q := q) T.2.2.1 K.2.1.1
  obtain ⟨m, hm⟩ := FU_at l.length (by omega)
  have := c_ch2 (S.sh 1 rfl) hS hn K.2.1.2.2.2.2.2 (by omega) l 0 m (by omega) (fun i x hi => by rw [Nat.zero_add]; exact hv i x hi)
  unfold fX10_choice
  rw [hm]
  refine this.trans ?_
  cases ix l (tWd B L q) with
  | none => rfl
  | some i => show some (Int32.ofNat (0 + i), h) = _; rw [Nat.zero_add]; rfl
theorem RW4 : ∀ (i x : Nat), nT4[i]? = some x → wT4[i]? = some (Int64.ofNat x) ∧ x < 9223372036854775808 := fun i x hi => by
  have e : wT4 = nT4.map Int64.ofNat := by decide
  rw [e, List.getElem?_map, hi]
  exact ⟨rfl, (by decide : ∀ y ∈ nT4, y < 9223372036854775808) x (List.mem_of_getElem? hi)⟩
theorem RW5 : ∀ (i x : Nat), nT5[i]? = some x → wT5[i]? = some (Int64.ofNat x) ∧ x < 9223372036854775808 := fun i x hi => by
  have e : wT5 = nT5.map Int64.ofNat := by decide
  rw [e, List.getElem?_map, hi]
  exact ⟨rfl, (by decide : ∀ y ∈ nT5, y < 9223372036854775808) x (List.mem_of_getElem? hi)⟩
theorem RW6 : ∀ (i x : Nat), nT6[i]? = some x → wT6[i]? = some (Int64.ofNat x) ∧ x < 9223372036854775808 := fun i x hi => by
  have e : wT6 = nT6.map Int64.ofNat := by decide
  rw [e, List.getElem?_map, hi]
  exact ⟨rfl, (by decide : ∀ y ∈ nT6, y < 9223372036854775808) x (List.mem_of_getElem? hi)⟩
theorem RW7 : ∀ (i x : Nat), nT7[i]? = some x → wT7[i]? = some (Int64.ofNat x) ∧ x < 9223372036854775808 := fun i x hi => by
  have e : wT7 = nT7.map Int64.ofNat := by decide
  rw [e, List.getElem?_map, hi]
  exact ⟨rfl, (by decide : ∀ y ∈ nT7, y < 9223372036854775808) x (List.mem_of_getElem? hi)⟩
theorem c_ch4 (T : tBy B L p h0) (W : RW h0.2.1) (K : KC B L p h0 X D q h) : fX10_choice h 1 4 = some (oN (ix nT4 (tWd B L q)), h) :=
  c_chA T K nT4 ((KC.cs T K.1).sh 4 rfl) (by decide) rfl fun i x hi => ⟨by rw [K.1.2.2 4 i (by omega)]; exact W.1 i _ (RW4 i x hi).1, (RW4 i x hi).2⟩
theorem c_ch5 (T : tBy B L p h0) (W : RW h0.2.1) (K : KC B L p h0 X D q h) : fX10_choice h 1 5 = some (oN (ix nT5 (tWd B L q)), h) :=
  c_chA T K nT5 ((KC.cs T K.1).sh 5 rfl) (by decide) rfl fun i x hi => ⟨by rw [K.1.2.2 5 i (by omega)]; exact W.2.1 i _ (RW5 i x hi).1, (RW5 i x hi).2⟩
theorem c_ch6 (T : tBy B L p h0) (W : RW h0.2.1) (K : KC B L p h0 X D q h) : fX10_choice h 1 6 = some (oN (ix nT6 (tWd B L q)), h) :=
  c_chA T K nT6 ((KC.cs T K.1).sh 6 rfl) (by decide) rfl fun i x hi => ⟨by rw [K.1.2.2 6 i (by omega)]; exact W.2.2.1 i _ (RW6 i x hi).1, (RW6 i x hi).2⟩
theorem c_ch7 (T : tBy B L p h0) (W : RW h0.2.1) (K : KC B L p h0 X D q h) : fX10_choice h 1 7 = some (oN (ix nT7 (tWd B L q)), h) :=
  c_chA T K nT7 ((KC.cs T K.1).sh 7 rfl) (by decide) rfl fun i x hi => ⟨by rw [K.1.2.2 7 i (by omega)]; exact W.2.2.2 i _ (RW7 i x hi).1, (RW7 i x hi).2⟩
end KCS
