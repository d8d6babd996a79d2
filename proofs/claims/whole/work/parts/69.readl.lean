/-! ===== READING: lines, over plain numbers ===== -/
def bS {α β : Type} (x : RS α) (f : α → RS β) : RS β := match x with
  | .inl e => .inl e
  | .inr a => f a
theorem bS_r {α β : Type} {x : RS α} {a : α} {f : α → RS β} (e : x = .inr a) : bS x f = f a := by rw [e]; rfl
theorem bS_l {α β : Type} {x : RS α} {a : Nat × Nat} {f : α → RS β} (e : x = .inl a) : bS x f = .inl a := by rw [e]; rfl
section LNS
variable (B : Nat → Int32) (L : Nat)
def lOf (D : DD) (q : Nat) : RS (DD × Nat) := bS (pFl B L 2410643 q) fun q1 => bS (pWh B L 100 q1) fun v => .inr ((upN (upN D.1 8 1) 0 v.1, D.2.1, D.2.2.1, D.2.2.2), v.2)
def lMa (D : DD) (q : Nat) : RS (DD × Nat) := bS (pNew B L D.2.2.2 q) fun r => .inr ((upN D.1 1 (D.1 1 + 1), D.2.1, D.2.2.1, D.2.2.2 ++ [(r.1, 1, D.1 1)]), r.2)
def lPa (D : DD) (q : Nat) : RS (DD × Nat) := bS (pNew B L D.2.2.2 q) fun r => bS (pFl B L 24627848 r.2) fun q1 => bS (pWh B L 99 q1) fun v => bS (pMk B L D.2.2.2 6 0 v.2) fun b =>
  .inr ((upN D.1 2 (D.1 2 + 1), upP (upP D.2.1 0 (D.1 2) (Int32.ofNat v.1)) 1 (D.1 2) (-2), upN D.2.2.1 (D.1 2) (Int32.ofNat b.1), D.2.2.2 ++ [(r.1, 2, D.1 2)]), b.2)
def lSt (D : DD) (q : Nat) : RS (DD × Nat) := bS (pNew B L D.2.2.2 q) fun r => bS (pFl B L 9675 r.2) fun q1 => bS (pWh B L 9 q1) fun v => bS (pFl B L 176741 v.2) fun q2 => bS (pCh B L nT6 q2) fun o => bS (pMk B L D.2.2.2 6 0 o.2) fun b =>
  .inr ((upN D.1 3 (D.1 3 + 1), upP (upP D.2.1 2 (D.1 3) (Int32.ofNat o.1)) 3 (D.1 3) (Int32.ofNat b.1), upN D.2.2.1 (10 + D.1 3) (Int32.ofNat v.1), D.2.2.2 ++ [(r.1, 3, D.1 3)]), b.2)
def nOt (q : Nat) : Nat × Nat := if ix nT4 (tWd B L q) = some 8 then (1, tTo B L q) else (0, q)
def lRu (D : DD) (q : Nat) : RS (DD × Nat) := bS (pOld B L D.2.2.2 3 q) fun s => bS (pOld B L D.2.2.2 1 (nOt B L (tTo B L q)).2) fun m => bS (pCh B L nT6 (tTo B L (nOt B L (tTo B L q)).2)) fun v =>
  .inr ((upN D.1 4 (D.1 4 + 1), upP (upP (upP D.2.1 4 (D.1 4) (Int32.ofNat s)) 6 (D.1 4) (Int32.ofNat (nOt B L (tTo B L q)).1)) 5 (D.1 4) (Int32.ofNat m), upN D.2.2.1 (18 + D.1 4) (Int32.ofNat v.1), D.2.2.2), v.2)
def lHa (D : DD) (q : Nat) : RS (DD × Nat) := bS (pNew B L D.2.2.2 q) fun r => bS (pCh B L nT7 r.2) fun k => bS (pFl B L 14138521 k.2) fun q2 => bS (pWh B L 100 q2) fun v =>
  .inr ((upN D.1 5 (D.1 5 + 1), upP (upP D.2.1 7 (D.1 5) (Int32.ofNat k.1)) 8 (D.1 5) (Int32.ofNat v.1), D.2.2.1, D.2.2.2 ++ [(r.1, 5, D.1 5)]), v.2)
def lWa (D : DD) (q : Nat) : RS (DD × Nat) := bS (pOld B L D.2.2.2 2 q) fun i => if D.2.1 1 i = -2 then bS (pCh B L nT6 (tTo B L q)) fun v =>
  .inr ((upN D.1 6 (D.1 6 + 1), upP D.2.1 1 i (Int32.ofNat v.1), D.2.2.1, D.2.2.2), v.2) else .inl (3, tFr B L q)
def lPr (D : DD) (q : Nat) : RS (DD × Nat) := bS (pOld B L D.2.2.2 2 q) fun i => bS (pOld B L D.2.2.2 5 (tTo B L q)) fun j => bS (pCh B L nT6 (tTo B L (tTo B L q))) fun v =>
  .inr ((upN D.1 7 (D.1 7 + 1), upP (upP (upP D.2.1 9 (D.1 7) (Int32.ofNat i)) 10 (D.1 7) (Int32.ofNat j)) 11 (D.1 7) (Int32.ofNat v.1), D.2.2.1, D.2.2.2), v.2)
def fuN (c : CT) (k : Nat) : Bool := decide ((k = 1 ∧ 5 ≤ c 1) ∨ (k = 2 ∧ 5 ≤ c 2) ∨ (k = 3 ∧ 4 ≤ c 3) ∨ (k = 4 ∧ 10 ≤ c 4) ∨ (k = 5 ∧ 3 ≤ c 5) ∨ (k = 7 ∧ 4 ≤ c 7))
def pLn (D : DD) (q : Nat) : RS (DD × Nat) := match ix nT4 (tWd B L q) with
  | none => .inl (1, tFr B L q)
  | some k => if 7 < k then .inl (1, tFr B L q) else if k = 0 then (if D.1 8 = 0 then lOf B L D (tTo B L q) else .inl (3, tFr B L q)) else if D.1 8 = 0 then .inl (6, tFr B L q) else if fuN D.1 k = true then .inl (5, tFr B L q) else
    if k = 1 then lMa B L D (tTo B L q) else if k = 2 then lPa B L D (tTo B L q) else if k = 3 then lSt B L D (tTo B L q) else if k = 4 then lRu B L D (tTo B L q) else if k = 5 then lHa B L D (tTo B L q) else if k = 6 then lWa B L D (tTo B L q) else lPr B L D (tTo B L q)
def pTx : Nat → DD → Nat → RS DD
  | 0, _, _ => .inl (0, 0)
  | m + 1, D, q => bS (pLn B L D q) fun r => if tSo B L r.2 = 0 then (if r.1.1 2 = 0 then .inl (6, tFr B L r.2) else .inr r.1) else if tSo B L r.2 = 3 then pTx m r.1 (tTo B L r.2) else .inl (1, tFr B L r.2)
end LNS
def xP (X : Nat → Nat → Prop) (t i : Nat) : Nat → Nat → Prop := fun t' i' => X t' i' ∨ (t' = t ∧ i' = i)
def xD (c : CT) : Nat → Nat → Prop := fun t i => i < c (cpt t)
section KCW
variable {p : Nat} {h h0 h' : MH} {B : Nat → Int32} {L q : Nat} {X X' : Nat → Nat → Prop} {D : DD} {e : Nat × Nat}
theorem KC.wk (K : KC B L p h0 X D q h) (hx : ∀ t i, t < 12 → X' t i → X t i) : KC B L p h0 X' D q h := by
  obtain ⟨F, k, d1, d2, d3, d4, d5, d6, d7⟩ := K
  exact ⟨F, k, d1, d2, d3, d4, d5, fun t i ht z => d6 t i ht (hx t i ht z), d7⟩
theorem CS.pl' {q : (Nat → Nat → Option Nat) × List (Nat × Nat)} (C : CS p q) : q.2[42 - p]? = some (7, 0) := by
  rcases C.1 with rfl | rfl
  · exact C.sh 29 rfl
  · exact C.sh 13 rfl
theorem CS.plA' {q : (Nat → Nat → Option Nat) × List (Nat × Nat)} (C : CS p q) (t : Nat) (ht : t < 12) : q.1 (42 - p) t = some (43 - p + t) ∧ q.2[43 - p + t]? = some (15, capL.getD t 0) := by
  rcases C.1 with rfl | rfl
  · rcases (show t = 0 ∨ t = 1 ∨ t = 2 ∨ t = 3 ∨ t = 4 ∨ t = 5 ∨ t = 6 ∨ t = 7 ∨ t = 8 ∨ t = 9 ∨ t = 10 ∨ t = 11 by omega) with rfl | rfl | rfl | rfl | rfl | rfl | rfl | rfl | rfl | rfl | rfl | rfl <;> exact ⟨C.rf 7 rfl rfl, C.sh _ rfl⟩
  · rcases (show t = 0 ∨ t = 1 ∨ t = 2 ∨ t = 3 ∨ t = 4 ∨ t = 5 ∨ t = 6 ∨ t = 7 ∨ t = 8 ∨ t = 9 ∨ t = 10 ∨ t = 11 by omega) with rfl | rfl | rfl | rfl | rfl | rfl | rfl | rfl | rfl | rfl | rfl | rfl <;> exact ⟨C.rf 4 rfl rfl, C.sh _ rfl⟩
/-! what the reader reads of itself -/
theorem r3 (T : tBy B L p h0) (F : frC p h0 h) : h.2.2.2[3]? = some (8, 0) := (KC.cs T F).sh 3 rfl
theorem r1 (T : tBy B L p h0) (F : frC p h0 h) : h.2.2.2[1]? = some (10, 0) := (KC.cs T F).sh 1 rfl
theorem r8 (T : tBy B L p h0) (F : frC p h0 h) : h.2.2.2[8]? = some (4, 0) := (KC.cs T F).sh 8 rfl
theorem rPl (T : tBy B L p h0) (F : frC p h0 h) : h.2.2.2[42 - p]? = some (7, 0) := (KC.cs T F).pl'
theorem g30 (T : tBy B L p h0) (F : frC p h0 h) : gR h 3 8 0 = some 1 := gR_at (r3 T F) ((KC.cs T F).rf 2 rfl rfl)
theorem g31 (T : tBy B L p h0) (F : frC p h0 h) : gR h 3 8 1 = some 4 := gR_at (r3 T F) ((KC.cs T F).rf 2 rfl rfl)
theorem g33 (T : tBy B L p h0) (F : frC p h0 h) : gR h 3 8 3 = some 6 := gR_at (r3 T F) ((KC.cs T F).rf 2 rfl rfl)
theorem g34 (T : tBy B L p h0) (F : frC p h0 h) : gR h 3 8 4 = some 7 := gR_at (r3 T F) ((KC.cs T F).rf 2 rfl rfl)
theorem g35 (T : tBy B L p h0) (F : frC p h0 h) : gR h 3 8 5 = some 8 := gR_at (r3 T F) ((KC.cs T F).rf 2 rfl rfl)
theorem g39 (T : tBy B L p h0) (F : frC p h0 h) : gR h 3 8 9 = some (42 - p) := gR_at (r3 T F) (KC.cs T F).2.2.2.1
theorem gPt (T : tBy B L p h0) (F : frC p h0 h) (t : Nat) (ht : t < 12) : gR h (42 - p) 7 t = some (43 - p + t) := gR_at (rPl T F) ((KC.cs T F).plA' t ht).1
theorem gCt (T : tBy B L p h0) (K : KC B L p h0 X D q h) (t k : Nat) (ht : t < 8) (hk : k = 12 + t) : gI h (42 - p) 7 k = some (Int32.ofNat (D.1 t)) := by rw [gI_at (rPl T K.1), hk, K.2.2.2.2.2.2.1 t ht]
theorem g12 (T : tBy B L p h0) (K : KC B L p h0 X D q h) : gI h 3 8 12 = some 0 := by rw [gI_at (r3 T K.1), K.2.2.2.2.1]
theorem f12 (T : tBy B L p h0) (K : KF p h0 e h) : gI h 3 8 12 = some (Int32.ofNat e.1) := by rw [gI_at (r3 T K.1), K.2.1]
theorem f12n (K : KF p h0 e h) : ¬ Int32.ofNat e.1 = 0 := fun x => by
  have := (k_eq (i := e.1) (n := 0) (by have := K.2.2.2.2; omega) (by decide)).mp x
  have := K.2.2.2.1
  omega
/-! writing -/
theorem KF.w (K : KF p h0 e h) {a k : Nat} {x : Int32} (ha : a = 9 ∨ (42 - p ≤ a ∧ a ≤ 54 - p)) (hp : p = 13 ∨ p = 29) : KF p h0 e (sI h a k x) :=
  ⟨K.1.sI (by omega), by rw [sI_ne (by omega)]; exact K.2.1, by rw [sI_ne (by omega)]; exact K.2.2.1, K.2.2.2⟩
theorem c_wP (T : tBy B L p h0) (K : KC B L p h0 X D q h) (t : Nat) (ht : t < 12) {i : Nat} (hi : i < capL.getD t 0) (x : Int32) : ∃ h', tI h (43 - p + t) (Int32.ofNat i) x = some h' ∧ KC B L p h0 (xP X t i) (D.1, upP D.2.1 t i x, D.2.2.1, D.2.2.2) q h' := by
  have hp := T.1.1
  have hc : ∀ t, t < 12 → capL.getD t 0 < 2147483648 := by decide
  refine ⟨_, tI_at ((KC.cs T K.1).plA' t ht).2 hi (hc t ht), ?_⟩
  obtain ⟨F, ⟨k1, k2, k3, k4, k5, k6⟩, d1, d2, d3, d4, d5, d6, d7⟩ := K
  refine ⟨F.sI (by omega), ⟨k1, by rw [sI_ne (by omega)]; exact k2, by rw [sI_ne (by omega)]; exact k3, by rw [sI_ne (by omega)]; exact k4, by rw [sI_ne (by omega)]; exact k5, k6⟩, by rw [sI_ne (by omega)]; exact d1, by rw [sI_ne (by omega)]; exact d2, by rw [sI_ne (by omega)]; exact d3, fun i e hi => ?_, fun t' ht' => ?_, fun t' i' ht' hx => ?_, fun i hi => ?_⟩
  · rw [sI_ne (by omega), sI_ne (by omega)]; exact d4 i e hi
  · rw [sI_ne (by omega)]; exact d5 t' ht'
  · show _ = upP D.2.1 t i x t' i'
    unfold upP
    by_cases z : t' = t ∧ i' = i
    · rw [if_pos z, z.1, z.2]; exact sI_eq
    · rw [if_neg z, sI_ne (by omega)]
      rcases hx with hx | hx
      · exact d6 t' i' ht' hx
      · exact absurd hx z
  · rw [sI_ne (by omega)]; exact d7 i hi
theorem c_wC (T : tBy B L p h0) (K : KC B L p h0 X D q h) (t k : Nat) (ht : t < 8) (hk : k = 12 + t) (v : Nat) : ∃ h', pI h (42 - p) 7 k (Int32.ofNat v) = some h' ∧ KC B L p h0 X (upN D.1 t v, D.2.1, D.2.2.1, D.2.2.2) q h' := by
  have hp := T.1.1
  refine ⟨_, pI_at (rPl T K.1), ?_⟩
  subst hk
  obtain ⟨F, ⟨k1, k2, k3, k4, k5, k6⟩, d1, d2, d3, d4, d5, d6, d7⟩ := K
  refine ⟨F.sI (by omega), ⟨k1, by rw [sI_ne (by omega)]; exact k2, by rw [sI_ne (by omega)]; exact k3, by rw [sI_ne (by omega)]; exact k4, by rw [sI_ne (by omega)]; exact k5, k6⟩, by rw [sI_ne (by omega)]; exact d1, ?_, by rw [sI_ne (by omega)]; exact d3, fun i e hi => ?_, fun t' ht' => ?_, fun t' i' ht' hx => ?_, fun i hi => ?_⟩
  · rw [sI_ne (by omega), d2]; show _ = Int32.ofNat (upN D.1 t v 8); unfold upN; rw [if_neg (by omega)]
  · rw [sI_ne (by omega), sI_ne (by omega)]; exact d4 i e hi
  · show _ = Int32.ofNat (upN D.1 t v t')
    unfold upN
    by_cases z : t' = t
    · rw [if_pos z, z]; exact sI_eq
    · rw [if_neg z, sI_ne (by omega)]; exact d5 t' ht'
  · rw [sI_ne (by omega)]; exact d6 t' i' ht' hx
  · rw [sI_ne (by omega)]; exact d7 i hi
theorem c_w8 (T : tBy B L p h0) (K : KC B L p h0 X D q h) : ∃ h', pB h 3 8 11 1 = some h' ∧ KC B L p h0 X (upN D.1 8 1, D.2.1, D.2.2.1, D.2.2.2) q h' := by
  have hp := T.1.1
  refine ⟨_, pB_at (r3 T K.1) (Or.inr rfl), ?_⟩
  obtain ⟨F, ⟨k1, k2, k3, k4, k5, k6⟩, d1, d2, d3, d4, d5, d6, d7⟩ := K
  refine ⟨F.sI (by omega), ⟨k1, by rw [sI_ne (by omega)]; exact k2, by rw [sI_ne (by omega)]; exact k3, by rw [sI_ne (by omega)]; exact k4, by rw [sI_ne (by omega)]; exact k5, k6⟩, by rw [sI_ne (by omega)]; exact d1, sI_eq, by rw [sI_ne (by omega)]; exact d3, fun i e hi => ?_, fun t' ht' => ?_, fun t' i' ht' hx => ?_, fun i hi => ?_⟩
  · rw [sI_ne (by omega), sI_ne (by omega)]; exact d4 i e hi
  · rw [sI_ne (by omega), d5 t' ht']; show _ = Int32.ofNat (upN D.1 8 1 t'); unfold upN; rw [if_neg (by omega)]
  · rw [sI_ne (by omega)]; exact d6 t' i' ht' hx
  · rw [sI_ne (by omega)]; exact d7 i hi
theorem c_wN (T : tBy B L p h0) (K : KC B L p h0 X D q h) {i : Nat} (hi : i < 31) (x : Int32) : ∃ h', tI h 9 (Int32.ofNat i) x = some h' ∧ KC B L p h0 X (D.1, D.2.1, upN D.2.2.1 i x, D.2.2.2) q h' := by
  have hp := T.1.1
  refine ⟨_, tI_at ((KC.cs T K.1).sh 9 rfl) hi (by decide), ?_⟩
  obtain ⟨F, ⟨k1, k2, k3, k4, k5, k6⟩, d1, d2, d3, d4, d5, d6, d7⟩ := K
  refine ⟨F.sI (by omega), ⟨k1, by rw [sI_ne (by omega)]; exact k2, by rw [sI_ne (by omega)]; exact k3, by rw [sI_ne (by omega)]; exact k4, by rw [sI_ne (by omega)]; exact k5, k6⟩, by rw [sI_ne (by omega)]; exact d1, by rw [sI_ne (by omega)]; exact d2, by rw [sI_ne (by omega)]; exact d3, fun i e hi => ?_, fun t' ht' => ?_, fun t' i' ht' hx => ?_, fun j hj => ?_⟩
  · rw [sI_ne (by omega), sI_ne (by omega)]; exact d4 i e hi
  · rw [sI_ne (by omega)]; exact d5 t' ht'
  · rw [sI_ne (by omega)]; exact d6 t' i' ht' hx
  · show _ = upN D.2.2.1 i x j
    unfold upN
    by_cases z : j = i
    · rw [if_pos z, z]; exact sI_eq
    · rw [if_neg z, sI_ne (by omega)]; exact d7 j hj
/-! writing behind a fault -/
theorem f_wP (T : tBy B L p h0) (K : KF p h0 e h) (t : Nat) (ht : t < 12) {i : Nat} (hi : i < capL.getD t 0) (x : Int32) : ∃ h', tI h (43 - p + t) (Int32.ofNat i) x = some h' ∧ KF p h0 e h' := by
  have hc : ∀ t, t < 12 → capL.getD t 0 < 2147483648 := by decide
  have hp := T.1.1
  exact ⟨_, tI_at ((KC.cs T K.1).plA' t ht).2 hi (hc t ht), K.w (by omega) hp⟩
theorem f_wC (T : tBy B L p h0) (K : KF p h0 e h) (k : Nat) : ∃ v, gI h (42 - p) 7 k = some v ∧ ∀ x, ∃ h', pI h (42 - p) 7 k x = some h' ∧ KF p h0 e h' := by
  have hp := T.1.1
  exact ⟨_, gI_at (rPl T K.1), fun x => ⟨_, pI_at (rPl T K.1), K.w (by omega) hp⟩⟩
theorem f_wN (T : tBy B L p h0) (K : KF p h0 e h) {i : Nat} (hi : i < 31) (x : Int32) : ∃ h', tI h 9 (Int32.ofNat i) x = some h' ∧ KF p h0 e h' := by
  have hp := T.1.1
  exact ⟨_, tI_at ((KC.cs T K.1).sh 9 rfl) hi (by decide), K.w (by omega) hp⟩
theorem g80 (T : tBy B L p h0) (F : frC p h0 h) : gR h 8 4 0 = some 9 := gR_at (r8 T F) ((KC.cs T F).rf 3 rfl rfl)
/-! marks behind commas -/
theorem mk_tab : ∀ b, b < 32 → ∀ j, j < 5 → (((Int32.ofNat b >>> (Int32.ofNat j &&& 31)) &&& 1 = 1) ↔ b.testBit j = true) ∧ (Int32.ofNat b ||| (1 <<< (Int32.ofNat j &&& 31))) = Int32.ofNat (b ||| 1 <<< j) ∧ (b ||| 1 <<< j) < 32 := by decide +kernel
theorem c_mk4 (T : tBy B L p h0) (W : RW h0.2.1) (V : WD D) : ∀ (m x b q n : Nat) (h : MH), x + m = 6 → b < 32 → KC B L p h0 X D q h → ∃ v h', fX8_takeMarks_4 (n + m + 1) h 3 (Int32.ofNat b) (Int32.ofNat x) = some (v, h') ∧ ((∃ b' q', pMk B L D.2.2.2 m b q = .inr (b', q') ∧ b' < 32 ∧ v = Int32.ofNat b' ∧ KC B L p h0 X D q' h') ∨ (∃ e, pMk B L D.2.2.2 m b q = .inl e ∧ KF p h0 e h'))
  | 0, x, b, q, n, h, hx, hb, K => by
    refine ⟨_, h, ?_, Or.inl ⟨b, q, rfl, hb, rfl, K⟩⟩
    show bX8_takeMarks_4 _ h 3 (Int32.ofNat b) (Int32.ofNat x) = _
    have c1 : ((5 : Int32) < Int32.ofNat x) ↔ 5 < x := k_lt (i := 5) (by decide) (by omega)
    simp only [bX8_takeMarks_4, c1, if_pos (show 5 < x by omega)]
  | m + 1, x, b, q, n, h, hx, hb, K => by
    have c1 : ((5 : Int32) < Int32.ofNat x) ↔ 5 < x := k_lt (i := 5) (by decide) (by omega)
    have g3 : gI h 1 10 3 = some (Int32.ofNat (tSo B L q)) := by rw [gI_at (r1 T K.1), K.2.1.2.2.2.1]
    have c2 : (Int32.ofNat (tSo B L q) = 4) ↔ tSo B L q = 4 := k2 (i := 4) (tSo_5 T.2.2.1) (by omega)
    by_cases z : tSo B L q = 4
    · obtain ⟨h1, e1, K1⟩ := c_adv T K
      obtain ⟨v, h2, e2, hv⟩ := c_old (s := 1) T W K1 V (by omega)
      have e2' : fX8_findOldName h1 3 1 = some (v, h2) := e2
      have st : ∀ r, (match pOld B L D.2.2.2 1 (tTo B L q) with
        | .inl e => .inl e
        | .inr j => if b.testBit j = true then .inl (3, tFr B L (tTo B L q)) else pMk B L D.2.2.2 m (b ||| 1 <<< j) (tTo B L (tTo B L q))) = r → pMk B L D.2.2.2 (m + 1) b q = r := fun r hr => by
        show (if tSo B L q = 4 then _ else _) = _
        rw [if_pos z]; exact hr
      rcases hv with ⟨j, a1, a2, a3, a4⟩ | ⟨a1, y, a2, a3⟩
      · subst a3 a4
        obtain ⟨t1, t2, t3⟩ := mk_tab b hb j a2
        have c6 : (0 : Int32) ≤ Int32.ofNat j := (k_le (i := 0) (n := j) (by decide) (by omega)).mpr (Nat.zero_le _)
        by_cases z2 : b.testBit j = true
        · obtain ⟨f3, e3, K3⟩ := c_fail T K1.1 K1.2.1.2.2.1 (n := 3) (by omega)
          have e3' : fX8_fail h2 3 3 = some (0, f3) := e3
          refine ⟨0, f3, ?_, Or.inr ⟨_, st _ (by rw [a1]; exact if_pos z2), K3⟩⟩
          show bX8_takeMarks_4 _ h 3 (Int32.ofNat b) (Int32.ofNat x) = _
          simp only [bX8_takeMarks_4, c1, if_neg (show ¬ 5 < x by omega), g30 T K.1, g3, ck_at (r1 T K.1), bd_some, bd2_some, if_pos (c2.mpr z), e1, ck_at (r3 T K1.1), e2', if_pos c6, fX11_hasBit, if_pos (t1.mpr z2), i10, if_false, e3']
        · obtain ⟨h3, e3, K3⟩ := c_adv T K1
          obtain ⟨v', h', e', hv'⟩ := c_mk4 T W V m (x + 1) (b ||| 1 <<< j) _ n h3 (by omega) t3 K3
          refine ⟨v', h', ?_, ?_⟩
          · show bX8_takeMarks_4 (fX8_takeMarks_4 (n + m + 1)) h 3 (Int32.ofNat b) (Int32.ofNat x) = _
            simp only [bX8_takeMarks_4, c1, if_neg (show ¬ 5 < x by omega), g30 T K.1, g30 T K1.1, g3, ck_at (r1 T K.1), ck_at (r1 T K1.1), bd_some, bd2_some, if_pos (c2.mpr z), e1, ck_at (r3 T K1.1), e2', if_pos c6, fX11_hasBit, if_neg (fun y => z2 (t1.mp y)), if_true, t2, e3, k_succ, e']
          · have se : pMk B L D.2.2.2 (m + 1) b q = pMk B L D.2.2.2 m (b ||| 1 <<< j) (tTo B L (tTo B L q)) := st _ (by rw [a1]; exact if_neg z2)
            rw [se]; exact hv'
      · subst a1
        refine ⟨0, h2, ?_, Or.inr ⟨y, st _ (by rw [a2]), a3⟩⟩
        show bX8_takeMarks_4 _ h 3 (Int32.ofNat b) (Int32.ofNat x) = _
        simp only [bX8_takeMarks_4, c1, if_neg (show ¬ 5 < x by omega), g30 T K.1, g3, ck_at (r1 T K.1), bd_some, bd2_some, if_pos (c2.mpr z), e1, ck_at (r3 T K1.1), e2', if_neg (show ¬ (0 : Int32) ≤ -1 by decide)]
    · refine ⟨_, h, ?_, Or.inl ⟨b, q, ?_, hb, rfl, K⟩⟩
      · show bX8_takeMarks_4 _ h 3 (Int32.ofNat b) (Int32.ofNat x) = _
        simp only [bX8_takeMarks_4, c1, if_neg (show ¬ 5 < x by omega), g30 T K.1, g3, bd_some, if_neg (fun y => z (c2.mp y))]
      · show (if tSo B L q = 4 then _ else _) = _
        rw [if_neg z]
theorem c_mk (T : tBy B L p h0) (W : RW h0.2.1) (V : WD D) (K : KC B L p h0 X D q h) : ∃ v h', fX8_takeMarks h 3 = some (v, h') ∧ ((∃ b' q', pMk B L D.2.2.2 6 0 q = .inr (b', q') ∧ b' < 32 ∧ v = Int32.ofNat b' ∧ KC B L p h0 X D q' h') ∨ (∃ e, pMk B L D.2.2.2 6 0 q = .inl e ∧ KF p h0 e h')) := by
  obtain ⟨n, hn⟩ := FU_at 6 (by decide)
  unfold fX8_takeMarks
  rw [hn]
  exact c_mk4 T W V 6 0 0 q n h rfl (by decide) K
end KCW
