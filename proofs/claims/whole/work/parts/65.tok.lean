/-! ===== TOKENS, over plain numbers; both sides' ways to them ===== -/
/-- the sort of a byte: 1 letter, 2 digit, 3 semicolon, 4 comma, 5 other -/
def cls (x : Int32) : Nat := if x < 97 then (if x < 48 then (if x = 59 then 3 else if x = 44 then 4 else 5) else if 57 < x then (if x = 59 then 3 else if x = 44 then 4 else 5) else 2) else if 122 < x then (if x < 48 then (if x = 59 then 3 else if x = 44 then 4 else 5) else if 57 < x then (if x = 59 then 3 else if x = 44 then 4 else 5) else 2) else 1
theorem byte_all {Q : Int32 → Prop} (hq : ∀ k : Nat, k < 256 → Q (Int32.ofInt ((k : Int) - 128))) {x : Int32} (hx : bR x) : Q x := by
  obtain ⟨h1, h2⟩ := hx
  have e : x = Int32.ofInt (((x.toInt + 128).toNat : Int) - 128) := by
    apply Int32.toInt.inj
    rw [Int32.toInt_ofInt_of_le (by omega) (by omega)]
    omega
  rw [e]
  exact hq _ (by omega)
theorem cls_ub {x : Int32} (hx : bR x) : (x &&& 255 = 32 ↔ x = 32) ∧ (x &&& 255 ≠ -1) ∧ (cls x = 1 ↔ ¬ (x &&& 255) < 97 ∧ ¬ 122 < (x &&& 255)) ∧ (cls x = 2 ↔ ¬ (x &&& 255) < 48 ∧ ¬ 57 < (x &&& 255)) ∧ (cls x = 3 ↔ x &&& 255 = 59) ∧ (cls x = 4 ↔ x &&& 255 = 44) ∧ 1 ≤ cls x ∧ cls x ≤ 5 := by
  refine byte_all (Q := fun x => (x &&& 255 = 32 ↔ x = 32) ∧ (x &&& 255 ≠ -1) ∧ (cls x = 1 ↔ ¬ (x &&& 255) < 97 ∧ ¬ 122 < (x &&& 255)) ∧ (cls x = 2 ↔ ¬ (x &&& 255) < 48 ∧ ¬ 57 < (x &&& 255)) ∧ (cls x = 3 ↔ x &&& 255 = 59) ∧ (cls x = 4 ↔ x &&& 255 = 44) ∧ 1 ≤ cls x ∧ cls x ≤ 5) ?_ hx
  decide +kernel
/-- a letter's number, a digit's -/
def ltN (x : Int32) : Nat := (x &&& 31).toNatClampNeg
def dgN (x : Int32) : Nat := (x - 48).toNatClampNeg
theorem cls_lt {x : Int32} (hx : bR x) (h1 : cls x = 1) : x &&& 31 = Int32.ofNat (ltN x) ∧ ((x &&& 255) - 97) + 1 = Int32.ofNat (ltN x) ∧ ltN x < 32 ∧ 0 < ltN x := by
  refine byte_all (Q := fun x => cls x = 1 → x &&& 31 = Int32.ofNat (ltN x) ∧ ((x &&& 255) - 97) + 1 = Int32.ofNat (ltN x) ∧ ltN x < 32 ∧ 0 < ltN x) ?_ hx h1
  decide +kernel
theorem cls_dg {x : Int32} (hx : bR x) (h1 : cls x = 2) : x - 48 = Int32.ofNat (dgN x) ∧ (x &&& 255) = Int32.ofNat (dgN x + 48) ∧ dgN x < 10 := by
  refine byte_all (Q := fun x => cls x = 2 → x - 48 = Int32.ofNat (dgN x) ∧ (x &&& 255) = Int32.ofNat (dgN x + 48) ∧ dgN x < 10) ?_ hx h1
  decide +kernel
/-- blanks are passed over -/
def sk (B : Nat → Int32) : Nat → Nat → Nat
  | 0, k => k
  | m + 1, k => if B k = 32 then sk B m (k + 1) else k
/-- a run of one sort -/
def rn (B : Nat → Int32) (s : Nat) : Nat → Nat → Nat
  | 0, k => k
  | m + 1, k => if cls (B k) = s then rn B s m (k + 1) else k
def pkN (B : Nat → Int32) : Nat → Nat → Nat → Nat
  | 0, _, y => y
  | m + 1, k, y => pkN B m (k + 1) (32 * y + ltN (B k))
def vlN (B : Nat → Int32) : Nat → Nat → Nat → Nat
  | 0, _, y => y
  | m + 1, k, y => vlN B m (k + 1) (10 * y + dgN (B k))
def tFr (B : Nat → Int32) (L q : Nat) : Nat := sk B (L - q) q
def tCl (B : Nat → Int32) (L q : Nat) : Nat := if tFr B L q < L then cls (B (tFr B L q)) else 0
def tTo (B : Nat → Int32) (L q : Nat) : Nat := if tCl B L q = 0 then tFr B L q else if tCl B L q = 1 ∨ tCl B L q = 2 then rn B (tCl B L q) (L - (tFr B L q + 1)) (tFr B L q + 1) else tFr B L q + 1
/-- the sort of the token: 0 end, 1 word, 2 whole, 3 semicolon, 4 comma, 5 none -/
def tSo (B : Nat → Int32) (L q : Nat) : Nat := if tCl B L q = 1 ∧ 8 < tTo B L q - tFr B L q then 5 else if tCl B L q = 2 ∧ 3 < tTo B L q - tFr B L q then 5 else tCl B L q
def tWd (B : Nat → Int32) (L q : Nat) : Nat := if tSo B L q = 1 then pkN B (tTo B L q - tFr B L q) (tFr B L q) 0 else 0
def tVl (B : Nat → Int32) (L q : Nat) : Nat := vlN B (tTo B L q - tFr B L q) (tFr B L q) 0
section TOK
variable {B : Nat → Int32} {L q : Nat}
theorem sk_le : ∀ m k, k ≤ sk B m k ∧ sk B m k ≤ k + m
  | 0, k => ⟨Nat.le_refl _, Nat.le_refl _⟩
  | m + 1, k => by unfold sk; have := sk_le m (k + 1); split <;> omega
theorem rn_le {s : Nat} : ∀ m k, k ≤ rn B s m k ∧ rn B s m k ≤ k + m
  | 0, k => ⟨Nat.le_refl _, Nat.le_refl _⟩
  | m + 1, k => by unfold rn; have := rn_le (s := s) m (k + 1); split <;> omega
theorem rn_in {s : Nat} : ∀ m k j, k ≤ j → j < rn B s m k → cls (B j) = s
  | 0, k, j, h1, h2 => by unfold rn at h2; omega
  | m + 1, k, j, h1, h2 => by
    unfold rn at h2
    by_cases z : cls (B k) = s
    · rw [if_pos z] at h2
      rcases Nat.lt_or_ge k j with w | w
      · exact rn_in m (k + 1) j w h2
      · have : j = k := by omega
        subst this; exact z
    · rw [if_neg z] at h2; omega
theorem tFr_le (hq : q ≤ L) : q ≤ tFr B L q ∧ tFr B L q ≤ L := by
  have := sk_le (B := B) (L - q) q
  unfold tFr; omega
theorem tCl_0 : tCl B L q = 0 → (∀ k, bR (B k)) → ¬ tFr B L q < L := fun h hb z => by
  unfold tCl at h; rw [if_pos z] at h
  have := (cls_ub (hb (tFr B L q))).2.2.2.2.2.2.1
  omega
theorem tTo_le (hq : q ≤ L) (hb : ∀ k, bR (B k)) : tFr B L q ≤ tTo B L q ∧ tTo B L q ≤ L ∧ (tCl B L q ≠ 0 → tFr B L q < tTo B L q) := by
  have h1 := tFr_le (B := B) hq
  by_cases z : tCl B L q = 0
  · have e : tTo B L q = tFr B L q := by unfold tTo; rw [if_pos z]
    exact ⟨by omega, by omega, fun w => absurd z w⟩
  · have hlt : tFr B L q < L := by
      unfold tCl at z
      by_cases w : tFr B L q < L
      · exact w
      · rw [if_neg w] at z; exact absurd rfl z
    unfold tTo
    rw [if_neg z]
    have := rn_le (B := B) (s := tCl B L q) (L - (tFr B L q + 1)) (tFr B L q + 1)
    split
    · exact ⟨by omega, by omega, fun _ => by omega⟩
    · exact ⟨by omega, by omega, fun _ => by omega⟩
theorem tTo_in (hb : ∀ k, bR (B k)) {s : Nat} (hs : s = 1 ∨ s = 2) (hc : tCl B L q = s) {j : Nat} (h1 : tFr B L q ≤ j) (h2 : j < tTo B L q) : cls (B j) = s := by
  have hne : tCl B L q ≠ 0 := by omega
  have hlt : tFr B L q < L := by
    by_cases w : tFr B L q < L
    · exact w
    · unfold tCl at hc; rw [if_neg w] at hc; omega
  have e0 : cls (B (tFr B L q)) = s := by unfold tCl at hc; rw [if_pos hlt] at hc; exact hc
  unfold tTo at h2
  rw [if_neg hne, if_pos (by omega), hc] at h2
  rcases Nat.lt_or_ge (tFr B L q) j with w | w
  · exact rn_in _ _ j w h2
  · have : j = tFr B L q := by omega
    rw [this]; exact e0
theorem pkN_lt : ∀ m k y b, (∀ j, k ≤ j → j < k + m → ltN (B j) < 32) → y < 2 ^ b → pkN B m k y < 2 ^ (b + 5 * m)
  | 0, k, y, b, h1, h2 => h2
  | m + 1, k, y, b, h1, h2 => by
    unfold pkN
    have h3 := h1 k (Nat.le_refl _) (by omega)
    have := pkN_lt m (k + 1) (32 * y + ltN (B k)) (b + 5) (fun j a1 a2 => h1 j (by omega) (by omega)) (by rw [Nat.pow_add]; omega)
    rw [show b + 5 * (m + 1) = b + 5 + 5 * m by omega]; exact this
theorem pkN_pos : ∀ m k y, (∀ j, k ≤ j → j < k + m → 0 < ltN (B j)) → 0 < m ∨ 0 < y → 0 < pkN B m k y
  | 0, k, y, h1, h2 => by unfold pkN; omega
  | m + 1, k, y, h1, h2 => by
    unfold pkN
    exact pkN_pos m (k + 1) _ (fun j a1 a2 => h1 j (by omega) (by omega)) (Or.inr (by have := h1 k (Nat.le_refl _) (by omega); omega))
end TOK
theorem j_shl5K : ((Int32.toInt64 5 &&& 63 : Int64).toBitVec.smod 64).toNat = 5 := by decide +kernel
theorem j_shl5 (Y : Nat) : Int64.ofNat Y <<< (Int32.toInt64 5 &&& 63) = Int64.ofNat (32 * Y) := by
  apply Int64.toBitVec.inj
  show BitVec.ofNat 64 Y <<< ((Int32.toInt64 5 &&& 63 : Int64).toBitVec.smod 64).toNat = BitVec.ofNat 64 (32 * Y)
  rw [j_shl5K]
  apply BitVec.eq_of_toNat_eq
  rw [BitVec.toNat_shiftLeft, BitVec.toNat_ofNat, BitVec.toNat_ofNat, Nat.shiftLeft_eq]
  omega
theorem j_pk {Y v : Nat} (hv : v < 32) : (Int64.ofNat Y <<< (Int32.toInt64 5 &&& 63)) ||| Int64.ofNat v = Int64.ofNat (32 * Y + v) := by
  rw [j_shl5, j_or]
  have e := Nat.two_pow_add_eq_or_of_lt (i := 5) (b := v) hv Y
  rw [show 32 * Y + v = 2 ^ 5 * Y + v from rfl, e]
section TKC
variable {p : Nat} {P : PT} {c : CT} {N : Nat → Int32} {h h0 : MH} {B : Nat → Int32} {L q f s t : Nat}
/-- the class's token cells -/
def tC (h0 h : MH) (f s t : Nat) (w : Int64) : Prop := h.2.2 = h0.2.2 ∧ (∀ b k, ¬ (b = 1 ∧ (k = 3 ∨ k = 4 ∨ k = 5)) → h.1 b k = h0.1 b k) ∧ (∀ b k, ¬ (b = 1 ∧ k = 6) → h.2.1 b k = h0.2.1 b k) ∧ h.1 1 4 = Int32.ofNat f ∧ h.1 1 3 = Int32.ofNat s ∧ h.1 1 5 = Int32.ofNat t ∧ h.2.1 1 6 = w
theorem tC.xf {w : Int64} (T : tC h0 h f s t w) (x : Nat) : tC h0 (sI h 1 4 (Int32.ofNat x)) x s t w := by
  obtain ⟨a1, a2, a3, a4, a5, a6, a7⟩ := T
  exact ⟨a1, fun b k z => by rw [sI_ne (by omega)]; exact a2 b k z, a3, sI_eq, by rw [sI_ne (by omega)]; exact a5, by rw [sI_ne (by omega)]; exact a6, a7⟩
theorem tC.xs {w : Int64} (T : tC h0 h f s t w) (x : Nat) : tC h0 (sI h 1 3 (Int32.ofNat x)) f x t w := by
  obtain ⟨a1, a2, a3, a4, a5, a6, a7⟩ := T
  exact ⟨a1, fun b k z => by rw [sI_ne (by omega)]; exact a2 b k z, a3, by rw [sI_ne (by omega)]; exact a4, sI_eq, by rw [sI_ne (by omega)]; exact a6, a7⟩
theorem tC.xt {w : Int64} (T : tC h0 h f s t w) (x : Nat) : tC h0 (sI h 1 5 (Int32.ofNat x)) f s x w := by
  obtain ⟨a1, a2, a3, a4, a5, a6, a7⟩ := T
  exact ⟨a1, fun b k z => by rw [sI_ne (by omega)]; exact a2 b k z, a3, by rw [sI_ne (by omega)]; exact a4, by rw [sI_ne (by omega)]; exact a5, sI_eq, a7⟩
theorem tC.xw {w : Int64} (T : tC h0 h f s t w) (x : Int64) : tC h0 (sJ h 1 6 x) f s t x := by
  obtain ⟨a1, a2, a3, a4, a5, a6, a7⟩ := T
  exact ⟨a1, a2, fun b k z => by show (if b = 1 ∧ k = 6 then x else h.2.1 b k) = _; rw [if_neg z]; exact a3 b k z, a4, a5, a6, by show (if 1 = 1 ∧ 6 = 6 then x else h.2.1 1 6) = x; rw [if_pos ⟨rfl, rfl⟩]⟩
/-- the tape as both see it -/
def tBy (B : Nat → Int32) (L : Nat) (p : Nat) (h : MH) : Prop := CS p h.2.2 ∧ L ≤ 900 ∧ (∀ k, bR (B k)) ∧ (∀ k, k < 900 → h.1 2 k = B k) ∧ ∀ k, k < 900 → h.1 78 k = B k
theorem c_sortAt (T : tBy B L p h0) {w : Int64} (E : tC h0 h f s t w) {k : Nat} (hk : k < L) : fX10_sortAt h 1 (Int32.ofNat k) = some (Int32.ofNat (cls (B k)), h) := by
  obtain ⟨S, hL, hb, t1, t2⟩ := T
  have S' : CS p h.2.2 := by rw [E.1]; exact S
  have g1 : gR h 1 10 0 = some 2 := gR_at (S'.sh 1 rfl) (S'.rf 1 rfl rfl)
  have l1 : lB h 2 (Int32.ofNat k) = some (B k) := by rw [lB_at (S'.sh 2 rfl) (show k < 900 by omega) (by decide), E.2.1 2 k (by omega), t1 k (by omega)]
  simp only [fX10_sortAt, bX10_sortAt_21, bX10_sortAt_35, g1, l1, bd_some, cls]
  repeat' split
  all_goals first | rfl | (exfalso; omega)
theorem c_adv8 (T : tBy B L p h0) (hl : h0.1 1 2 = Int32.ofNat L) {w : Int64} : ∀ (m k n : Nat) (h : MH), k + m = L → tC h0 h k s t w → ∃ h', fX10_advance_8 (n + m + 1) h 1 = bX10_advance_46 h' 1 ∧ tC h0 h' (sk B m k) s t w := by
  intro m
  induction m with
  | zero =>
    intro k n h e E
    have hL := T.2.1
    have S' : CS p h.2.2 := by rw [E.1]; exact T.1
    have hk : k = L := by omega
    subst hk
    refine ⟨h, ?_, E⟩
    have g4 : gI h 1 10 4 = some (Int32.ofNat k) := by rw [gI_at (S'.sh 1 rfl), E.2.2.2.1]
    have g2 : gI h 1 10 2 = some (Int32.ofNat k) := by rw [gI_at (S'.sh 1 rfl), E.2.1 1 2 (by omega), hl]
    show bX10_advance_8 _ h 1 = _
    simp only [bX10_advance_8, g4, g2, bd_some, if_pos (k_rfl _)]
  | succ m ih =>
    intro k n h e E
    obtain ⟨S, hL, hb, t1, t2⟩ := T
    have S' : CS p h.2.2 := by rw [E.1]; exact S
    have g4 : gI h 1 10 4 = some (Int32.ofNat k) := by rw [gI_at (S'.sh 1 rfl), E.2.2.2.1]
    have g2 : gI h 1 10 2 = some (Int32.ofNat L) := by rw [gI_at (S'.sh 1 rfl), E.2.1 1 2 (by omega), hl]
    have g0 : gR h 1 10 0 = some 2 := gR_at (S'.sh 1 rfl) (S'.rf 1 rfl rfl)
    have l1 : lB h 2 (Int32.ofNat k) = some (B k) := by rw [lB_at (S'.sh 2 rfl) (show k < 900 by omega) (by decide), E.2.1 2 k (by omega), t1 k (by omega)]
    have n1 := k_nle (show k < L by omega) (show L ≤ 100000 by omega)
    show ∃ h', bX10_advance_8 (fX10_advance_8 (n + m + 1)) h 1 = _ ∧ _
    simp only [bX10_advance_8, g4, g2, g0, l1, bd_some, if_neg n1, k_succ, pI_at (S'.sh 1 rfl : h.2.2.2[1]? = some (10, 0))]
    unfold sk
    by_cases z : B k = 32
    · rw [if_pos z, if_pos z]
      exact ih (k + 1) n _ (by omega) (E.xf (k + 1))
    · rw [if_neg z, if_neg z]
      exact ⟨h, rfl, E⟩
theorem c_adv98 (T : tBy B L p h0) (hl : h0.1 1 2 = Int32.ofNat L) (hs : s = 1 ∨ s = 2) {w : Int64} : ∀ (m k n : Nat) (h : MH), k + m = L → tC h0 h f s k w → ∃ h', fX10_advance_98 (n + m + 1) h 1 = bX10_advance_153 h' 1 ∧ tC h0 h' f s (rn B s m k) w := by
  have to114 : ∀ (k98 : MH → Nat → Option MH) (h : MH) (t : Nat), tC h0 h f s t w → bX10_advance_98 k98 h 1 = bX10_advance_114 k98 h 1 := fun k98 h t E => by
    have S' : CS p h.2.2 := by rw [E.1]; exact T.1
    have g3 : gI h 1 10 3 = some (Int32.ofNat s) := by rw [gI_at (S'.sh 1 rfl), E.2.2.2.2.1]
    simp only [bX10_advance_98, g3, bd_some]
    rcases hs with rfl | rfl
    · rw [if_pos (show Int32.ofNat 1 = 1 from rfl)]
    · rw [if_neg (show ¬ Int32.ofNat 2 = 1 by decide), if_pos (show Int32.ofNat 2 = 2 from rfl)]
  intro m
  induction m with
  | zero =>
    intro k n h e E
    have hL := T.2.1
    have S' : CS p h.2.2 := by rw [E.1]; exact T.1
    have hk : k = L := by omega
    subst hk
    refine ⟨h, ?_, E⟩
    have g5 : gI h 1 10 5 = some (Int32.ofNat k) := by rw [gI_at (S'.sh 1 rfl), E.2.2.2.2.2.1]
    have g2 : gI h 1 10 2 = some (Int32.ofNat k) := by rw [gI_at (S'.sh 1 rfl), E.2.1 1 2 (by omega), hl]
    show bX10_advance_98 _ h 1 = _
    rw [to114 _ h _ E]
    simp only [bX10_advance_114, g5, g2, bd_some, if_pos (k_rfl _)]
  | succ m ih =>
    intro k n h e E
    have sa := c_sortAt T E (k := k) (by omega)
    obtain ⟨S, hL, hb, t1, t2⟩ := T
    have S' : CS p h.2.2 := by rw [E.1]; exact S
    have g5 : gI h 1 10 5 = some (Int32.ofNat k) := by rw [gI_at (S'.sh 1 rfl), E.2.2.2.2.2.1]
    have g3 : gI h 1 10 3 = some (Int32.ofNat s) := by rw [gI_at (S'.sh 1 rfl), E.2.2.2.2.1]
    have g2 : gI h 1 10 2 = some (Int32.ofNat L) := by rw [gI_at (S'.sh 1 rfl), E.2.1 1 2 (by omega), hl]
    have n1 := k_nle (show k < L by omega) (show L ≤ 100000 by omega)
    have hc5 := (cls_ub (hb k)).2.2.2.2.2.2.2
    have ec := k_eq (i := cls (B k)) (n := s) (by omega) (by omega)
    show ∃ h', bX10_advance_98 (fX10_advance_98 (n + m + 1)) h 1 = _ ∧ _
    rw [to114 _ h _ E]
    simp only [bX10_advance_114, g5, g2, g3, sa, ck_at (S'.sh 1 rfl : h.2.2.2[1]? = some (10, 0)), bd_some, bd2_some, if_neg n1, k_succ, pI_at (S'.sh 1 rfl : h.2.2.2[1]? = some (10, 0)), ec]
    unfold rn
    by_cases z : cls (B k) = s
    · rw [if_pos z, if_pos z]
      exact ih (k + 1) n _ (by omega) (E.xt (k + 1))
    · rw [if_neg z, if_neg z]
      exact ⟨h, rfl, E⟩
theorem c_spell (T : tBy B L p h0) {w : Int64} (E : tC h0 h f s t w) (ht : t ≤ L) : ∀ (m k n y : Nat), k + m = t → (∀ j, k ≤ j → j < t → cls (B j) = 1) → fX10_spelling_7 (n + m + 1) h 1 (Int64.ofNat y) (Int32.ofNat k) = some (Int64.ofNat (pkN B m k y), h) := by
  obtain ⟨S, hL, hb, t1, t2⟩ := T
  have S' : CS p h.2.2 := by rw [E.1]; exact S
  have g5 : gI h 1 10 5 = some (Int32.ofNat t) := by rw [gI_at (S'.sh 1 rfl), E.2.2.2.2.2.1]
  have g0 : gR h 1 10 0 = some 2 := gR_at (S'.sh 1 rfl) (S'.rf 1 rfl rfl)
  intro m
  induction m with
  | zero =>
    intro k n y e hc
    have hk : k = t := by omega
    subst hk
    show bX10_spelling_7 _ h 1 _ (Int32.ofNat k) = _
    simp only [bX10_spelling_7, g5, bd_some, if_pos (k_rfl _)]
    rfl
  | succ m ih =>
    intro k n y e hc
    have l1 : lB h 2 (Int32.ofNat k) = some (B k) := by rw [lB_at (S'.sh 2 rfl) (show k < 900 by omega) (by decide), E.2.1 2 k (by omega), t1 k (by omega)]
    have n1 := k_nle (show k < t by omega) (show t ≤ 100000 by omega)
    obtain ⟨c1, c2, c3, c4⟩ := cls_lt (hb k) (hc k (Nat.le_refl _) (by omega))
    show bX10_spelling_7 (fX10_spelling_7 (n + m + 1)) h 1 _ (Int32.ofNat k) = _
    simp only [bX10_spelling_7, g5, g0, l1, bd_some, if_neg n1, k_succ, c1, k_i2l (show ltN (B k) < 2147483648 by omega), j_pk c3]
    exact ih (k + 1) n _ (by omega) (fun j a1 a2 => hc j (by omega) a2)
theorem c_valL (T : tBy B L p h0) {w : Int64} (E : tC h0 h f s t w) (ht : t ≤ L) : ∀ (m k n y : Nat), k + m = t → (∀ j, k ≤ j → j < t → cls (B j) = 2) → fX10_value_7 (n + m + 1) h 1 (Int32.ofNat y) (Int32.ofNat k) = some (Int32.ofNat (vlN B m k y), h) := by
  obtain ⟨S, hL, hb, t1, t2⟩ := T
  have S' : CS p h.2.2 := by rw [E.1]; exact S
  have g5 : gI h 1 10 5 = some (Int32.ofNat t) := by rw [gI_at (S'.sh 1 rfl), E.2.2.2.2.2.1]
  have g0 : gR h 1 10 0 = some 2 := gR_at (S'.sh 1 rfl) (S'.rf 1 rfl rfl)
  intro m
  induction m with
  | zero =>
    intro k n y e hc
    have hk : k = t := by omega
    subst hk
    show bX10_value_7 _ h 1 _ (Int32.ofNat k) = _
    simp only [bX10_value_7, g5, bd_some, if_pos (k_rfl _)]
    rfl
  | succ m ih =>
    intro k n y e hc
    have l1 : lB h 2 (Int32.ofNat k) = some (B k) := by rw [lB_at (S'.sh 2 rfl) (show k < 900 by omega) (by decide), E.2.1 2 k (by omega), t1 k (by omega)]
    have n1 := k_nle (show k < t by omega) (show t ≤ 100000 by omega)
    obtain ⟨c1, c2, c3⟩ := cls_dg (hb k) (hc k (Nat.le_refl _) (by omega))
    have e10 : (10 : Int32) * Int32.ofNat y + Int32.ofNat (dgN (B k)) = Int32.ofNat (10 * y + dgN (B k)) := by rw [show (10 : Int32) = Int32.ofNat 10 from rfl, k_mul, k_add]
    show bX10_value_7 (fX10_value_7 (n + m + 1)) h 1 _ (Int32.ofNat k) = _
    simp only [bX10_value_7, g5, g0, l1, bd_some, if_neg n1, k_succ, c1, e10]
    exact ih (k + 1) n _ (by omega) (fun j a1 a2 => hc j (by omega) a2)
/-- the class's token at q -/
def tkC (B : Nat → Int32) (L q : Nat) (h0 h : MH) : Prop := tC h0 h (tFr B L q) (tSo B L q) (tTo B L q) (Int64.ofNat (tWd B L q))
theorem c_advance (T : tBy B L p h0) (hl : h0.1 1 2 = Int32.ofNat L) (hq : q ≤ L) {w : Int64} (E : tC h0 h f s q w) : ∃ h', fX10_advance h 1 = some h' ∧ tkC B L q h0 h' := by
  have TT := T
  obtain ⟨S, hL, hb, t1, t2⟩ := T
  have hS : ∀ {h : MH} {f s t : Nat} {w : Int64}, tC h0 h f s t w → h.2.2.2[1]? = some (10, 0) := fun E => by
    have S' := S.sh 1 (w := (10, 0)) rfl
    rw [← E.1] at S'; exact S'
  have F1 := tFr_le (B := B) hq
  obtain ⟨o1, o2, o3⟩ := tTo_le (B := B) hq hb
  obtain ⟨n, hn⟩ := FU_at (L - q) (by omega)
  obtain ⟨h1, e1, E1⟩ := c_adv8 TT hl (L - q) q n (sI h 1 4 (Int32.ofNat q)) (by omega) (E.xf q)
  have g5 : gI h 1 10 5 = some (Int32.ofNat q) := by rw [gI_at (hS E), E.2.2.2.2.2.1]
  have e0 : fX10_advance h 1 = bX10_advance_46 h1 1 := by
    simp only [fX10_advance, g5, pI_at (hS E), bd_some]
    rw [hn]; exact e1
  rw [e0]
  have E1' : tC h0 h1 (tFr B L q) s q w := E1
  have E2 := E1'.xt (tFr B L q)
  have g4 : gI h1 1 10 4 = some (Int32.ofNat (tFr B L q)) := by rw [gI_at (hS E1'), E1'.2.2.2.1]
  have g4' : gI (sI h1 1 5 (Int32.ofNat (tFr B L q))) 1 10 4 = some (Int32.ofNat (tFr B L q)) := by rw [gI_at (hS E2), E2.2.2.2.1]
  have g2' : gI (sI h1 1 5 (Int32.ofNat (tFr B L q))) 1 10 2 = some (Int32.ofNat L) := by rw [gI_at (hS E2), E2.2.1 1 2 (by omega), hl]
  have kl := k_lt (i := tFr B L q) (n := L) (by omega) (by omega)
  simp only [bX10_advance_46, g4, pI_at (hS E1'), g4', g2', bd_some, kl]
  by_cases z : tFr B L q < L
  · rw [if_pos z]
    have hcl : tCl B L q = cls (B (tFr B L q)) := by unfold tCl; rw [if_pos z]
    have sa := c_sortAt TT E2 z
    have hc5 := (cls_ub (hb (tFr B L q))).2.2.2.2.2.2
    rw [← hcl] at sa hc5
    have E3 := E2.xs (tCl B L q)
    have g43 : gI (sI (sI h1 1 5 (Int32.ofNat (tFr B L q))) 1 3 (Int32.ofNat (tCl B L q))) 1 10 4 = some (Int32.ofNat (tFr B L q)) := by rw [gI_at (hS E3), E3.2.2.2.1]
    have E4 := E3.xt (tFr B L q + 1)
    simp only [ck_at (hS E2), sa, pI_at (hS E2), g43, pI_at (hS E3), bd_some, bd2_some, k_succ]
    -- the run
    obtain ⟨h5, e5, E5⟩ : ∃ h5, fX10_advance_98 FU (sI (sI (sI h1 1 5 (Int32.ofNat (tFr B L q))) 1 3 (Int32.ofNat (tCl B L q))) 1 5 (Int32.ofNat (tFr B L q + 1))) 1 = bX10_advance_153 h5 1 ∧ tC h0 h5 (tFr B L q) (tCl B L q) (tTo B L q) w := by
      by_cases zs : tCl B L q = 1 ∨ tCl B L q = 2
      · obtain ⟨n2, hn2⟩ := FU_at (L - (tFr B L q + 1)) (by omega)
        obtain ⟨h5, e5, E5⟩ := c_adv98 TT hl zs (L - (tFr B L q + 1)) (tFr B L q + 1) n2 _ (by omega) E4
        have et : tTo B L q = rn B (tCl B L q) (L - (tFr B L q + 1)) (tFr B L q + 1) := by unfold tTo; rw [if_neg (by omega), if_pos zs]
        exact ⟨h5, by rw [hn2]; exact e5, by rw [et]; exact E5⟩
      · have et : tTo B L q = tFr B L q + 1 := by unfold tTo; rw [if_neg (by omega), if_neg zs]
        refine ⟨_, ?_, by rw [et]; exact E4⟩
        obtain ⟨n2, hn2⟩ := FU_at 0 (by decide)
        rw [hn2]
        have g3 := gI_at (k := 3) (hS E4)
        rw [E4.2.2.2.2.1] at g3
        have x1 : ¬ Int32.ofNat (tCl B L q) = 1 := fun w => zs (Or.inl ((k_eq (n := 1) (by omega) (by decide)).mp w))
        have x2 : ¬ Int32.ofNat (tCl B L q) = 2 := fun w => zs (Or.inr ((k_eq (n := 2) (by omega) (by decide)).mp w))
        show bX10_advance_98 _ _ 1 = _
        simp only [bX10_advance_98, g3, bd_some, if_neg x1, if_neg x2]
    rw [e5]
    have g3 : gI h5 1 10 3 = some (Int32.ofNat (tCl B L q)) := by rw [gI_at (hS E5), E5.2.2.2.2.1]
    have g55 : gI h5 1 10 5 = some (Int32.ofNat (tTo B L q)) := by rw [gI_at (hS E5), E5.2.2.2.2.2.1]
    have g54 : gI h5 1 10 4 = some (Int32.ofNat (tFr B L q)) := by rw [gI_at (hS E5), E5.2.2.2.1]
    have es : Int32.ofNat (tTo B L q) - Int32.ofNat (tFr B L q) = Int32.ofNat (tTo B L q - tFr B L q) := k_sub o1
    have c1 : (Int32.ofNat (tCl B L q) = 1) ↔ tCl B L q = 1 := k_eq (n := 1) (by omega) (by decide)
    have c2 : (Int32.ofNat (tCl B L q) = 2) ↔ tCl B L q = 2 := k_eq (n := 2) (by omega) (by decide)
    have c8 : ((8 : Int32) < Int32.ofNat (tTo B L q - tFr B L q)) ↔ 8 < tTo B L q - tFr B L q := k_lt (i := 8) (by decide) (by omega)
    have c3 : (Int32.ofNat (tTo B L q - tFr B L q) ≤ 3) ↔ tTo B L q - tFr B L q ≤ 3 := k_le (n := 3) (by omega) (by decide)
    have fin : ∀ h6, tC h0 h6 (tFr B L q) (tSo B L q) (tTo B L q) w → ∃ h', bX10_advance_201 h6 1 = some h' ∧ tkC B L q h0 h' := fun h6 E6 => by
      have g36 : gI h6 1 10 3 = some (Int32.ofNat (tSo B L q)) := by rw [gI_at (hS E6), E6.2.2.2.2.1]
      have hso : tSo B L q ≤ 5 := by unfold tSo; (repeat' split) <;> omega
      have d1 : (Int32.ofNat (tSo B L q) = 1) ↔ tSo B L q = 1 := k_eq (n := 1) (by omega) (by decide)
      simp only [bX10_advance_201, g36, bd_some, d1]
      by_cases zz : tSo B L q = 1
      · have zc : tCl B L q = 1 := by unfold tSo at zz; (repeat' split at zz) <;> omega
        have g64 : gI h6 1 10 4 = some (Int32.ofNat (tFr B L q)) := by rw [gI_at (hS E6), E6.2.2.2.1]
        obtain ⟨n3, hn3⟩ := FU_at (tTo B L q - tFr B L q) (by omega)
        have sp := c_spell TT E6 o2 (tTo B L q - tFr B L q) (tFr B L q) n3 0 (by omega) (fun j a1 a2 => tTo_in hb (Or.inl rfl) zc a1 a2)
        have sp' : fX10_spelling h6 1 = some (Int64.ofNat (tWd B L q), h6) := by
          simp only [fX10_spelling, g64, bd_some]
          unfold tWd
          rw [if_pos zz, hn3]
          exact sp
        rw [if_pos zz, ck_at (hS E6), bd_some, sp', bd2_some, pJ_at (hS E6), bd_some]
        exact ⟨_, rfl, E6.xw _⟩
      · rw [if_neg zz, pJ_at (hS E6), bd_some]
        refine ⟨_, rfl, ?_⟩
        have : tWd B L q = 0 := by unfold tWd; rw [if_neg zz]
        unfold tkC
        rw [this]; exact E6.xw 0
    simp only [bX10_advance_153, bX10_advance_175, g3, g55, g54, es, c1, c2, c8, c3, bd_some, pI_at (hS E5)]
    by_cases z1 : tCl B L q = 1
    · rw [if_pos z1]
      by_cases z8 : 8 < tTo B L q - tFr B L q
      · rw [if_pos z8]
        have : tSo B L q = 5 := by unfold tSo; rw [if_pos ⟨z1, z8⟩]
        exact fin _ (by rw [this]; exact E5.xs 5)
      · rw [if_neg z8, if_neg (show ¬ tCl B L q = 2 by omega)]
        have : tSo B L q = tCl B L q := by unfold tSo; rw [if_neg (fun x => z8 x.2), if_neg (fun x => by omega)]
        exact fin _ (by rw [this]; exact E5)
    · rw [if_neg z1]
      by_cases z2 : tCl B L q = 2
      · rw [if_pos z2]
        by_cases z3 : tTo B L q - tFr B L q ≤ 3
        · rw [if_pos z3]
          have : tSo B L q = tCl B L q := by unfold tSo; rw [if_neg (fun x => z1 x.1), if_neg (fun x => by omega)]
          exact fin _ (by rw [this]; exact E5)
        · rw [if_neg z3]
          have : tSo B L q = 5 := by unfold tSo; rw [if_neg (fun x => z1 x.1), if_pos ⟨z2, by omega⟩]
          exact fin _ (by rw [this]; exact E5.xs 5)
      · rw [if_neg z2]
        have : tSo B L q = tCl B L q := by unfold tSo; rw [if_neg (fun x => z1 x.1), if_neg (fun x => z2 x.1)]
        exact fin _ (by rw [this]; exact E5)
  · rw [if_neg z]
    have hcl : tCl B L q = 0 := by unfold tCl; rw [if_neg z]
    have hso : tSo B L q = 0 := by unfold tSo; rw [if_neg (by omega), if_neg (by omega)]; exact hcl
    have hto : tTo B L q = tFr B L q := by unfold tTo; rw [if_pos hcl]
    have hwd : tWd B L q = 0 := by unfold tWd; rw [if_neg (by omega)]
    have E3 : tC h0 (sI (sI h1 1 5 (Int32.ofNat (tFr B L q))) 1 3 0) (tFr B L q) 0 (tFr B L q) w := E2.xs 0
    rw [pI_at (hS E2), bd_some, pJ_at (hS E3), bd_some]
    refine ⟨_, rfl, ?_⟩
    unfold tkC
    rw [hso, hto, hwd]
    exact E3.xw 0
end TKC
