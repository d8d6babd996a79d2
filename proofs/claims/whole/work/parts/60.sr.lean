/-! ===== KEPT: the search itself, over plain numbers ===== -/
abbrev KT : Type := Nat → Option Nat
abbrev KRs : Type := Int × Option KT
def dec1 (I : Nat → Nat) (s : Nat) : Nat → Nat := fun k => if k = s then I k - 1 else I k
def setT (T : KT) (p : Nat) (x : Option Nat) : KT := fun k => if k = p then x else T k
def cnK (ok : Nat → Nat → Bool) (H p q : Nat) (I Hd : Nat → Nat) : Bool := ok p q && decide (0 < I (q / H)) && decide (0 < Hd (q % H))
/-- all ways from paper p on, d papers left: the first of the best -/
def sr (ok : Nat → Nat → Bool) (H nP : Nat) : Nat → Nat → Nat → (Nat → Nat) → (Nat → Nat) → KT → KRs → KRs
  | 0, _, cnt, _, _, T, r => if r.1 < (cnt : Int) then ((cnt : Int), some T) else r
  | d + 1, p, cnt, I, Hd, T, r => sr ok H nP d (p + 1) cnt I Hd (setT T p none) (lp (fun q r => if cnK ok H p q I Hd = true then sr ok H nP d (p + 1) (cnt + 1) (dec1 I (q / H)) (dec1 Hd (q % H)) (setT T p (some q)) r else r) nP 0 r)
/-- one pair -/
def stK (ok : Nat → Nat → Bool) (H nP d p cnt : Nat) (I Hd : Nat → Nat) (T : KT) (q : Nat) (r : KRs) : KRs := if cnK ok H p q I Hd = true then sr ok H nP d (p + 1) (cnt + 1) (dec1 I (q / H)) (dec1 Hd (q % H)) (setT T p (some q)) r else r
theorem sr_s {ok : Nat → Nat → Bool} {H nP d p cnt : Nat} {I Hd : Nat → Nat} {T : KT} {r : KRs} : sr ok H nP (d + 1) p cnt I Hd T r = sr ok H nP d (p + 1) cnt I Hd (setT T p none) (lp (stK ok H nP d p cnt I Hd T) nP 0 r) := rfl
/-- sums -/
def smN (f : Nat → Nat) : Nat → Nat
  | 0 => 0
  | n + 1 => smN f n + f n

theorem smN_congr {f g : Nat → Nat} : ∀ n, (∀ k, k < n → f k = g k) → smN f n = smN g n
  | 0, _ => rfl
  | n + 1, h => by unfold smN; rw [smN_congr n (fun k hk => h k (by omega)), h n (by omega)]
theorem smN_dec {f : Nat → Nat} {s : Nat} : ∀ n, s < n → 0 < f s → smN (dec1 f s) n + 1 = smN f n
  | 0, hs, _ => by omega
  | n + 1, hs, h0 => by
    unfold smN
    rcases Nat.lt_or_ge s n with q | q
    · have ih := smN_dec n q h0
      have e : dec1 f s n = f n := if_neg (by omega)
      rw [e]; omega
    · have : s = n := by omega
      subst this
      have e : dec1 f s s = f s - 1 := if_pos rfl
      have e2 : smN (dec1 f s) s = smN f s := smN_congr s (fun k hk => if_neg (by omega))
      rw [e, e2]; omega
theorem lp_idP {α : Type} {s : Nat → α → α} {a : α} {b : Nat} (hs : ∀ k, k < b → s k a = a) : ∀ m k, k + m = b → lp s m k a = a
  | 0, _, _ => rfl
  | m + 1, k, e => by unfold lp; rw [hs k (by omega)]; exact lp_idP hs m (k + 1) (by omega)
theorem lp_succ {α : Type} {s : Nat → α → α} {a : α} : ∀ m k, lp s (m + 1) k a = s (k + m) (lp s m k a)
  | 0, k => rfl
  | m + 1, k => by
    show lp s (m + 1) (k + 1) (s k a) = s (k + (m + 1)) (lp s m (k + 1) (s k a))
    rw [lp_succ m (k + 1), show k + 1 + m = k + (m + 1) by omega]
section SR
variable {ok : Nat → Nat → Bool} {H S nP : Nat}
/-- nothing better can come: by what still can be kept -/
theorem sr_L1 {U : Nat → Nat} (hU : ∀ p, U (p + 1) ≤ U p ∧ (∀ q, q < nP → ok p q = true → U (p + 1) + 1 ≤ U p)) : ∀ (d p cnt : Nat) (I Hd : Nat → Nat) (T : KT) (r : KRs), ((cnt + U p : Nat) : Int) ≤ r.1 → sr ok H nP d p cnt I Hd T r = r
  | 0, p, cnt, I, Hd, T, r, h => by unfold sr; rw [if_neg (by omega)]
  | d + 1, p, cnt, I, Hd, T, r, h => by
    obtain ⟨h1, h2⟩ := hU p
    rw [sr_s, lp_idP (b := nP) (fun q hq => ?_) nP 0 (by omega)]
    · exact sr_L1 hU d (p + 1) cnt I Hd _ r (by omega)
    · unfold stK
      by_cases c1 : cnK ok H p q I Hd = true
      · rw [if_pos c1]
        unfold cnK at c1
        simp only [Bool.and_eq_true] at c1
        have := h2 q hq c1.1.1
        exact sr_L1 hU d (p + 1) (cnt + 1) _ _ _ r (by omega)
      · rw [if_neg c1]
/-- by ink -/
theorem sr_L2 (hq : ∀ q, q < nP → q / H < S) : ∀ (d p cnt : Nat) (I Hd : Nat → Nat) (T : KT) (r : KRs), ((cnt + smN I S : Nat) : Int) ≤ r.1 → sr ok H nP d p cnt I Hd T r = r
  | 0, p, cnt, I, Hd, T, r, h => by unfold sr; rw [if_neg (by omega)]
  | d + 1, p, cnt, I, Hd, T, r, h => by
    rw [sr_s, lp_idP (b := nP) (fun q hqq => ?_) nP 0 (by omega)]
    · exact sr_L2 hq d (p + 1) cnt I Hd _ r h
    · unfold stK
      by_cases c1 : cnK ok H p q I Hd = true
      · rw [if_pos c1]
        unfold cnK at c1
        simp only [Bool.and_eq_true, decide_eq_true_eq] at c1
        have := smN_dec S (hq q hqq) c1.1.2
        exact sr_L2 hq d (p + 1) (cnt + 1) _ _ _ r (by omega)
      · rw [if_neg c1]
/-- by hands -/
theorem sr_L3 (hH : 0 < nP → 0 < H) : ∀ (d p cnt : Nat) (I Hd : Nat → Nat) (T : KT) (r : KRs), ((cnt + smN Hd H : Nat) : Int) ≤ r.1 → sr ok H nP d p cnt I Hd T r = r
  | 0, p, cnt, I, Hd, T, r, h => by unfold sr; rw [if_neg (by omega)]
  | d + 1, p, cnt, I, Hd, T, r, h => by
    rw [sr_s, lp_idP (b := nP) (fun q hqq => ?_) nP 0 (by omega)]
    · exact sr_L3 hH d (p + 1) cnt I Hd _ r h
    · unfold stK
      by_cases c1 : cnK ok H p q I Hd = true
      · rw [if_pos c1]
        unfold cnK at c1
        simp only [Bool.and_eq_true, decide_eq_true_eq] at c1
        have := smN_dec H (Nat.mod_lt q (hH (by omega))) c1.2
        exact sr_L3 hH d (p + 1) (cnt + 1) _ _ _ r (by omega)
      · rw [if_neg c1]

/-- what is found depends on what was known by its number alone (and that is -1 at least) -/
theorem lp_max {st : KT → Nat → KRs → KRs} {B : Int} (hB : 0 ≤ B) (hst : ∀ q, ∃ M : Int, -1 ≤ M ∧ M ≤ B ∧ ∀ (T : KT) (r : KRs), -1 ≤ r.1 → (st T q r).1 = if r.1 < M then M else r.1) :
    ∀ m k, ∃ M : Int, -1 ≤ M ∧ M ≤ B ∧ ∀ (T : KT) (r : KRs), -1 ≤ r.1 → (lp (st T) m k r).1 = if r.1 < M then M else r.1
  | 0, k => ⟨-1, by omega, by omega, fun T r hr => by show r.1 = _; rw [if_neg (by omega)]⟩
  | m + 1, k => by
    obtain ⟨M1, a1, a2, h1⟩ := hst k
    obtain ⟨M2, b1, b2, h2⟩ := lp_max hB hst m (k + 1)
    refine ⟨if M1 < M2 then M2 else M1, by split <;> omega, by split <;> omega, fun T r hr => ?_⟩
    show (lp (st T) m (k + 1) (st T k r)).1 = _
    have e1 := h1 T r hr
    rw [h2 T _ (by rw [e1]; split <;> omega), e1]
    (repeat' split) <;> omega
theorem sr_max : ∀ (d p cnt : Nat) (I Hd : Nat → Nat), ∃ M : Int, 0 ≤ M ∧ M ≤ ((cnt + d : Nat) : Int) ∧ ∀ (T : KT) (r : KRs), -1 ≤ r.1 → (sr ok H nP d p cnt I Hd T r).1 = if r.1 < M then M else r.1
  | 0, p, cnt, I, Hd => ⟨(cnt : Int), by omega, by omega, fun T r hr => by unfold sr; split <;> rfl⟩
  | d + 1, p, cnt, I, Hd => by
    obtain ⟨M0, m0, m1, hM0⟩ := sr_max d (p + 1) cnt I Hd
    obtain ⟨M2, b1, b2, h2⟩ := lp_max (st := fun T q r => stK ok H nP d p cnt I Hd T q r) (B := ((cnt + d + 1 : Nat) : Int)) (by omega) (fun q => by
      by_cases c1 : cnK ok H p q I Hd = true
      · obtain ⟨M3, d1, d2, h3⟩ := sr_max d (p + 1) (cnt + 1) (dec1 I (q / H)) (dec1 Hd (q % H))
        exact ⟨M3, by omega, by omega, fun T r hr => by unfold stK; rw [if_pos c1]; exact h3 _ r hr⟩
      · exact ⟨-1, by omega, by omega, fun T r hr => by unfold stK; rw [if_neg c1, if_neg (by omega)]⟩) nP 0
    refine ⟨if M2 < M0 then M0 else M2, by split <;> omega, by split <;> omega, fun T r hr => ?_⟩
    rw [sr_s]
    have e1 := h2 T r hr
    rw [hM0 _ _ (by rw [e1]; split <;> omega), e1]
    (repeat' split) <;> omega
/-- something is found -/
theorem sr_some : ∀ (d p cnt : Nat) (I Hd : Nat → Nat) (T : KT) (r : KRs), r.1 < (cnt : Int) ∨ r.2.isSome = true → (sr ok H nP d p cnt I Hd T r).2.isSome = true
  | 0, p, cnt, I, Hd, T, r, h => by
    unfold sr
    split
    · rfl
    · rcases h with h | h
      · omega
      · exact h
  | d + 1, p, cnt, I, Hd, T, r, h => by
    rw [sr_s]
    have hl := lp_inv (s1 := stK ok H nP d p cnt I Hd T) (I := fun _ r => r.1 < (cnt : Int) ∨ r.2.isSome = true) (b := nP) (fun q r hq hI => by
      unfold stK
      by_cases c1 : cnK ok H p q I Hd = true
      · rw [if_pos c1]
        exact Or.inr (sr_some d (p + 1) (cnt + 1) _ _ _ r (hI.elim (fun z => Or.inl (by omega)) Or.inr))
      · rw [if_neg c1]; exact hI) nP 0 r (by omega) h
    exact sr_some d (p + 1) cnt I Hd _ _ hl
/-- what is kept is made of pairs -/
def okKT (nP p : Nat) (T : KT) : Prop := ∀ i q, i < p → T i = some q → q < nP
theorem okKT_set {p : Nat} {T : KT} {x : Option Nat} (hT : okKT nP p T) (hx : ∀ q, x = some q → q < nP) : okKT nP (p + 1) (setT T p x) := by
  intro i q hi e
  unfold setT at e
  by_cases z : i = p
  · rw [if_pos z] at e; exact hx q e
  · rw [if_neg z] at e; exact hT i q (by omega) e
theorem sr_okKT {Q : Nat} : ∀ (d p cnt : Nat) (I Hd : Nat → Nat) (T : KT) (r : KRs), p + d = Q → okKT nP p T → (∀ T', r.2 = some T' → okKT nP Q T') → ∀ T', (sr ok H nP d p cnt I Hd T r).2 = some T' → okKT nP Q T'
  | 0, p, cnt, I, Hd, T, r, e, h1, h2, T', h3 => by
    unfold sr at h3
    split at h3
    · cases h3; have : p = Q := by omega
      subst this; exact h1
    · exact h2 T' h3
  | d + 1, p, cnt, I, Hd, T, r, e, h1, h2, T', h3 => by
    rw [sr_s] at h3
    have hl := lp_inv (s1 := stK ok H nP d p cnt I Hd T) (I := fun _ r => ∀ T', r.2 = some T' → okKT nP Q T') (b := nP) (fun q r hq hI => by
      unfold stK
      by_cases c1 : cnK ok H p q I Hd = true
      · rw [if_pos c1]
        exact sr_okKT d (p + 1) (cnt + 1) _ _ _ r (by omega) (okKT_set h1 (fun q' e' => by cases e'; exact hq)) hI
      · rw [if_neg c1]; exact hI) nP 0 r (by omega) h2
    exact sr_okKT d (p + 1) cnt I Hd _ _ (by omega) (okKT_set h1 (fun q' e' => by cases e')) hl T' h3
end SR
/-! most, as an int -/
abbrev iZ (z : Int) : Int32 := Int32.ofInt z
theorem iZ_toInt {z : Int} (h1 : -1 ≤ z) (h2 : z ≤ 1000) : (iZ z).toInt = z := Int32.toInt_ofInt_of_le (by omega) (by omega)
theorem iZ_nat (n : Nat) : iZ (n : Int) = Int32.ofNat n := Int32.ofInt_eq_ofNat
theorem iZ_le {z : Int} {k : Nat} (h1 : -1 ≤ z) (h2 : z ≤ 1000) (hk : k < 2147483648) : (Int32.ofNat k ≤ iZ z) ↔ (k : Int) ≤ z := by
  rw [Int32.le_iff_toInt_le, k_toInt hk, iZ_toInt h1 h2]
theorem iZ_lt {z : Int} {k : Nat} (h1 : -1 ≤ z) (h2 : z ≤ 1000) (hk : k < 2147483648) : (iZ z < Int32.ofNat k) ↔ z < (k : Int) := by
  rw [Int32.lt_iff_toInt_lt, k_toInt hk, iZ_toInt h1 h2]
theorem iZ_le2 {z y : Int} (h1 : -1 ≤ z) (h2 : z ≤ 1000) (h3 : -1 ≤ y) (h4 : y ≤ 1000) : (iZ z ≤ iZ y) ↔ z ≤ y := by
  rw [Int32.le_iff_toInt_le, iZ_toInt h1 h2, iZ_toInt h3 h4]
