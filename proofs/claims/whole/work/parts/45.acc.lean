/-! ===== loops as folds; short names of what the desk and the model see ===== -/
def lp {α : Type} (st : Nat → α → α) : Nat → Nat → α → α
  | 0, _, a => a
  | m + 1, k, a => lp st m (k + 1) (st k a)
def lx {α β : Type} (st : Nat → α → β ⊕ α) : Nat → Nat → α → β ⊕ α
  | 0, _, a => .inr a
  | m + 1, k, a => match st k a with
    | .inl b => .inl b
    | .inr a' => lx st m (k + 1) a'
theorem lp_run {α ρ : Type} {st : Nat → α → α} {fin : α → Option ρ} {b : Nat} {I : Nat → α → Prop} {F : Nat → Nat → α → Option ρ}
    (h0 : ∀ n a, I b a → F (n + 1) b a = fin a) (h1 : ∀ n k a, k < b → I k a → F (n + 1) k a = F n (k + 1) (st k a) ∧ I (k + 1) (st k a)) :
    ∀ m k n a, k + m = b → I k a → F (n + m + 1) k a = fin (lp st m k a) ∧ I b (lp st m k a)
  | 0, k, n, a, e, hI => by
    have : k = b := by omega
    subst this
    exact ⟨h0 _ _ hI, hI⟩
  | m + 1, k, n, a, e, hI => by
    obtain ⟨q1, q2⟩ := h1 (n + m + 1) k a (by omega) hI
    obtain ⟨r1, r2⟩ := lp_run h0 h1 m (k + 1) n (st k a) (by omega) q2
    exact ⟨q1.trans r1, r2⟩
theorem lpI {α ρ : Type} {st : Nat → α → α} {fin : α → Option ρ} {b : Nat} {I : Nat → α → Prop} {F : Nat → Nat → α → Option ρ} (hb : b ≤ 100000)
    (h0 : ∀ n a, I b a → F (n + 1) b a = fin a) (h1 : ∀ n k a, k < b → I k a → F (n + 1) k a = F n (k + 1) (st k a) ∧ I (k + 1) (st k a)) (a : α) (hI : I 0 a) :
    F FU 0 a = fin (lp st b 0 a) ∧ I b (lp st b 0 a) := by
  obtain ⟨n, hn⟩ := FU_at b (by omega)
  rw [hn]
  exact lp_run h0 h1 b 0 n a (by omega) hI
theorem lp0 {α ρ : Type} {st : Nat → α → α} {fin : α → Option ρ} {b : Nat} {F : Nat → Nat → α → Option ρ} (hb : b ≤ 100000)
    (h0 : ∀ n a, F (n + 1) b a = fin a) (h1 : ∀ n k a, k < b → F (n + 1) k a = F n (k + 1) (st k a)) (a : α) : F FU 0 a = fin (lp st b 0 a) :=
  (lpI (I := fun _ _ => True) hb (fun n a _ => h0 n a) (fun n k a hk _ => ⟨h1 n k a hk, trivial⟩) a trivial).1
/-- a loop whose counter begins at 1 -/
theorem lpF1 {α ρ : Type} {st : Nat → α → α} {fin : α → Option ρ} {b : Nat} {F : Nat → Nat → α → Option ρ} (hb : b ≤ 100000) (h1b : 1 ≤ b)
    (h0 : ∀ n a, F (n + 1) b a = fin a) (h1 : ∀ n k a, k < b → F (n + 1) k a = F n (k + 1) (st k a)) (a : α) : F FU 1 a = fin (lp st (b - 1) 1 a) := by
  obtain ⟨n, hn⟩ := FU_at (b - 1) (by omega)
  rw [hn]
  exact (lp_run (I := fun _ _ => True) (fun n a _ => h0 n a) (fun n k a hk _ => ⟨h1 n k a hk, trivial⟩) (b - 1) 1 n a (by omega) trivial).1
theorem lx_run {α β ρ : Type} {st : Nat → α → β ⊕ α} {fin : β ⊕ α → Option ρ} {b : Nat} {F : Nat → Nat → α → Option ρ}
    (h0 : ∀ n a, F (n + 1) b a = fin (.inr a)) (h1 : ∀ n k a, k < b → F (n + 1) k a = match st k a with | .inl y => fin (.inl y) | .inr a' => F n (k + 1) a') :
    ∀ m k n a, k + m = b → F (n + m + 1) k a = fin (lx st m k a)
  | 0, k, n, a, e => by
    have : k = b := by omega
    subst this
    exact h0 _ _
  | m + 1, k, n, a, e => by
    have q1 := h1 (n + m + 1) k a (by omega)
    show F (n + m + 1 + 1) k a = _
    rw [q1]
    unfold lx
    cases hs : st k a with
    | inl y => rfl
    | inr a' => exact lx_run h0 h1 m (k + 1) n a' (by omega)
theorem lx0 {α β ρ : Type} {st : Nat → α → β ⊕ α} {fin : β ⊕ α → Option ρ} {b : Nat} {F : Nat → Nat → α → Option ρ} (hb : b ≤ 100000)
    (h0 : ∀ n a, F (n + 1) b a = fin (.inr a)) (h1 : ∀ n k a, k < b → F (n + 1) k a = match st k a with | .inl y => fin (.inl y) | .inr a' => F n (k + 1) a') (a : α) :
    F FU 0 a = fin (lx st b 0 a) := by
  obtain ⟨n, hn⟩ := FU_at b (by omega)
  rw [hn]
  exact lx_run h0 h1 b 0 n a (by omega)
/-- folds alike, by an invariant -/
theorem lp_rel {α β : Type} {s1 : Nat → α → α} {s2 : Nat → β → β} {I : Nat → α → β → Prop} {b : Nat} (h : ∀ k a a', k < b → I k a a' → I (k + 1) (s1 k a) (s2 k a')) :
    ∀ m k a a', k + m = b → I k a a' → I b (lp s1 m k a) (lp s2 m k a')
  | 0, k, a, a', e, hI => by
    have : k = b := by omega
    subst this
    exact hI
  | m + 1, k, a, a', e, hI => lp_rel h m (k + 1) _ _ (by omega) (h k a a' (by omega) hI)
theorem lp_inv {α : Type} {s1 : Nat → α → α} {I : Nat → α → Prop} {b : Nat} (h : ∀ k a, k < b → I k a → I (k + 1) (s1 k a)) :
    ∀ m k a, k + m = b → I k a → I b (lp s1 m k a)
  | 0, k, a, e, hI => by
    have : k = b := by omega
    subst this
    exact hI
  | m + 1, k, a, e, hI => lp_inv h m (k + 1) _ (by omega) (h k a (by omega) hI)
theorem lp_congr {α : Type} {s1 s2 : Nat → α → α} {b : Nat} (h : ∀ k a, k < b → s1 k a = s2 k a) : ∀ m k a, k + m = b → lp s1 m k a = lp s2 m k a
  | 0, k, a, e => rfl
  | m + 1, k, a, e => by
    unfold lp
    rw [h k a (by omega)]
    exact lp_congr h m (k + 1) _ (by omega)
theorem k_nle {k b : Nat} (hk : k < b) (hb : b ≤ 100000) : ¬ Int32.ofNat b ≤ Int32.ofNat k := fun q => by have := (k_le (by omega) (by omega)).mp q; omega
theorem k_rfl (b : Nat) : Int32.ofNat b ≤ Int32.ofNat b := Int32.le_refl _
theorem WC.b {c : CT} (w : WC c) (t : Nat) (ht : t < 8) : c t ≤ 100 := by
  obtain ⟨w0, w1, w2, w3, w4, w5, w6, w7⟩ := w
  rcases (show t = 0 ∨ t = 1 ∨ t = 2 ∨ t = 3 ∨ t = 4 ∨ t = 5 ∨ t = 6 ∨ t = 7 by omega) with rfl | rfl | rfl | rfl | rfl | rfl | rfl | rfl <;> omega
section ACC
variable {p o : Nat} {P : PT} {c : CT} {N : Nat → Int32} {h : MH}
theorem CD.b0 (C : CD p P c N h) : c 0 ≤ 100000 := Nat.le_trans (C.2.1.b 0 (by decide)) (by decide)
theorem MM.b0 (C : MM o P c N h) : c 0 ≤ 100000 := Nat.le_trans (C.2.2.2.1.b 0 (by decide)) (by decide)
theorem CD.b1 (C : CD p P c N h) : c 1 ≤ 100000 := Nat.le_trans (C.2.1.b 1 (by decide)) (by decide)
theorem MM.b1 (C : MM o P c N h) : c 1 ≤ 100000 := Nat.le_trans (C.2.2.2.1.b 1 (by decide)) (by decide)
theorem CD.b2 (C : CD p P c N h) : c 2 ≤ 100000 := Nat.le_trans (C.2.1.b 2 (by decide)) (by decide)
theorem MM.b2 (C : MM o P c N h) : c 2 ≤ 100000 := Nat.le_trans (C.2.2.2.1.b 2 (by decide)) (by decide)
theorem CD.b3 (C : CD p P c N h) : c 3 ≤ 100000 := Nat.le_trans (C.2.1.b 3 (by decide)) (by decide)
theorem MM.b3 (C : MM o P c N h) : c 3 ≤ 100000 := Nat.le_trans (C.2.2.2.1.b 3 (by decide)) (by decide)
theorem CD.b4 (C : CD p P c N h) : c 4 ≤ 100000 := Nat.le_trans (C.2.1.b 4 (by decide)) (by decide)
theorem MM.b4 (C : MM o P c N h) : c 4 ≤ 100000 := Nat.le_trans (C.2.2.2.1.b 4 (by decide)) (by decide)
theorem CD.b5 (C : CD p P c N h) : c 5 ≤ 100000 := Nat.le_trans (C.2.1.b 5 (by decide)) (by decide)
theorem MM.b5 (C : MM o P c N h) : c 5 ≤ 100000 := Nat.le_trans (C.2.2.2.1.b 5 (by decide)) (by decide)
theorem CD.b6 (C : CD p P c N h) : c 6 ≤ 100000 := Nat.le_trans (C.2.1.b 6 (by decide)) (by decide)
theorem MM.b6 (C : MM o P c N h) : c 6 ≤ 100000 := Nat.le_trans (C.2.2.2.1.b 6 (by decide)) (by decide)
theorem CD.b7 (C : CD p P c N h) : c 7 ≤ 100000 := Nat.le_trans (C.2.1.b 7 (by decide)) (by decide)
theorem MM.b7 (C : MM o P c N h) : c 7 ≤ 100000 := Nat.le_trans (C.2.2.2.1.b 7 (by decide)) (by decide)
theorem CD.t0 (C : CD p P c N h) : gR h p 7 0 = some (p + 1) := C.tab 0 (by decide)
theorem CD.a0 (C : CD p P c N h) {i : Nat} (hi : i < c 2) : lI h (p + 1) (Int32.ofNat i) = some (P 0 i) := C.at 0 (by decide) hi
theorem MM.t0 (C : MM o P c N h) : gR h o 12 9 = some (o + 1) := C.tab 0 (by decide)
theorem MM.a0 (C : MM o P c N h) {i : Nat} (hi : i < c 2) : lI h (o + 1) (Int32.ofNat i) = some (P 0 i) := C.at 0 (by decide) hi
theorem CD.t1 (C : CD p P c N h) : gR h p 7 1 = some (p + 2) := C.tab 1 (by decide)
theorem CD.a1 (C : CD p P c N h) {i : Nat} (hi : i < c 2) : lI h (p + 2) (Int32.ofNat i) = some (P 1 i) := C.at 1 (by decide) hi
theorem MM.t1 (C : MM o P c N h) : gR h o 12 11 = some (o + 3) := C.tab 1 (by decide)
theorem MM.a1 (C : MM o P c N h) {i : Nat} (hi : i < c 2) : lI h (o + 3) (Int32.ofNat i) = some (P 1 i) := C.at 1 (by decide) hi
theorem CD.t2 (C : CD p P c N h) : gR h p 7 2 = some (p + 3) := C.tab 2 (by decide)
theorem CD.a2 (C : CD p P c N h) {i : Nat} (hi : i < c 3) : lI h (p + 3) (Int32.ofNat i) = some (P 2 i) := C.at 2 (by decide) hi
theorem MM.t2 (C : MM o P c N h) : gR h o 12 13 = some (o + 5) := C.tab 2 (by decide)
theorem MM.a2 (C : MM o P c N h) {i : Nat} (hi : i < c 3) : lI h (o + 5) (Int32.ofNat i) = some (P 2 i) := C.at 2 (by decide) hi
theorem CD.t3 (C : CD p P c N h) : gR h p 7 3 = some (p + 4) := C.tab 3 (by decide)
theorem CD.a3 (C : CD p P c N h) {i : Nat} (hi : i < c 3) : lI h (p + 4) (Int32.ofNat i) = some (P 3 i) := C.at 3 (by decide) hi
theorem MM.t3 (C : MM o P c N h) : gR h o 12 14 = some (o + 6) := C.tab 3 (by decide)
theorem MM.a3 (C : MM o P c N h) {i : Nat} (hi : i < c 3) : lI h (o + 6) (Int32.ofNat i) = some (P 3 i) := C.at 3 (by decide) hi
theorem CD.t4 (C : CD p P c N h) : gR h p 7 4 = some (p + 5) := C.tab 4 (by decide)
theorem CD.a4 (C : CD p P c N h) {i : Nat} (hi : i < c 4) : lI h (p + 5) (Int32.ofNat i) = some (P 4 i) := C.at 4 (by decide) hi
theorem MM.t4 (C : MM o P c N h) : gR h o 12 15 = some (o + 7) := C.tab 4 (by decide)
theorem MM.a4 (C : MM o P c N h) {i : Nat} (hi : i < c 4) : lI h (o + 7) (Int32.ofNat i) = some (P 4 i) := C.at 4 (by decide) hi
theorem CD.t5 (C : CD p P c N h) : gR h p 7 5 = some (p + 6) := C.tab 5 (by decide)
theorem CD.a5 (C : CD p P c N h) {i : Nat} (hi : i < c 4) : lI h (p + 6) (Int32.ofNat i) = some (P 5 i) := C.at 5 (by decide) hi
theorem MM.t5 (C : MM o P c N h) : gR h o 12 16 = some (o + 8) := C.tab 5 (by decide)
theorem MM.a5 (C : MM o P c N h) {i : Nat} (hi : i < c 4) : lI h (o + 8) (Int32.ofNat i) = some (P 5 i) := C.at 5 (by decide) hi
theorem CD.t6 (C : CD p P c N h) : gR h p 7 6 = some (p + 7) := C.tab 6 (by decide)
theorem CD.a6 (C : CD p P c N h) {i : Nat} (hi : i < c 4) : lI h (p + 7) (Int32.ofNat i) = some (P 6 i) := C.at 6 (by decide) hi
theorem MM.t6 (C : MM o P c N h) : gR h o 12 17 = some (o + 9) := C.tab 6 (by decide)
theorem MM.a6 (C : MM o P c N h) {i : Nat} (hi : i < c 4) : lI h (o + 9) (Int32.ofNat i) = some (P 6 i) := C.at 6 (by decide) hi
theorem CD.t7 (C : CD p P c N h) : gR h p 7 7 = some (p + 8) := C.tab 7 (by decide)
theorem CD.a7 (C : CD p P c N h) {i : Nat} (hi : i < c 5) : lI h (p + 8) (Int32.ofNat i) = some (P 7 i) := C.at 7 (by decide) hi
theorem MM.t7 (C : MM o P c N h) : gR h o 12 19 = some (o + 11) := C.tab 7 (by decide)
theorem MM.a7 (C : MM o P c N h) {i : Nat} (hi : i < c 5) : lI h (o + 11) (Int32.ofNat i) = some (P 7 i) := C.at 7 (by decide) hi
theorem CD.t8 (C : CD p P c N h) : gR h p 7 8 = some (p + 9) := C.tab 8 (by decide)
theorem CD.a8 (C : CD p P c N h) {i : Nat} (hi : i < c 5) : lI h (p + 9) (Int32.ofNat i) = some (P 8 i) := C.at 8 (by decide) hi
theorem MM.t8 (C : MM o P c N h) : gR h o 12 20 = some (o + 12) := C.tab 8 (by decide)
theorem MM.a8 (C : MM o P c N h) {i : Nat} (hi : i < c 5) : lI h (o + 12) (Int32.ofNat i) = some (P 8 i) := C.at 8 (by decide) hi
theorem CD.t9 (C : CD p P c N h) : gR h p 7 9 = some (p + 10) := C.tab 9 (by decide)
theorem CD.a9 (C : CD p P c N h) {i : Nat} (hi : i < c 7) : lI h (p + 10) (Int32.ofNat i) = some (P 9 i) := C.at 9 (by decide) hi
theorem MM.t9 (C : MM o P c N h) : gR h o 12 21 = some (o + 13) := C.tab 9 (by decide)
theorem MM.a9 (C : MM o P c N h) {i : Nat} (hi : i < c 7) : lI h (o + 13) (Int32.ofNat i) = some (P 9 i) := C.at 9 (by decide) hi
theorem CD.t10 (C : CD p P c N h) : gR h p 7 10 = some (p + 11) := C.tab 10 (by decide)
theorem CD.a10 (C : CD p P c N h) {i : Nat} (hi : i < c 7) : lI h (p + 11) (Int32.ofNat i) = some (P 10 i) := C.at 10 (by decide) hi
theorem MM.t10 (C : MM o P c N h) : gR h o 12 22 = some (o + 14) := C.tab 10 (by decide)
theorem MM.a10 (C : MM o P c N h) {i : Nat} (hi : i < c 7) : lI h (o + 14) (Int32.ofNat i) = some (P 10 i) := C.at 10 (by decide) hi
theorem CD.t11 (C : CD p P c N h) : gR h p 7 11 = some (p + 12) := C.tab 11 (by decide)
theorem CD.a11 (C : CD p P c N h) {i : Nat} (hi : i < c 7) : lI h (p + 12) (Int32.ofNat i) = some (P 11 i) := C.at 11 (by decide) hi
theorem MM.t11 (C : MM o P c N h) : gR h o 12 23 = some (o + 15) := C.tab 11 (by decide)
theorem MM.a11 (C : MM o P c N h) {i : Nat} (hi : i < c 7) : lI h (o + 15) (Int32.ofNat i) = some (P 11 i) := C.at 11 (by decide) hi
theorem CD.str (C : CD p P c N h) : gR h 0 11 5 = some 71 := gR_at (C.1.sh 0 rfl) (C.1.rf 0 rfl rfl)
theorem CD.strK (C : CD p P c N h) : ck h 71 9 = some () := ck_at (C.1.sh 71 rfl)
theorem CD.strD (C : CD p P c N h) : gR h 71 9 0 = some 26 := gR_at (C.1.sh 71 rfl) (C.1.rf 12 rfl rfl)
theorem CD.ben (C : CD p P c N h) : gR h 0 11 6 = some 72 := gR_at (C.1.sh 0 rfl) (C.1.rf 0 rfl rfl)
theorem CD.benK (C : CD p P c N h) : ck h 72 0 = some () := ck_at (C.1.sh 72 rfl)
theorem CD.benD (C : CD p P c N h) : gR h 72 0 0 = some 26 := gR_at (C.1.sh 72 rfl) (C.1.rf 13 rfl rfl)
theorem CD.gam (C : CD p P c N h) : gR h 0 11 7 = some 73 := gR_at (C.1.sh 0 rfl) (C.1.rf 0 rfl rfl)
theorem CD.gamK (C : CD p P c N h) : ck h 73 2 = some () := ck_at (C.1.sh 73 rfl)
theorem CD.gamD (C : CD p P c N h) : gR h 73 2 0 = some 26 := gR_at (C.1.sh 73 rfl) (C.1.rf 14 rfl rfl)
theorem CD.dra (C : CD p P c N h) : gR h 0 11 8 = some 74 := gR_at (C.1.sh 0 rfl) (C.1.rf 0 rfl rfl)
theorem CD.draK (C : CD p P c N h) : ck h 74 1 = some () := ck_at (C.1.sh 74 rfl)
theorem CD.draD (C : CD p P c N h) : gR h 74 1 0 = some 26 := gR_at (C.1.sh 74 rfl) (C.1.rf 15 rfl rfl)
theorem CD.kee (C : CD p P c N h) : gR h 0 11 4 = some 64 := gR_at (C.1.sh 0 rfl) (C.1.rf 0 rfl rfl)
theorem CD.keeK (C : CD p P c N h) : ck h 64 3 = some () := ck_at (C.1.sh 64 rfl)
theorem CD.keeD (C : CD p P c N h) : gR h 64 3 0 = some 26 := gR_at (C.1.sh 64 rfl) (C.1.rf 11 rfl rfl)
theorem CD.pst (C : CD p P c N h) : gR h 0 11 3 = some 42 := gR_at (C.1.sh 0 rfl) (C.1.rf 0 rfl rfl)
theorem CD.pstK (C : CD p P c N h) : ck h 42 6 = some () := ck_at (C.1.sh 42 rfl)
theorem CD.rea (C : CD p P c N h) : gR h 0 11 1 = some 3 := gR_at (C.1.sh 0 rfl) (C.1.rf 0 rfl rfl)
theorem CD.reaK (C : CD p P c N h) : ck h 3 8 = some () := ck_at (C.1.sh 3 rfl)
theorem CD.tap (C : CD p P c N h) : gR h 0 11 0 = some 1 := gR_at (C.1.sh 0 rfl) (C.1.rf 0 rfl rfl)
theorem CD.tapK (C : CD p P c N h) : ck h 1 10 = some () := ck_at (C.1.sh 1 rfl)
theorem CD.opn (C : CD p P c N h) : gI h 0 11 9 = some (h.1 0 9) := gI_at (C.1.sh 0 rfl)
/-! marks -/
theorem x_shl {n : Nat} (hn : n ≤ 5) : (1 : Int32) <<< (Int32.ofNat n &&& 31) = Int32.ofNat (2 ^ n) := by
  rcases (show n = 0 ∨ n = 1 ∨ n = 2 ∨ n = 3 ∨ n = 4 ∨ n = 5 by omega) with rfl | rfl | rfl | rfl | rfl | rfl <;> decide
theorem x_sets {n : Nat} (hn : n ≤ 5) : 2 ^ n ≤ 32 := by
  rcases (show n = 0 ∨ n = 1 ∨ n = 2 ∨ n = 3 ∨ n = 4 ∨ n = 5 by omega) with rfl | rfl | rfl | rfl | rfl | rfl <;> decide
theorem CD.m5 (C : CD p P c N h) : c 1 ≤ 5 := C.2.1.2.1
theorem CD.p5 (C : CD p P c N h) : c 2 ≤ 5 := C.2.1.2.2.1
theorem CD.s4 (C : CD p P c N h) : c 3 ≤ 4 := C.2.1.2.2.2.1
theorem CD.r10 (C : CD p P c N h) : c 4 ≤ 10 := C.2.1.2.2.2.2.1
theorem CD.h3 (C : CD p P c N h) : c 5 ≤ 3 := C.2.1.2.2.2.2.2.1
theorem CD.pr4 (C : CD p P c N h) : c 7 ≤ 4 := C.2.1.2.2.2.2.2.2.2
theorem MM.m5 (C : MM o P c N h) : c 1 ≤ 5 := C.2.2.2.1.2.1
theorem MM.p5 (C : MM o P c N h) : c 2 ≤ 5 := C.2.2.2.1.2.2.1
theorem MM.s4 (C : MM o P c N h) : c 3 ≤ 4 := C.2.2.2.1.2.2.2.1
theorem MM.r10 (C : MM o P c N h) : c 4 ≤ 10 := C.2.2.2.1.2.2.2.2.1
theorem MM.h3 (C : MM o P c N h) : c 5 ≤ 3 := C.2.2.2.1.2.2.2.2.2.1
theorem MM.pr4 (C : MM o P c N h) : c 7 ≤ 4 := C.2.2.2.1.2.2.2.2.2.2.2
theorem c_markSets (C : CD p P c N h) : fX7_markSets h p = some (Int32.ofNat (2 ^ c 1), h) := by
  simp only [fX7_markSets, C.c1, bd_some, x_shl C.m5]
theorem m_allMarks (C : MM o P c N h) : fX13_allMarks h 77 = some (Int32.ofNat (2 ^ c 1), h) := by
  simp only [fX13_allMarks, C.off, C.c1, bd_some, x_shl C.m5]
theorem c_isVerdict (x : Int32) : fX11_isVerdict h x = some (if inB x 3 = true then 1 else 0, h) := by
  simp only [fX11_isVerdict]
  rw [show (3 : Int32) = Int32.ofNat 3 from rfl, inB_if]; split <;> rfl
theorem m_isVerdict (x : Int32) : fX13_isVerdict h x = some (if inB x 3 = true then 1 else 0, h) := by
  simp only [fX13_isVerdict]
  rw [show (3 : Int32) = Int32.ofNat 3 from rfl, inB_if]; split <;> rfl
theorem inB_VD {x : Int32} (hx : inB x 3 = true) : VD x := by
  obtain ⟨i, hi, rfl⟩ := inB_at (by decide) hx
  rcases (show i = 0 ∨ i = 1 ∨ i = 2 by omega) with rfl | rfl | rfl
  · exact Or.inl rfl
  · exact Or.inr (Or.inl rfl)
  · exact Or.inr (Or.inr rfl)
end ACC
