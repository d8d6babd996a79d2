/-! ===== KEPT: the class's search ===== -/
theorem k_shl12 : ∀ k, k < 12 → (1 : Int32) <<< (Int32.ofNat k &&& 31) = Int32.ofNat (2 ^ k) := by decide +kernel
theorem k_or (a b : Nat) : Int32.ofNat a ||| Int32.ofNat b = Int32.ofNat (a ||| b) := by
  apply Int32.toBitVec.inj
  show BitVec.ofNat 32 a ||| BitVec.ofNat 32 b = BitVec.ofNat 32 (a ||| b)
  exact BitVec.ofNat_or.symm
theorem k_and (a b : Nat) : Int32.ofNat a &&& Int32.ofNat b = Int32.ofNat (a &&& b) := by
  apply Int32.toBitVec.inj
  show BitVec.ofNat 32 a &&& BitVec.ofNat 32 b = BitVec.ofNat 32 (a &&& b)
  exact BitVec.ofNat_and.symm
theorem k_sarK : ∀ k, k < 31 → ((Int32.ofNat k &&& 31 : Int32).toBitVec.smod 32).toNat = k := by decide +kernel
theorem k_sar {X k : Nat} (hX : X < 2147483648) (hk : k < 31) : Int32.ofNat X >>> (Int32.ofNat k &&& 31) = Int32.ofNat (X / 2 ^ k) := by
  have hle : X / 2 ^ k ≤ X := Nat.div_le_self _ _
  apply Int32.toBitVec.inj
  show (BitVec.ofNat 32 X).sshiftRight ((Int32.ofNat k &&& 31 : Int32).toBitVec.smod 32).toNat = BitVec.ofNat 32 (X / 2 ^ k)
  rw [k_sarK k hk, BitVec.sshiftRight_eq_of_msb_false]
  · apply BitVec.eq_of_toNat_eq
    rw [BitVec.toNat_ushiftRight, BitVec.toNat_ofNat, BitVec.toNat_ofNat, Nat.mod_eq_of_lt (show X < 2 ^ 32 by omega), Nat.mod_eq_of_lt (show X / 2 ^ k < 2 ^ 32 by omega), Nat.shiftRight_eq_div_pow]
  · rw [BitVec.msb_eq_false_iff_two_mul_lt, BitVec.toNat_ofNat, Nat.mod_eq_of_lt (show X < 2 ^ 32 by omega)]
    omega
theorem bt_N {X k : Nat} (hX : X < 2147483648) (hk : k < 31) : bt (Int32.ofNat X) k = decide (X / 2 ^ k % 2 = 1) := by
  unfold bt
  rw [k_sar hX hk, show (1 : Int32) = Int32.ofNat 1 from rfl, k_and, Nat.and_one_is_mod]
  have e := k_eq (i := X / 2 ^ k % 2) (n := 1) (by omega) (by decide)
  simp only [e]
theorem LN_or {b : Nat → Bool} {n : Nat} (hn : n < 12) : Int32.ofNat (LN b n) ||| (1 <<< (Int32.ofNat n &&& 31)) = Int32.ofNat (LN b n + 2 ^ n) := by
  rw [k_shl12 n hn, k_or]
  have e := Nat.two_pow_add_eq_or_of_lt (LN_lt b n) 1
  rw [Nat.mul_one] at e
  rw [Nat.or_comm, ← e, Nat.add_comm]
theorem LN_flat {b : Nat → Bool} {n : Nat} : ∀ m, (∀ k, n ≤ k → k < n + m → b k = false) → LN b (n + m) = LN b n
  | 0, _ => rfl
  | m + 1, h => by
    show (if b (n + m) = true then LN b (n + m) + 2 ^ (n + m) else LN b (n + m)) = _
    rw [h (n + m) (by omega) (by omega), LN_flat m (fun k h1 h2 => h k h1 (by omega))]
    rfl
theorem LN_ne {b : Nat → Bool} {n k : Nat} (hk : k < n) (hb : b k = true) : LN b n ≠ 0 := fun e => by
  have := LN_bit b n k hk
  rw [e, Nat.zero_div, hb] at this
  exact absurd this (by decide)
/-- a pair by which a paper may be kept -/
def okP (P : PT) (c : CT) (N : Nat → Int32) (I0 : Nat → Nat) (p q : Nat) : Bool := decide (p < c 2) && decide (¬ P 1 p = -2) && decide (prK (P 7 (q % c 5)) (sayN P c N (q / c 5) p) = P 1 p) && decide (0 < I0 (q / c 5))
def bF (P : PT) (c : CT) (N : Nat → Int32) (I0 : Nat → Nat) (p k : Nat) : Bool := decide (k / 3 < c 3) && decide (k % 3 < c 5) && okP P c N I0 p (k / 3 * c 5 + k % 3)
def fxN (P : PT) (c : CT) (N : Nat → Int32) (I0 : Nat → Nat) (p : Nat) : Nat := LN (bF P c N I0 p) 12
/-- papers from p on, m of them, that may be kept -/
def stN (P : PT) (c : CT) (N : Nat → Int32) (I0 : Nat → Nat) : Nat → Nat → Nat
  | 0, _ => 0
  | m + 1, p => stN P c N I0 m (p + 1) + if fxN P c N I0 p = 0 then 0 else 1
def stl (P : PT) (c : CT) (N : Nat → Int32) (I0 : Nat → Nat) (p : Nat) : Nat := stN P c N I0 (c 2 - p) p
def updF (I : Nat → Nat) (s x : Nat) : Nat → Nat := fun k => if k = s then x else I k
def kEnc (H : Nat) (x : Option Nat) : Int32 := match x with
  | none => -2
  | some q => 10 * Int32.ofNat (q / H) + Int32.ofNat (q % H)
def enN (P : PT) (c : CT) (N : Nat → Int32) (I0 : Nat → Nat) : Nat := let a := (if 2 * c 5 < smN I0 (c 3) then 2 * c 5 else smN I0 (c 3)); if a < stl P c N I0 0 then a else stl P c N I0 0
section KEC
variable {p : Nat} {P : PT} {c : CT} {N : Nat → Int32} {I0 : Nat → Nat} {h h0 h1 : MH} {I Hd : Nat → Nat} {T : KT} {i : Nat} {r : KRs}
theorem pq_div {s j H : Nat} (hj : j < H) : (s * H + j) / H = s ∧ (s * H + j) % H = j := by
  constructor
  · rw [Nat.mul_comm, Nat.mul_add_div (by omega), Nat.div_eq_of_lt hj, Nat.add_zero]
  · rw [Nat.mul_comm, Nat.mul_add_mod, Nat.mod_eq_of_lt hj]
theorem pq_lt {q S H : Nat} (hq : q < S * H) : q / H < S ∧ q % H < H := by
  have hH : 0 < H := by
    rcases Nat.eq_zero_or_pos H with e | e
    · rw [e, Nat.mul_zero] at hq; omega
    · exact e
  exact ⟨(Nat.div_lt_iff_lt_mul hH).mpr hq, Nat.mod_lt q hH⟩
theorem stl_s {i : Nat} (hi : i < c 2) : stl P c N I0 i = stl P c N I0 (i + 1) + if fxN P c N I0 i = 0 then 0 else 1 := by
  unfold stl
  rw [show c 2 - i = (c 2 - (i + 1)) + 1 by omega]
  rfl
theorem stl_0 {i : Nat} (hi : c 2 ≤ i) : stl P c N I0 i = 0 := by
  unfold stl
  rw [show c 2 - i = 0 by omega]
  rfl
theorem stN_le : ∀ m i, stN P c N I0 m i ≤ m
  | 0, i => Nat.le_refl 0
  | m + 1, i => by have := stN_le m (i + 1); unfold stN; split <;> omega
theorem stl_le (i : Nat) : stl P c N I0 i ≤ c 2 := Nat.le_trans (stN_le _ _) (Nat.sub_le _ _)
theorem stl_U (hs : c 3 ≤ 4) (hh : c 5 ≤ 3) : ∀ i, stl P c N I0 (i + 1) ≤ stl P c N I0 i ∧ (∀ q, q < c 3 * c 5 → okP P c N I0 i q = true → stl P c N I0 (i + 1) + 1 ≤ stl P c N I0 i) := by
  intro i
  rcases Nat.lt_or_ge i (c 2) with hi | hi
  · rw [stl_s hi]
    refine ⟨by omega, fun q hq hok => ?_⟩
    obtain ⟨q1, q2⟩ := pq_lt hq
    have hne : fxN P c N I0 i ≠ 0 := LN_ne (k := q / c 5 * 3 + q % c 5) (by omega) (by
      unfold bF
      have e1 : (q / c 5 * 3 + q % c 5) / 3 = q / c 5 := by omega
      have e2 : (q / c 5 * 3 + q % c 5) % 3 = q % c 5 := by omega
      rw [e1, e2, Nat.div_add_mod', hok]
      simp [q1, q2])
    rw [if_neg hne]
    exact Nat.le_refl _
  · rw [stl_0 hi, stl_0 (by omega)]
    refine ⟨Nat.le_refl _, fun q hq hok => ?_⟩
    unfold okP at hok
    simp only [Bool.and_eq_true, decide_eq_true_eq] at hok
    have := hok.1.1.1
    omega
/-- the keeper's cells: I ink left, Hd hands left, T tried (papers below i), r found -/
def kRel (P : PT) (c : CT) (N : Nat → Int32) (I0 : Nat → Nat) (h0 : MH) (I Hd : Nat → Nat) (T : KT) (i : Nat) (r : KRs) (h : MH) : Prop :=
  h.2 = h0.2 ∧ (∀ b k, b < 64 ∨ 70 < b → h.1 b k = h0.1 b k) ∧ (∀ j, j < c 2 → h.1 65 j = Int32.ofNat (fxN P c N I0 j)) ∧ (∀ j, j ≤ c 2 → h.1 66 j = Int32.ofNat (stl P c N I0 j)) ∧ h.1 64 8 = Int32.ofNat (enN P c N I0) ∧
  (∀ s, s < c 3 → h.1 67 s = Int32.ofNat (I s)) ∧ (∀ j, j < c 5 → h.1 68 j = Int32.ofNat (Hd j)) ∧ (∀ j, j < i → h.1 69 j = kEnc (c 5) (T j)) ∧ h.1 64 7 = iZ r.1 ∧ (-1 ≤ r.1 ∧ r.1 ≤ 900) ∧ ∀ T', r.2 = some T' → ∀ j, j < c 2 → h.1 70 j = kEnc (c 5) (T' j)
theorem kRel.cd (K : kRel P c N I0 h0 I Hd T i r h) (C : CD p P c N h0) : CD p P c N h := C.same2 (by rw [K.1]) (fun b k q1 q2 => K.2.1 b k (by omega))
theorem kRel.ink (K : kRel P c N I0 h0 I Hd T i r h) (s x : Nat) : kRel P c N I0 h0 (updF I s x) Hd T i r (sI h 67 s (Int32.ofNat x)) := by
  obtain ⟨k1, k2, k3, k4, k5, k6, k7, k8, k9, k10, k11⟩ := K
  refine ⟨k1, fun b k q => by rw [sI_ne (by omega)]; exact k2 b k q, fun j hj => by rw [sI_ne (by omega)]; exact k3 j hj, fun j hj => by rw [sI_ne (by omega)]; exact k4 j hj, by rw [sI_ne (by omega)]; exact k5, fun u hu => ?_, fun j hj => by rw [sI_ne (by omega)]; exact k7 j hj, fun j hj => by rw [sI_ne (by omega)]; exact k8 j hj, by rw [sI_ne (by omega)]; exact k9, k10, fun T' e j hj => by rw [sI_ne (by omega)]; exact k11 T' e j hj⟩
  by_cases q : u = s
  · subst q; rw [sI_eq]; unfold updF; rw [if_pos rfl]
  · rw [sI_ne (by omega), k6 u hu]; unfold updF; rw [if_neg q]
theorem kRel.hnd (K : kRel P c N I0 h0 I Hd T i r h) (s x : Nat) : kRel P c N I0 h0 I (updF Hd s x) T i r (sI h 68 s (Int32.ofNat x)) := by
  obtain ⟨k1, k2, k3, k4, k5, k6, k7, k8, k9, k10, k11⟩ := K
  refine ⟨k1, fun b k q => by rw [sI_ne (by omega)]; exact k2 b k q, fun j hj => by rw [sI_ne (by omega)]; exact k3 j hj, fun j hj => by rw [sI_ne (by omega)]; exact k4 j hj, by rw [sI_ne (by omega)]; exact k5, fun j hj => by rw [sI_ne (by omega)]; exact k6 j hj, fun u hu => ?_, fun j hj => by rw [sI_ne (by omega)]; exact k8 j hj, by rw [sI_ne (by omega)]; exact k9, k10, fun T' e j hj => by rw [sI_ne (by omega)]; exact k11 T' e j hj⟩
  by_cases q : u = s
  · subst q; rw [sI_eq]; unfold updF; rw [if_pos rfl]
  · rw [sI_ne (by omega), k7 u hu]; unfold updF; rw [if_neg q]
theorem kRel.trd (K : kRel P c N I0 h0 I Hd T i r h) (x : Option Nat) : kRel P c N I0 h0 I Hd (setT T i x) (i + 1) r (sI h 69 i (kEnc (c 5) x)) := by
  obtain ⟨k1, k2, k3, k4, k5, k6, k7, k8, k9, k10, k11⟩ := K
  refine ⟨k1, fun b k q => by rw [sI_ne (by omega)]; exact k2 b k q, fun j hj => by rw [sI_ne (by omega)]; exact k3 j hj, fun j hj => by rw [sI_ne (by omega)]; exact k4 j hj, by rw [sI_ne (by omega)]; exact k5, fun j hj => by rw [sI_ne (by omega)]; exact k6 j hj, fun j hj => by rw [sI_ne (by omega)]; exact k7 j hj, fun u hu => ?_, by rw [sI_ne (by omega)]; exact k9, k10, fun T' e j hj => by rw [sI_ne (by omega)]; exact k11 T' e j hj⟩
  by_cases q : u = i
  · subst q; rw [sI_eq]; unfold setT; rw [if_pos rfl]
  · rw [sI_ne (by omega), k8 u (by omega)]; unfold setT; rw [if_neg q]
theorem kRel.less {x : Option Nat} (K : kRel P c N I0 h0 I Hd (setT T i x) (i + 1) r h) : kRel P c N I0 h0 I Hd T i r h := by
  obtain ⟨k1, k2, k3, k4, k5, k6, k7, k8, k9, k10, k11⟩ := K
  exact ⟨k1, k2, k3, k4, k5, k6, k7, fun j hj => by rw [k8 j (by omega)]; unfold setT; rw [if_neg (by omega)], k9, k10, k11⟩
theorem kRel.congr {I' Hd' : Nat → Nat} (K : kRel P c N I0 h0 I Hd T i r h) (e1 : I' = I) (e2 : Hd' = Hd) : kRel P c N I0 h0 I' Hd' T i r h := by rw [e1, e2]; exact K
theorem dec1_upd (I : Nat → Nat) (s : Nat) : dec1 I s = updF I s (I s - 1) := by
  funext k; unfold dec1 updF
  by_cases q : k = s
  · rw [if_pos q, if_pos q, q]
  · rw [if_neg q, if_neg q]
theorem inc_upd {I : Nat → Nat} {s : Nat} (h : 0 < I s) : I = updF (dec1 I s) s (dec1 I s s + 1) := by
  funext k
  by_cases q : k = s
  · subst q; unfold updF dec1; simp only [if_true]; omega
  · unfold updF dec1; simp only [if_neg q]
theorem CD.kee1 (C : CD p P c N h) (f : Nat) (hf : f < 7) : gR h 64 3 f = some (if f = 0 then 26 else 64 + f) := by
  rcases (show f = 0 ∨ f = 1 ∨ f = 2 ∨ f = 3 ∨ f = 4 ∨ f = 5 ∨ f = 6 by omega) with rfl | rfl | rfl | rfl | rfl | rfl | rfl <;> exact gR_at (C.1.sh 64 rfl) (C.1.rf 11 rfl rfl)
theorem CD.q1 (C : CD p P c N h) : gR h 64 3 1 = some 65 := C.kee1 1 (by decide)
theorem CD.q2 (C : CD p P c N h) : gR h 64 3 2 = some 66 := C.kee1 2 (by decide)
theorem CD.q3 (C : CD p P c N h) : gR h 64 3 3 = some 67 := C.kee1 3 (by decide)
theorem CD.q4 (C : CD p P c N h) : gR h 64 3 4 = some 68 := C.kee1 4 (by decide)
theorem CD.q5 (C : CD p P c N h) : gR h 64 3 5 = some 69 := C.kee1 5 (by decide)
theorem CD.q6 (C : CD p P c N h) : gR h 64 3 6 = some 70 := C.kee1 6 (by decide)
theorem k_nn {x : Nat} (hx : x < 2147483648) : (Int32.ofNat x ≤ 0) ↔ ¬ 0 < x := by rw [k_le0 hx]; omega
theorem c_canPress (C : CD p P c N h0) (K : kRel P c N I0 h0 I Hd T i r h) (hI : ∀ s, I s ≤ 100) (hH : ∀ j, Hd j ≤ 2) {s j : Nat} (hs : s < c 3) (hj : j < c 5) (hi : i < c 2) :
    fX3_canPress h 64 (Int32.ofNat s) (Int32.ofNat j) (Int32.ofNat i) = some (if cnK (okP P c N I0) (c 5) i (s * c 5 + j) I Hd = true then 1 else 0, h) := by
  have C1 := K.cd C
  have h4 := C.s4
  have h3 := C.h3
  have h5 := C.p5
  obtain ⟨k1, k2, k3, k4, k5, k6, k7, k8, k9, k10, k11⟩ := K
  have l1 : lI h 65 (Int32.ofNat i) = some (Int32.ofNat (fxN P c N I0 i)) := by rw [lI_at (C1.1.sh 65 rfl) (show i < 5 by omega) (by decide), k3 i hi]
  have l2 : lI h 67 (Int32.ofNat s) = some (Int32.ofNat (I s)) := by rw [lI_at (C1.1.sh 67 rfl) (show s < 4 by omega) (by decide), k6 s hs]
  have l3 : lI h 68 (Int32.ofNat j) = some (Int32.ofNat (Hd j)) := by rw [lI_at (C1.1.sh 68 rfl) (show j < 3 by omega) (by decide), k7 j hj]
  have e3 : Int32.ofNat s * 3 + Int32.ofNat j = Int32.ofNat (s * 3 + j) := by rw [show (3 : Int32) = Int32.ofNat 3 from rfl, k_mul, k_add]
  have hlt := LN_lt (bF P c N I0 i) 12
  have hb : bt (Int32.ofNat (fxN P c N I0 i)) (s * 3 + j) = okP P c N I0 i (s * c 5 + j) := by
    rw [bt_N (by unfold fxN; omega) (by omega)]
    unfold fxN
    rw [LN_bit _ 12 (s * 3 + j) (by omega)]
    have eb : bF P c N I0 i (s * 3 + j) = okP P c N I0 i (s * c 5 + j) := by
      unfold bF
      rw [show (s * 3 + j) / 3 = s by omega, show (s * 3 + j) % 3 = j by omega]
      simp [hs, hj]
    rw [eb]
    cases okP P c N I0 i (s * c 5 + j) <;> rfl
  obtain ⟨d1, d2⟩ := pq_div (s := s) hj
  have hIs := hI s
  have hHj := hH j
  simp only [fX3_canPress, C1.q1, C1.q3, C1.q4, l1, e3, c_hasBit, hb, l2, l3, bd_some, bd2_some, k_nn (show I s < 2147483648 by omega), k_nn (show Hd j < 2147483648 by omega), cnK, d1, d2]
  by_cases z1 : okP P c N I0 i (s * c 5 + j) = true
  · by_cases z2 : 0 < I s
    · by_cases z3 : 0 < Hd j
      · simp [z1, z2, z3]
      · simp [z1, z2, z3]
    · simp [z1, z2]
  · simp [z1]
/-- what holds at a node -/
def kInv (P : PT) (c : CT) (N : Nat → Int32) (I0 : Nat → Nat) (I Hd : Nat → Nat) (i cnt : Nat) : Prop := (∀ s, I s ≤ 100) ∧ (∀ j, Hd j ≤ 2) ∧ cnt + smN I (c 3) = smN I0 (c 3) ∧ cnt + smN Hd (c 5) = 2 * c 5 ∧ cnt + stl P c N I0 i ≤ stl P c N I0 0 ∧ cnt ≤ i
theorem kInv.next (hU : stl P c N I0 (i + 1) ≤ stl P c N I0 i) {cnt : Nat} (K : kInv P c N I0 I Hd i cnt) : kInv P c N I0 I Hd (i + 1) cnt := by
  obtain ⟨a1, a2, a3, a4, a5, a6⟩ := K
  exact ⟨a1, a2, a3, a4, by omega, by omega⟩
theorem kInv.pair {cnt s j : Nat} (K : kInv P c N I0 I Hd i cnt) (hU : stl P c N I0 (i + 1) + 1 ≤ stl P c N I0 i) (hs : s < c 3) (hj : j < c 5) (z2 : 0 < I s) (z3 : 0 < Hd j) : kInv P c N I0 (dec1 I s) (dec1 Hd j) (i + 1) (cnt + 1) := by
  obtain ⟨a1, a2, a3, a4, a5, a6⟩ := K
  have e1 := smN_dec (c 3) hs z2
  have e2 := smN_dec (c 5) hj z3
  refine ⟨fun k => ?_, fun k => ?_, by omega, by omega, by omega, by omega⟩
  · have := a1 k; unfold dec1; split <;> omega
  · have := a2 k; unfold dec1; split <;> omega
/-- one pair is tried -/
theorem c_tryPair (C : CD p P c N h0) (K : kRel P c N I0 h0 I Hd T i r h) {cnt : Nat} (V : kInv P c N I0 I Hd i cnt) {s j d : Nat} (hs : s < c 3) (hj : j < c 5) (hi : i < c 2) (hc : cnK (okP P c N I0) (c 5) i (s * c 5 + j) I Hd = true)
    (kR : MH → Nat → Int32 → Int32 → Option MH)
    (HR : ∀ (h : MH) (cnt : Nat) (I Hd : Nat → Nat) (T : KT) (r : KRs), kInv P c N I0 I Hd (i + 1) cnt → kRel P c N I0 h0 I Hd T (i + 1) r h → ∃ h', kR h 64 (Int32.ofNat (i + 1)) (Int32.ofNat cnt) = some h' ∧ kRel P c N I0 h0 I Hd T (i + 1) (sr (okP P c N I0) (c 5) (c 3 * c 5) d (i + 1) cnt I Hd T r) h') :
    ∃ h', fX3_tryPair kR h 64 (Int32.ofNat s) (Int32.ofNat j) (Int32.ofNat i) (Int32.ofNat cnt) = some h' ∧ kRel P c N I0 h0 I Hd T i (stK (okP P c N I0) (c 5) (c 3 * c 5) d i cnt I Hd T (s * c 5 + j) r) h' := by
  have h4 := C.s4
  have h3 := C.h3
  have h5 := C.p5
  obtain ⟨d1, d2⟩ := pq_div (s := s) hj
  have hcc := hc
  unfold cnK at hcc
  simp only [Bool.and_eq_true, decide_eq_true_eq, d1, d2] at hcc
  obtain ⟨⟨z1, z2⟩, z3⟩ := hcc
  have hq : s * c 5 + j < c 3 * c 5 := by
    have : (s + 1) * c 5 ≤ c 3 * c 5 := Nat.mul_le_mul_right _ hs
    rw [Nat.succ_mul] at this
    omega
  have C0 := K.cd C
  have eE : (10 : Int32) * Int32.ofNat s + Int32.ofNat j = kEnc (c 5) (some (s * c 5 + j)) := by show _ = 10 * Int32.ofNat ((s * c 5 + j) / c 5) + Int32.ofNat ((s * c 5 + j) % c 5); rw [d1, d2]
  have K1 := K.trd (some (s * c 5 + j))
  have C1 := K1.cd C
  have K2 := K1.ink s (I s - 1)
  have C2 := K2.cd C
  have K3 := K2.hnd j (Hd j - 1)
  have C3 := K3.cd C
  have K3' := K3.congr (dec1_upd I s) (dec1_upd Hd j)
  have V' := V.pair ((stl_U h4 h3 i).2 _ hq z1) hs hj z2 z3
  obtain ⟨h', e', K4⟩ := HR _ (cnt + 1) _ _ _ r V' K3'
  have C4 := K4.cd C
  have hI := V.1 s
  have hH := V.2.1 j
  have es1 : Int32.ofNat (I s) - 1 = Int32.ofNat (I s - 1) := k_sub (b := 1) z2
  have es2 : Int32.ofNat (Hd j) - 1 = Int32.ofNat (Hd j - 1) := k_sub (b := 1) z3
  have t1 : tI h 69 (Int32.ofNat i) (kEnc (c 5) (some (s * c 5 + j))) = _ := tI_at (C0.1.sh 69 rfl) (show i < 5 by omega) (by decide)
  have l2 : lI (sI h 69 i (kEnc (c 5) (some (s * c 5 + j)))) 67 (Int32.ofNat s) = some (Int32.ofNat (I s)) := by rw [lI_at (C1.1.sh 67 rfl) (show s < 4 by omega) (by decide), K1.2.2.2.2.2.1 s hs]
  have t2 : tI (sI h 69 i (kEnc (c 5) (some (s * c 5 + j)))) 67 (Int32.ofNat s) (Int32.ofNat (I s - 1)) = _ := tI_at (C1.1.sh 67 rfl) (show s < 4 by omega) (by decide)
  have l3 : lI (sI (sI h 69 i (kEnc (c 5) (some (s * c 5 + j)))) 67 s (Int32.ofNat (I s - 1))) 68 (Int32.ofNat j) = some (Int32.ofNat (Hd j)) := by rw [lI_at (C2.1.sh 68 rfl) (show j < 3 by omega) (by decide), K2.2.2.2.2.2.2.1 j hj]
  have t3 : tI (sI (sI h 69 i (kEnc (c 5) (some (s * c 5 + j)))) 67 s (Int32.ofNat (I s - 1))) 68 (Int32.ofNat j) (Int32.ofNat (Hd j - 1)) = _ := tI_at (C2.1.sh 68 rfl) (show j < 3 by omega) (by decide)
  have l4 : lI h' 67 (Int32.ofNat s) = some (Int32.ofNat (dec1 I s s)) := by rw [lI_at (C4.1.sh 67 rfl) (show s < 4 by omega) (by decide), K4.2.2.2.2.2.1 s hs]
  have t4 : tI h' 67 (Int32.ofNat s) (Int32.ofNat (dec1 I s s + 1)) = _ := tI_at (C4.1.sh 67 rfl) (show s < 4 by omega) (by decide)
  have K5 := K4.ink s (dec1 I s s + 1)
  have C5 := K5.cd C
  have l5 : lI (sI h' 67 s (Int32.ofNat (dec1 I s s + 1))) 68 (Int32.ofNat j) = some (Int32.ofNat (dec1 Hd j j)) := by rw [lI_at (C5.1.sh 68 rfl) (show j < 3 by omega) (by decide), K5.2.2.2.2.2.2.1 j hj]
  have t5 : tI (sI h' 67 s (Int32.ofNat (dec1 I s s + 1))) 68 (Int32.ofNat j) (Int32.ofNat (dec1 Hd j j + 1)) = _ := tI_at (C5.1.sh 68 rfl) (show j < 3 by omega) (by decide)
  have K6 := K5.hnd j (dec1 Hd j j + 1)
  have K7 := (K6.congr (inc_upd z2) (inc_upd z3)).less
  refine ⟨sI (sI h' 67 s (Int32.ofNat (dec1 I s s + 1))) 68 j (Int32.ofNat (dec1 Hd j j + 1)), ?_, ?_⟩
  · simp only [fX3_tryPair, C0.q5, eE, t1, C1.q3, l2, es1, t2, C2.q4, l3, es2, t3, C3.keeK, k_succ, e', C4.q3, l4, t4, C5.q4, l5, t5, bd_some]
  · unfold stK
    rw [if_pos hc, d1, d2]
    exact K7
/-- the pairs of one stamp -/
theorem c_try80 (C : CD p P c N h0) {cnt d : Nat} (V : kInv P c N I0 I Hd i cnt) (hi : i < c 2) {s : Nat} (hs : s < c 3) (kR : MH → Nat → Int32 → Int32 → Option MH) (k63 : MH → Nat → Int32 → Int32 → Int32 → Option MH)
    (HR : ∀ (h : MH) (cnt : Nat) (I Hd : Nat → Nat) (T : KT) (r : KRs), kInv P c N I0 I Hd (i + 1) cnt → kRel P c N I0 h0 I Hd T (i + 1) r h → ∃ h', kR h 64 (Int32.ofNat (i + 1)) (Int32.ofNat cnt) = some h' ∧ kRel P c N I0 h0 I Hd T (i + 1) (sr (okP P c N I0) (c 5) (c 3 * c 5) d (i + 1) cnt I Hd T r) h')
    (K : kRel P c N I0 h0 I Hd T i (lp (stK (okP P c N I0) (c 5) (c 3 * c 5) d i cnt I Hd T) (s * c 5) 0 r) h) :
    ∃ h', fX3_tryPaper_80 kR k63 FU h 64 (Int32.ofNat i) (Int32.ofNat cnt) (Int32.ofNat s) (Int32.ofNat 0) = k63 h' 64 (Int32.ofNat i) (Int32.ofNat cnt) (Int32.ofNat (s + 1)) ∧
      kRel P c N I0 h0 I Hd T i (lp (stK (okP P c N I0) (c 5) (c 3 * c 5) d i cnt I Hd T) ((s + 1) * c 5) 0 r) h' := by
  obtain ⟨n, h', e, K'⟩ := lp_ex0 (F := fun n j h => fX3_tryPaper_80 kR k63 n h 64 (Int32.ofNat i) (Int32.ofNat cnt) (Int32.ofNat s) (Int32.ofNat j)) (I := fun j h => kRel P c N I0 h0 I Hd T i (lp (stK (okP P c N I0) (c 5) (c 3 * c 5) d i cnt I Hd T) (s * c 5 + j) 0 r) h) (b := c 5) C.b5
    (fun n j h hj K => by
      have C1 := K.cd C
      have h1 := k_nle hj C.b5
      have cp := c_canPress C K V.1 V.2.1 hs hj hi
      by_cases hc : cnK (okP P c N I0) (c 5) i (s * c 5 + j) I Hd = true
      · obtain ⟨h', e', K'⟩ := c_tryPair C K V hs hj hi hc kR HR
        refine ⟨h', ?_, ?_⟩
        · show bX3_tryPaper_80 kR k63 _ h 64 _ _ _ (Int32.ofNat j) = _
          simp only [bX3_tryPaper_80, C1.keeD, C1.plan, C1.c5, C1.keeK, cp, if_pos hc, e', bd_some, bd2_some, if_neg h1, i10, if_false, k_succ]
        · show kRel P c N I0 h0 I Hd T i (lp _ (s * c 5 + j + 1) 0 r) h'
          rw [lp_succ, Nat.zero_add]; exact K'
      · refine ⟨h, ?_, ?_⟩
        · show bX3_tryPaper_80 kR k63 _ h 64 _ _ _ (Int32.ofNat j) = _
          simp only [bX3_tryPaper_80, C1.keeD, C1.plan, C1.c5, C1.keeK, cp, if_neg hc, bd_some, bd2_some, if_neg h1, if_true, k_succ]
        · show kRel P c N I0 h0 I Hd T i (lp _ (s * c 5 + j + 1) 0 r) h
          rw [lp_succ, Nat.zero_add]
          have e : ∀ r, stK (okP P c N I0) (c 5) (c 3 * c 5) d i cnt I Hd T (s * c 5 + j) r = r := fun r => by unfold stK; rw [if_neg hc]
          rw [e]; exact K) K
  have C2 := K'.cd C
  refine ⟨h', Eq.trans e ?_, ?_⟩
  · show bX3_tryPaper_80 kR k63 _ h' 64 _ _ _ (Int32.ofNat (c 5)) = _
    simp only [bX3_tryPaper_80, C2.keeD, C2.plan, C2.c5, bd_some, if_pos (k_rfl _), k_succ]
  · rw [Nat.succ_mul]; exact K'
theorem smN_bd {f : Nat → Nat} {b : Nat} (hf : ∀ k, f k ≤ b) : ∀ n, smN f n ≤ n * b
  | 0 => by unfold smN; omega
  | n + 1 => by have := smN_bd hf n; have := hf n; unfold smN; rw [Nat.succ_mul]; omega
theorem c_keepTried (C : CD p P c N h0) {cnt : Nat} (hcn : cnt ≤ 5) (K : kRel P c N I0 h0 I Hd T (c 2) r h) : ∃ h', fX3_keepTried h 64 (Int32.ofNat cnt) = some h' ∧ kRel P c N I0 h0 I Hd T (c 2) ((cnt : Int), some T) h' := by
  have C1 := K.cd C
  have h5 := C.p5
  obtain ⟨k1, k2, k3, k4, k5, k6, k7, k8, k9, k10, k11⟩ := K
  have s64 : h.2.2.2[64]? = some (3, 0) := C1.1.sh 64 rfl
  have e0 : fX3_keepTried h 64 (Int32.ofNat cnt) = fX3_keepTried_7 FU (cpO (sI h 64 7 (Int32.ofNat cnt)) 70 0 (h.1 69) 0) 64 (Int32.ofNat 0) := by
    rw [cpO_0]; simp only [fX3_keepTried, pI_at s64, bd_some]; rfl
  have hcp : ∀ k, CD p P c N (cpO (sI h 64 7 (Int32.ofNat cnt)) 70 0 (h.1 69) k) := fun k => C1.same2 rfl (fun b j q1 q2 => by rw [cpO_out (by omega), sI_ne (by omega)])
  have e1 := lp0 (F := fun n k (_ : Unit) => fX3_keepTried_7 n (cpO (sI h 64 7 (Int32.ofNat cnt)) 70 0 (h.1 69) k) 64 (Int32.ofNat k)) (fin := fun _ => some (cpO (sI h 64 7 (Int32.ofNat cnt)) 70 0 (h.1 69) (c 2))) (st := fun _ a => a) (b := c 2) C.b2
    (fun n _ => by
      have Cx := hcp (c 2)
      show bX3_keepTried_7 _ _ 64 (Int32.ofNat (c 2)) = _
      simp only [bX3_keepTried_7, Cx.keeD, Cx.plan, Cx.c2, bd_some, if_pos (k_rfl _)])
    (fun n k _ hk => by
      have Cx := hcp k
      have h1 := k_nle hk C.b2
      have l1 : lI (cpO (sI h 64 7 (Int32.ofNat cnt)) 70 0 (h.1 69) k) 69 (Int32.ofNat k) = some (h.1 69 k) := by rw [lI_at (Cx.1.sh 69 rfl) (show k < 5 by omega) (by decide), cpO_out (by omega), sI_ne (by omega)]
      have t1 : tI (cpO (sI h 64 7 (Int32.ofNat cnt)) 70 0 (h.1 69) k) 70 (Int32.ofNat k) (h.1 69 k) = some (cpO (sI h 64 7 (Int32.ofNat cnt)) 70 0 (h.1 69) (k + 1)) := by
        rw [tI_at (Cx.1.sh 70 rfl) (show k < 5 by omega) (by decide)]
        have := cpO_s (h := sI h 64 7 (Int32.ofNat cnt)) (b := 70) (d := 0) (f := h.1 69) (k := k) rfl
        rw [Nat.zero_add] at this; rw [this]
      show bX3_keepTried_7 _ _ 64 (Int32.ofNat k) = _
      simp only [bX3_keepTried_7, Cx.keeD, Cx.plan, Cx.c2, Cx.q5, Cx.q6, l1, t1, bd_some, if_neg h1, k_succ]) ()
  refine ⟨_, e0.trans e1, k1, fun b k q => by rw [cpO_out (by omega), sI_ne (by omega)]; exact k2 b k q, fun j hj => by rw [cpO_out (by omega), sI_ne (by omega)]; exact k3 j hj, fun j hj => by rw [cpO_out (by omega), sI_ne (by omega)]; exact k4 j hj, by rw [cpO_out (by omega), sI_ne (by omega)]; exact k5, fun j hj => by rw [cpO_out (by omega), sI_ne (by omega)]; exact k6 j hj, fun j hj => by rw [cpO_out (by omega), sI_ne (by omega)]; exact k7 j hj, fun j hj => by rw [cpO_out (by omega), sI_ne (by omega)]; exact k8 j hj, by rw [cpO_out (by omega), sI_eq]; exact (iZ_nat cnt).symm, ⟨by show (-1 : Int) ≤ (cnt : Int); omega, by show (cnt : Int) ≤ 900; omega⟩, fun T' eT j hj => ?_⟩
  cases eT
  have := cpO_in (h := sI h 64 7 (Int32.ofNat cnt)) (b := 70) (d := 0) (f := h.1 69) (k := c 2) hj
  rw [Nat.zero_add] at this; rw [this, k8 j hj]
/-- the search from paper i on -/
theorem c_try (C : CD p P c N h0) (hI0 : ∀ s, I0 s ≤ 100) : ∀ (d i cnt : Nat) (I Hd : Nat → Nat) (T : KT) (r : KRs) (h : MH) (n : Nat), i + d = c 2 → kInv P c N I0 I Hd i cnt → kRel P c N I0 h0 I Hd T i r h →
    ∃ h', FX3_tryPaper (n + d + 1) h 64 (Int32.ofNat i) (Int32.ofNat cnt) = some h' ∧ kRel P c N I0 h0 I Hd T i (sr (okP P c N I0) (c 5) (c 3 * c 5) d i cnt I Hd T r) h' := by
  have h4 := C.s4
  have h3 := C.h3
  have h5 := C.p5
  intro d
  induction d with
  | zero =>
    intro i cnt I Hd T r h n ei V K
    have hi : i = c 2 := by omega
    subst hi
    have C1 := K.cd C
    have KK := K
    obtain ⟨k1, k2, k3, k4, k5, k6, k7, k8, k9, k10, k11⟩ := K
    have hE : enN P c N I0 ≤ 500 := by
      have := stl_le (P := P) (c := c) (N := N) (I0 := I0) 0
      unfold enN; simp only; (repeat' split) <;> omega
    have g7 : gI h 64 3 7 = some (iZ r.1) := by rw [gI_at (C1.1.sh 64 rfl), k9]
    have g8 : gI h 64 3 8 = some (Int32.ofNat (enN P c N I0)) := by rw [gI_at (C1.1.sh 64 rfl), k5]
    have l6 : lI h 66 (Int32.ofNat (c 2)) = some (Int32.ofNat 0) := by rw [lI_at (C1.1.sh 66 rfl) (show c 2 < 6 by omega) (by decide), k4 (c 2) (Nat.le_refl _), stl_0 (Nat.le_refl _)]
    have n1 : ¬ Int32.ofNat (c 2) < Int32.ofNat (c 2) := fun z => Int32.lt_irrefl z
    have hcn : cnt ≤ 5 := by have := V.2.2.2.2.2; omega
    obtain ⟨u1, u2, u3, u4, u5, u6⟩ := V
    have es : sr (okP P c N I0) (c 5) (c 3 * c 5) 0 (c 2) cnt I Hd T r = if r.1 < (cnt : Int) then ((cnt : Int), some T) else r := rfl
    show ∃ h', fX3_tryPaper (FX3_tryPaper n) h 64 (Int32.ofNat (c 2)) (Int32.ofNat cnt) = some h' ∧ _
    rw [es]
    simp only [fX3_tryPaper, g7, g8, C1.keeD, C1.plan, C1.c2, C1.q2, C1.keeK, l6, bd_some, if_neg n1, if_true, k_add, Nat.add_zero, iZ_le (k := enN P c N I0) k10.1 (by omega) (by omega), iZ_lt (k := cnt) k10.1 (by omega) (by omega)]
    by_cases q1 : (enN P c N I0 : Int) ≤ r.1
    · have q2 : ¬ r.1 < (cnt : Int) := by
        have : stl P c N I0 (c 2) = 0 := stl_0 (Nat.le_refl _)
        have e : cnt ≤ enN P c N I0 := by unfold enN; simp only; (repeat' split) <;> omega
        omega
      rw [if_pos q1, if_neg q2]
      exact ⟨h, rfl, KK⟩
    · rw [if_neg q1]
      by_cases q2 : r.1 < (cnt : Int)
      · rw [if_pos q2, if_pos q2]
        obtain ⟨h', e', K'⟩ := c_keepTried C hcn KK
        refine ⟨h', ?_, K'⟩
        rw [e', bd_some]
      · rw [if_neg q2, if_neg q2]
        exact ⟨h, rfl, KK⟩
  | succ d ih =>
    intro i cnt I Hd T r h n ei V K
    have hi : i < c 2 := by omega
    have C1 := K.cd C
    have KK := K
    obtain ⟨k1, k2, k3, k4, k5, k6, k7, k8, k9, k10, k11⟩ := K
    have hE : enN P c N I0 ≤ 500 := by
      have := stl_le (P := P) (c := c) (N := N) (I0 := I0) 0
      unfold enN; simp only; (repeat' split) <;> omega
    have hst := stl_le (P := P) (c := c) (N := N) (I0 := I0) i
    have g7 : gI h 64 3 7 = some (iZ r.1) := by rw [gI_at (C1.1.sh 64 rfl), k9]
    have g8 : gI h 64 3 8 = some (Int32.ofNat (enN P c N I0)) := by rw [gI_at (C1.1.sh 64 rfl), k5]
    have l6 : lI h 66 (Int32.ofNat i) = some (Int32.ofNat (stl P c N I0 i)) := by rw [lI_at (C1.1.sh 66 rfl) (show i < 6 by omega) (by decide), k4 i (by omega)]
    have n1 : ¬ Int32.ofNat (c 2) < Int32.ofNat i := fun z => by have := (k_lt (by omega) (by omega)).mp z; omega
    have n2 : ¬ Int32.ofNat i = Int32.ofNat (c 2) := fun z => by have := (k_eq (by omega) (by omega)).mp z; omega
    have hcn : cnt ≤ 5 := by have := V.2.2.2.2.2; omega
    have hHP : ∀ q, q < c 3 * c 5 → q / c 5 < c 3 := fun q hq => (pq_lt hq).1
    have hHP2 : 0 < c 3 * c 5 → 0 < c 5 := fun z => by
      rcases Nat.eq_zero_or_pos (c 5) with e | e
      · rw [e, Nat.mul_zero] at z; omega
      · exact e
    show ∃ h', fX3_tryPaper (FX3_tryPaper (n + d + 1)) h 64 (Int32.ofNat i) (Int32.ofNat cnt) = some h' ∧ _
    simp only [fX3_tryPaper, g7, g8, C1.keeD, C1.plan, C1.c2, C1.q2, l6, bd_some, if_neg n1, if_neg n2, k_add, iZ_le (k := enN P c N I0) k10.1 (by omega) (by omega), iZ_lt (k := cnt + stl P c N I0 i) k10.1 (by omega) (by omega)]
    by_cases q1 : (enN P c N I0 : Int) ≤ r.1
    · rw [if_pos q1]
      refine ⟨h, rfl, ?_⟩
      have e : sr (okP P c N I0) (c 5) (c 3 * c 5) (d + 1) i cnt I Hd T r = r := by
        obtain ⟨u1, u2, u3, u4, u5, u6⟩ := V
        have hor : enN P c N I0 = stl P c N I0 0 ∨ enN P c N I0 = smN I0 (c 3) ∨ enN P c N I0 = 2 * c 5 := by unfold enN; simp only; (repeat' split) <;> omega
        rcases hor with e | e | e
        · exact sr_L1 (stl_U h4 h3) _ _ _ _ _ _ _ (by omega)
        · exact sr_L2 (S := c 3) hHP _ _ _ _ _ _ _ (by omega)
        · exact sr_L3 hHP2 _ _ _ _ _ _ _ (by omega)
      rw [e]; exact KK
    · rw [if_neg q1]
      by_cases q2 : r.1 < ((cnt + stl P c N I0 i : Nat) : Int)
      · rw [if_pos q2, sr_s]
        have HR : ∀ (h : MH) (cnt : Nat) (I Hd : Nat → Nat) (T : KT) (r : KRs), kInv P c N I0 I Hd (i + 1) cnt → kRel P c N I0 h0 I Hd T (i + 1) r h → ∃ h', FX3_tryPaper (n + d + 1) h 64 (Int32.ofNat (i + 1)) (Int32.ofNat cnt) = some h' ∧ kRel P c N I0 h0 I Hd T (i + 1) (sr (okP P c N I0) (c 5) (c 3 * c 5) d (i + 1) cnt I Hd T r) h' :=
          fun h cnt I Hd T r V K => ih (i + 1) cnt I Hd T r h n (by omega) V K
        obtain ⟨m, h', e, K'⟩ := lp_ex0 (F := fun m s h => fX3_tryPaper_63 (FX3_tryPaper (n + d + 1)) m h 64 (Int32.ofNat i) (Int32.ofNat cnt) (Int32.ofNat s)) (I := fun s h => kRel P c N I0 h0 I Hd T i (lp (stK (okP P c N I0) (c 5) (c 3 * c 5) d i cnt I Hd T) (s * c 5) 0 r) h) (b := c 3) C.b3
          (fun m s h hs K => by
            have C2 := K.cd C
            have h1 := k_nle hs C.b3
            obtain ⟨h', e', K'⟩ := c_try80 C V hi hs (FX3_tryPaper (n + d + 1)) (fX3_tryPaper_63 (FX3_tryPaper (n + d + 1)) m) HR K
            refine ⟨h', ?_, K'⟩
            show bX3_tryPaper_63 (FX3_tryPaper (n + d + 1)) (fX3_tryPaper_63 (FX3_tryPaper (n + d + 1)) m) h 64 _ _ (Int32.ofNat s) = _
            simp only [bX3_tryPaper_63, C2.keeD, C2.plan, C2.c3, bd_some, if_neg h1]
            exact e') (h := h) (by rw [Nat.zero_mul]; exact KK)
        have C3 := K'.cd C
        have K2 := K'.trd none
        have C4 := K2.cd C
        obtain ⟨h2, e2, K3⟩ := HR _ cnt I Hd _ _ (V.next (stl_U h4 h3 i).1) K2
        have t1 : tI h' 69 (Int32.ofNat i) (-2) = some (sI h' 69 i (kEnc (c 5) none)) := tI_at (C3.1.sh 69 rfl) (show i < 5 by omega) (by decide)
        refine ⟨h2, ?_, K3.less⟩
        refine Eq.trans e ?_
        show bX3_tryPaper_63 (FX3_tryPaper (n + d + 1)) _ h' 64 _ _ (Int32.ofNat (c 3)) = _
        simp only [bX3_tryPaper_63, C3.keeD, C3.plan, C3.c3, bd_some, if_pos (k_rfl _), C3.q5, t1, C4.keeK, k_succ, e2]
      · rw [if_neg q2]
        refine ⟨h, rfl, ?_⟩
        rw [sr_L1 (stl_U h4 h3) _ _ _ _ _ _ _ (by omega)]
        exact KK
end KEC
