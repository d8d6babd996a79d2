/-! ===== KEPT: the model's search ===== -/
def mEnc (nP : Nat) (x : Option Nat) : Int32 := match x with
  | none => Int32.ofNat nP
  | some q => Int32.ofNat q
def bEnc (x : Option Nat) : Int32 := match x with
  | none => -2
  | some q => Int32.ofNat q
def nxt (b : Nat → Bool) : Nat → Nat → Nat
  | 0, j => j
  | m + 1, j => if b j = true then j else nxt b m (j + 1)
theorem nxt_lp {b : Nat → Bool} {st : Nat → KRs → KRs} {nP : Nat} (hst : ∀ q r, b q = false → st q r = r) : ∀ (m j : Nat) (r : KRs), j + m = nP → (nxt b m j = nP ∧ lp st m j r = r) ∨ (nxt b m j < nP ∧ j ≤ nxt b m j ∧ b (nxt b m j) = true ∧ lp st m j r = lp st (nP - (nxt b m j + 1)) (nxt b m j + 1) (st (nxt b m j) r))
  | 0, j, r, e => Or.inl ⟨by show j = nP; omega, rfl⟩
  | m + 1, j, r, e => by
    unfold nxt
    by_cases q : b j = true
    · rw [if_pos q]
      refine Or.inr ⟨by omega, Nat.le_refl _, q, ?_⟩
      rw [show nP - (j + 1) = m by omega]
      rfl
    · rw [if_neg q]
      have e1 : lp st (m + 1) j r = lp st m (j + 1) r := by
        show lp st m (j + 1) (st j r) = _
        rw [hst j r (by cases hb : b j <;> simp_all)]
      rcases nxt_lp (nP := nP) hst m (j + 1) r (by omega) with ⟨a1, a2⟩ | ⟨a1, a2, a3, a4⟩
      · exact Or.inl ⟨a1, e1.trans a2⟩
      · exact Or.inr ⟨a1, by omega, a3, e1.trans a4⟩
/-- wants from a paper on -/
def wfN (P : PT) : Nat → Nat → Nat
  | 0, _ => 0
  | m + 1, i => (if P 1 i = -2 then 0 else 1) + wfN P m (i + 1)
def wf (P : PT) (c : CT) (i : Nat) : Nat := wfN P (c 2 - i) i
section KEM
variable {o : Nat} {P : PT} {c : CT} {N : Nat → Int32} {I0 : Nat → Nat} {h h0 h1 : MH} {I Hd : Nat → Nat} {T : KT} {i : Nat} {r : KRs}
theorem wfN_le : ∀ m i, wfN P m i ≤ m
  | 0, i => Nat.le_refl 0
  | m + 1, i => by have := wfN_le m (i + 1); unfold wfN; split <;> omega
theorem wf_le (i : Nat) : wf P c i ≤ c 2 := Nat.le_trans (wfN_le _ _) (Nat.sub_le _ _)
theorem wf_U : ∀ i, wf P c (i + 1) ≤ wf P c i ∧ (∀ q, q < c 3 * c 5 → okP P c N I0 i q = true → wf P c (i + 1) + 1 ≤ wf P c i) := by
  intro i
  rcases Nat.lt_or_ge i (c 2) with hi | hi
  · have e : wf P c i = (if P 1 i = -2 then 0 else 1) + wf P c (i + 1) := by
      unfold wf
      rw [show c 2 - i = (c 2 - (i + 1)) + 1 by omega]
      rfl
    rw [e]
    refine ⟨by omega, fun q hq hok => ?_⟩
    unfold okP at hok
    simp only [Bool.and_eq_true, decide_eq_true_eq] at hok
    rw [if_neg hok.1.1.2]; omega
  · have e1 : wf P c i = 0 := by unfold wf; rw [show c 2 - i = 0 by omega]; rfl
    have e2 : wf P c (i + 1) = 0 := by unfold wf; rw [show c 2 - (i + 1) = 0 by omega]; rfl
    rw [e1, e2]
    refine ⟨Nat.le_refl _, fun q hq hok => ?_⟩
    unfold okP at hok
    simp only [Bool.and_eq_true, decide_eq_true_eq] at hok
    have := hok.1.1.1
    omega
theorem m_wants4 (M : MM o P c N h) : ∀ (m k n a : Nat), k + m = c 2 → fX13_wantsFrom_4 (n + m + 1) h 77 (Int32.ofNat a) (Int32.ofNat k) = some (Int32.ofNat (a + wfN P m k), h)
  | 0, k, n, a, e => by
    have hk : k = c 2 := by omega
    subst hk
    show bX13_wantsFrom_4 _ h 77 _ (Int32.ofNat (c 2)) = _
    simp only [bX13_wantsFrom_4, M.off, M.c2, bd_some, if_pos (k_rfl _)]
    rfl
  | m + 1, k, n, a, e => by
    have hk : k < c 2 := by omega
    have h1 := k_nle hk M.b2
    show bX13_wantsFrom_4 (fX13_wantsFrom_4 (n + m + 1)) h 77 _ (Int32.ofNat k) = _
    simp only [bX13_wantsFrom_4, M.off, M.c2, M.t1, M.a1 hk, bd_some, if_neg h1, k_succ, Int32.add_zero]
    by_cases q : P 1 k = -2
    · rw [if_pos q, m_wants4 M m (k + 1) n a (by omega)]
      simp only [wfN, if_pos q, Nat.zero_add]
    · rw [if_neg q, m_wants4 M m (k + 1) n (a + 1) (by omega)]
      simp only [wfN, if_neg q, Nat.add_assoc]
theorem m_wantsFrom (M : MM o P c N h) (hi : i ≤ c 2) : fX13_wantsFrom h 77 (Int32.ofNat i) = some (Int32.ofNat (wf P c i), h) := by
  have hp := M.p5
  obtain ⟨n, hn⟩ := FU_at (c 2 - i) (by omega)
  show fX13_wantsFrom_4 FU h 77 (Int32.ofNat 0) (Int32.ofNat i) = _
  rw [hn, m_wants4 M (c 2 - i) i n 0 (by omega), Nat.zero_add]
  rfl
theorem m_pairsMany (M : MM o P c N h) : fX13_pairsMany h 77 = some (Int32.ofNat (c 3 * c 5), h) := by
  simp only [fX13_pairsMany, M.off, M.c3, M.c5, bd_some, k_mul]
theorem MM.r82 (M : MM o P c N h) : gR h 77 13 20 = some 82 := by obtain ⟨p, S⟩ := M.1; exact gR_at M.s77 S.2.2.2.2.2.2.2.2.2.1
theorem MM.r83 (M : MM o P c N h) : gR h 77 13 21 = some 83 := by obtain ⟨p, S⟩ := M.1; exact gR_at M.s77 S.2.2.2.2.2.2.2.2.2.2.1
theorem MM.r84 (M : MM o P c N h) : gR h 77 13 22 = some 84 := by obtain ⟨p, S⟩ := M.1; exact gR_at M.s77 S.2.2.2.2.2.2.2.2.2.2.2.1
theorem MM.r85 (M : MM o P c N h) : gR h 77 13 23 = some 85 := by obtain ⟨p, S⟩ := M.1; exact gR_at M.s77 S.2.2.2.2.2.2.2.2.2.2.2.2.1
theorem MM.r86 (M : MM o P c N h) : gR h 77 13 24 = some 86 := by obtain ⟨p, S⟩ := M.1; exact gR_at M.s77 S.2.2.2.2.2.2.2.2.2.2.2.2.2.1
theorem MM.sx (M : MM o P c N h) (k : Nat) {w : Nat × Nat} (hk : shp0[k]? = some w) : h.2.2.2[k]? = some w := by obtain ⟨p, S⟩ := M.1; exact S.sh k hk
def mKel (P : PT) (c : CT) (I0 : Nat → Nat) (h0 : MH) (I Hd : Nat → Nat) (T : KT) (i : Nat) (r : KRs) (h : MH) : Prop :=
  h.2 = h0.2 ∧ (∀ b k, b < 82 ∨ 85 < b → h.1 b k = h0.1 b k) ∧ (∀ s, s < c 3 → h.1 84 s = Int32.ofNat (I0 s - I s)) ∧ (∀ j, j < c 5 → h.1 85 j = Int32.ofNat (2 - Hd j)) ∧ (∀ j, j < i → h.1 82 j = mEnc (c 3 * c 5) (T j)) ∧ (-1 ≤ r.1 ∧ r.1 ≤ 900) ∧ ∀ T', r.2 = some T' → ∀ j, j < c 2 → h.1 83 j = bEnc (T' j)
theorem mKel.mm (K : mKel P c I0 h0 I Hd T i r h) (M : MM o P c N h0) : MM o P c N h := M.same (by rw [K.1]) (fun b k q => K.2.1 b k (by omega))
theorem mKel.trd (K : mKel P c I0 h0 I Hd T i r h) (x : Option Nat) : mKel P c I0 h0 I Hd (setT T i x) (i + 1) r (sI h 82 i (mEnc (c 3 * c 5) x)) := by
  obtain ⟨k1, k2, k3, k4, k5, k6, k7⟩ := K
  refine ⟨k1, fun b k q => by rw [sI_ne (by omega)]; exact k2 b k q, fun j hj => by rw [sI_ne (by omega)]; exact k3 j hj, fun j hj => by rw [sI_ne (by omega)]; exact k4 j hj, fun u hu => ?_, k6, fun T' e j hj => by rw [sI_ne (by omega)]; exact k7 T' e j hj⟩
  by_cases q : u = i
  · subst q; rw [sI_eq]; unfold setT; rw [if_pos rfl]
  · rw [sI_ne (by omega), k5 u (by omega)]; unfold setT; rw [if_neg q]
theorem mKel.above (K : mKel P c I0 h0 I Hd T i r h) (x : Int32) : mKel P c I0 h0 I Hd T i r (sI h 82 i x) := by
  obtain ⟨k1, k2, k3, k4, k5, k6, k7⟩ := K
  exact ⟨k1, fun b k q => by rw [sI_ne (by omega)]; exact k2 b k q, fun j hj => by rw [sI_ne (by omega)]; exact k3 j hj, fun j hj => by rw [sI_ne (by omega)]; exact k4 j hj, fun u hu => by rw [sI_ne (by omega)]; exact k5 u hu, k6, fun T' e j hj => by rw [sI_ne (by omega)]; exact k7 T' e j hj⟩
theorem mKel.less {x : Option Nat} (K : mKel P c I0 h0 I Hd (setT T i x) (i + 1) r h) : mKel P c I0 h0 I Hd T i r h ∧ h.1 82 i = mEnc (c 3 * c 5) x := by
  obtain ⟨k1, k2, k3, k4, k5, k6, k7⟩ := K
  refine ⟨⟨k1, k2, k3, k4, fun j hj => by rw [k5 j (by omega)]; unfold setT; rw [if_neg (by omega)], k6, k7⟩, ?_⟩
  rw [k5 i (by omega)]; unfold setT; rw [if_pos rfl]
/-- what holds at a node -/
def mInv (I0 I Hd : Nat → Nat) (i cnt : Nat) : Prop := (∀ s, I s ≤ I0 s) ∧ (∀ j, Hd j ≤ 2) ∧ cnt ≤ i
theorem m_cnts (M : MM o P c N h) {q : Nat} (hq : q < c 3 * c 5) (x : Int32) : fX13_counts h 77 (Int32.ofNat q) x = some (sI (sI h 84 (q / c 5) (h.1 84 (q / c 5) + x)) 85 (q % c 5) (h.1 85 (q % c 5) + x)) := by
  have h4 := M.s4
  have h3 := M.h3
  obtain ⟨q1, q2⟩ := pq_lt hq
  have hP : c 3 * c 5 ≤ 4 * 3 := Nat.mul_le_mul h4 h3
  have lt1 : Int32.ofNat q < Int32.ofNat (c 3 * c 5) := (k_lt (by omega) (by omega)).mpr hq
  have nzH := nz_of (n := c 5) (by omega) (by omega)
  have ed := k_div (a := q) (b := c 5) (by omega) (by omega)
  have em := k_mod (a := q) (b := c 5) (by omega) (by omega)
  rw [ed] at em
  have l1 : lI h 84 (Int32.ofNat (q / c 5)) = some (h.1 84 (q / c 5)) := lI_at (M.sx 84 rfl) (show q / c 5 < 4 by omega) (by decide)
  have t1 : tI h 84 (Int32.ofNat (q / c 5)) (h.1 84 (q / c 5) + x) = some (sI h 84 (q / c 5) (h.1 84 (q / c 5) + x)) := tI_at (M.sx 84 rfl) (show q / c 5 < 4 by omega) (by decide)
  have M1 : MM o P c N (sI h 84 (q / c 5) (h.1 84 (q / c 5) + x)) := M.wr (by decide) (by decide)
  have l2 : lI (sI h 84 (q / c 5) (h.1 84 (q / c 5) + x)) 85 (Int32.ofNat (q % c 5)) = some (h.1 85 (q % c 5)) := by rw [lI_at (M1.sx 85 rfl) (show q % c 5 < 3 by omega) (by decide), sI_ne (by omega)]
  have t2 : tI (sI h 84 (q / c 5) (h.1 84 (q / c 5) + x)) 85 (Int32.ofNat (q % c 5)) (h.1 85 (q % c 5) + x) = some (sI (sI h 84 (q / c 5) (h.1 84 (q / c 5) + x)) 85 (q % c 5) (h.1 85 (q % c 5) + x)) := tI_at (M1.sx 85 rfl) (show q % c 5 < 3 by omega) (by decide)
  simp only [fX13_counts, M.k13, m_pairsMany M, if_pos lt1, M.r84, M.off, M.c5, nzH, ed, em, l1, t1, M1.r85, M1.off, M1.c5, l2, t2, bd_some, bd2_some]
theorem mKel.press (K : mKel P c I0 h0 I Hd T i r h) {cnt : Nat} (V : mInv I0 I Hd i cnt) {s j : Nat} (hs : s < c 3) (hj : j < c 5) (z2 : 0 < I s) (z3 : 0 < Hd j) : mKel P c I0 h0 (dec1 I s) (dec1 Hd j) T i r (sI (sI h 84 s (h.1 84 s + 1)) 85 j (h.1 85 j + 1)) := by
  obtain ⟨k1, k2, k3, k4, k5, k6, k7⟩ := K
  have v1 := V.1 s
  have v2 := V.2.1 j
  refine ⟨k1, fun b k q => by rw [sI_ne (by omega), sI_ne (by omega)]; exact k2 b k q, fun u hu => ?_, fun u hu => ?_, fun u hu => by rw [sI_ne (by omega), sI_ne (by omega)]; exact k5 u hu, k6, fun T' e u hu => by rw [sI_ne (by omega), sI_ne (by omega)]; exact k7 T' e u hu⟩
  · rw [sI_ne (by omega)]
    by_cases q : u = s
    · subst q
      rw [sI_eq, k3 u hs, k_succ]
      unfold dec1; rw [if_pos rfl, show I0 u - I u + 1 = I0 u - (I u - 1) by omega]
    · rw [sI_ne (by omega), k3 u hu]; unfold dec1; rw [if_neg q]
  · by_cases q : u = j
    · subst q
      rw [sI_eq, k4 u hj, k_succ]
      unfold dec1; rw [if_pos rfl, show 2 - Hd u + 1 = 2 - (Hd u - 1) by omega]
    · rw [sI_ne (by omega), sI_ne (by omega), k4 u hu]; unfold dec1; rw [if_neg q]
theorem k_pred {x : Nat} : Int32.ofNat (x + 1) + (-1) = Int32.ofNat x := by
  rw [← k_succ, Int32.add_assoc, show (1 : Int32) + (-1) = 0 by decide, Int32.add_zero]
theorem mKel.unpress {s j : Nat} (K : mKel P c I0 h0 (dec1 I s) (dec1 Hd j) T i r h) {cnt : Nat} (V : mInv I0 I Hd i cnt) (hs : s < c 3) (hj : j < c 5) (z2 : 0 < I s) (z3 : 0 < Hd j) : mKel P c I0 h0 I Hd T i r (sI (sI h 84 s (h.1 84 s + (-1))) 85 j (h.1 85 j + (-1))) := by
  obtain ⟨k1, k2, k3, k4, k5, k6, k7⟩ := K
  have v1 := V.1 s
  have v2 := V.2.1 j
  refine ⟨k1, fun b k q => by rw [sI_ne (by omega), sI_ne (by omega)]; exact k2 b k q, fun u hu => ?_, fun u hu => ?_, fun u hu => by rw [sI_ne (by omega), sI_ne (by omega)]; exact k5 u hu, k6, fun T' e u hu => by rw [sI_ne (by omega), sI_ne (by omega)]; exact k7 T' e u hu⟩
  · rw [sI_ne (by omega)]
    by_cases q : u = s
    · subst q
      rw [sI_eq, k3 u hs]
      have e : dec1 I u u = I u - 1 := if_pos rfl
      rw [e, show I0 u - (I u - 1) = I0 u - I u + 1 by omega, k_pred]
    · rw [sI_ne (by omega), k3 u hu]; unfold dec1; rw [if_neg q]
  · by_cases q : u = j
    · subst q
      rw [sI_eq, k4 u hj]
      have e : dec1 Hd u u = Hd u - 1 := if_pos rfl
      rw [e, show 2 - (Hd u - 1) = 2 - Hd u + 1 by omega, k_pred]
    · rw [sI_ne (by omega), sI_ne (by omega), k4 u hu]; unfold dec1; rw [if_neg q]
theorem m_canBe (M0 : MM o P c N h0) (hW : WP P c) (hN : WN c N) (hink : ∀ s, s < c 3 → h0.1 86 s = Int32.ofNat (I0 s)) (hI0 : ∀ s, I0 s ≤ 100) (K : mKel P c I0 h0 I Hd T i r h) {cnt : Nat} (V : mInv I0 I Hd i cnt) (hi : i < c 2) {q : Nat} (hq : q < c 3 * c 5) :
    fX13_canBe h 77 (Int32.ofNat i) (Int32.ofNat q) = some (if cnK (okP P c N I0) (c 5) i q I Hd = true then 1 else 0, h) := by
  have M := K.mm M0
  have h4 := M.s4
  have h3 := M.h3
  have hP : c 3 * c 5 ≤ 4 * 3 := Nat.mul_le_mul h4 h3
  obtain ⟨q1, q2⟩ := pq_lt hq
  obtain ⟨k1, k2, k3, k4, k5, k6, k7⟩ := K
  have nzH := nz_of (n := c 5) (by omega) (by omega)
  have ed := k_div (a := q) (b := c 5) (by omega) (by omega)
  have em := k_mod (a := q) (b := c 5) (by omega) (by omega)
  rw [ed] at em
  have l1 : lI h 84 (Int32.ofNat (q / c 5)) = some (Int32.ofNat (I0 (q / c 5) - I (q / c 5))) := by rw [lI_at (M.sx 84 rfl) (show q / c 5 < 4 by omega) (by decide), k3 _ q1]
  have l2 : lI h 86 (Int32.ofNat (q / c 5)) = some (Int32.ofNat (I0 (q / c 5))) := by rw [lI_at (M.sx 86 rfl) (show q / c 5 < 4 by omega) (by decide), k2 86 _ (by omega), hink _ q1]
  have l3 : lI h 85 (Int32.ofNat (q % c 5)) = some (Int32.ofNat (2 - Hd (q % c 5))) := by rw [lI_at (M.sx 85 rfl) (show q % c 5 < 3 by omega) (by decide), k4 _ q2]
  have v1 := V.1 (q / c 5)
  have v2 := V.2.1 (q % c 5)
  have b0 := hI0 (q / c 5)
  have c1 : (Int32.ofNat (I0 (q / c 5)) ≤ Int32.ofNat (I0 (q / c 5) - I (q / c 5))) ↔ ¬ 0 < I (q / c 5) := by rw [k_le (by omega) (by omega)]; omega
  have c2 : ((2 : Int32) ≤ Int32.ofNat (2 - Hd (q % c 5))) ↔ ¬ 0 < Hd (q % c 5) := by rw [show (2 : Int32) = Int32.ofNat 2 from rfl, k_le (by decide) (by omega)]; omega
  simp only [fX13_canBe, M.off, M.c5, nzH, ed, em, M.t1, M.a1 hi, M.r84, M.r85, M.r86, l1, l2, l3, c1, c2, M.k13, m_saysNow M hW q1 hi, m_printsBy M q2 (sayN_VD hW hN q1 i), bd_some, bd2_some]
  unfold cnK okP
  by_cases z0 : P 1 i = -2
  · simp [z0]
  · by_cases z2 : 0 < I (q / c 5)
    · have z4 : 0 < I0 (q / c 5) := by omega
      by_cases z3 : 0 < Hd (q % c 5)
      · by_cases z1 : prK (P 7 (q % c 5)) (sayN P c N (q / c 5) i) = P 1 i
        · simp [z0, z1, z2, z3, z4, hi]
        · simp [z0, z1, z2, z3]
      · simp [z0, z2, z3]
    · simp [z0, z2]
theorem m_next2 (M0 : MM o P c N h0) (hW : WP P c) (hN : WN c N) (hink : ∀ s, s < c 3 → h0.1 86 s = Int32.ofNat (I0 s)) (hI0 : ∀ s, I0 s ≤ 100) (K : mKel P c I0 h0 I Hd T i r h) {cnt : Nat} (V : mInv I0 I Hd i cnt) (hi : i < c 2) :
    ∀ (m j n : Nat), j + m = c 3 * c 5 → fX13_nextPair_2 (n + m + 1) h 77 (Int32.ofNat i) (Int32.ofNat j) = some (Int32.ofNat (nxt (fun q => cnK (okP P c N I0) (c 5) i q I Hd) m j), h)
  | 0, j, n, e => by
    have M := K.mm M0
    have hj : j = c 3 * c 5 := by omega
    subst hj
    show bX13_nextPair_2 _ h 77 _ (Int32.ofNat (c 3 * c 5)) = _
    simp only [bX13_nextPair_2, M.k13, m_pairsMany M, bd_some, bd2_some, if_pos (k_rfl _)]
    rfl
  | m + 1, j, n, e => by
    have M := K.mm M0
    have hP : c 3 * c 5 ≤ 4 * 3 := Nat.mul_le_mul M.s4 M.h3
    have h1 := k_nle (show j < c 3 * c 5 by omega) (show c 3 * c 5 ≤ 100000 by omega)
    have cb := m_canBe M0 hW hN hink hI0 K V hi (show j < c 3 * c 5 by omega)
    show bX13_nextPair_2 (fX13_nextPair_2 (n + m + 1)) h 77 _ (Int32.ofNat j) = _
    simp only [bX13_nextPair_2, M.k13, m_pairsMany M, cb, bd_some, bd2_some, if_neg h1, k_succ]
    unfold nxt
    by_cases q : cnK (okP P c N I0) (c 5) i j I Hd = true
    · simp only [if_pos q, i10, if_false]
    · simp only [if_neg q, if_true]
      exact m_next2 M0 hW hN hink hI0 K V hi m (j + 1) n (by omega)
theorem m_nextPair (M0 : MM o P c N h0) (hW : WP P c) (hN : WN c N) (hink : ∀ s, s < c 3 → h0.1 86 s = Int32.ofNat (I0 s)) (hI0 : ∀ s, I0 s ≤ 100) (K : mKel P c I0 h0 I Hd T i r h) {cnt : Nat} (V : mInv I0 I Hd i cnt) (hi : i < c 2) {j : Nat} (hj : j ≤ c 3 * c 5) :
    fX13_nextPair h 77 (Int32.ofNat i) (Int32.ofNat j) = some (Int32.ofNat (nxt (fun q => cnK (okP P c N I0) (c 5) i q I Hd) (c 3 * c 5 - j) j), h) := by
  have hP : c 3 * c 5 ≤ 4 * 3 := Nat.mul_le_mul M0.s4 M0.h3
  obtain ⟨n, hn⟩ := FU_at (c 3 * c 5 - j) (by omega)
  show fX13_nextPair_2 FU h 77 (Int32.ofNat i) (Int32.ofNat j) = _
  rw [hn]
  exact m_next2 M0 hW hN hink hI0 K V hi (c 3 * c 5 - j) j n (by omega)
/-- the leaf: what was tried is kept -/
theorem m_leaf (M0 : MM o P c N h0) (K : mKel P c I0 h0 I Hd T (c 2) r h) (hT : okKT (c 3 * c 5) (c 2) T) {cnt : Nat} (hc : cnt ≤ 5) (x1 x2 x3 : Int32) :
    ∃ h', (∀ k65 : MH → Nat → Int32 → Int32 → Int32 → Int32 → Option (Int32 × MH), fX13_keeps_230 k65 FU h 77 x1 x2 x3 (Int32.ofNat (c 3 * c 5)) (Int32.ofNat 0) = k65 h' 77 x1 x2 x3 (Int32.ofNat (c 3 * c 5))) ∧ mKel P c I0 h0 I Hd T (c 2) ((cnt : Int), some T) h' := by
  have M := K.mm M0
  have hp := M.p5
  have hP : c 3 * c 5 ≤ 4 * 3 := Nat.mul_le_mul M.s4 M.h3
  obtain ⟨k1, k2, k3, k4, k5, k6, k7⟩ := K
  have Mk : ∀ k, MM o P c N (cpO h 83 0 (fun j => bEnc (T j)) k) := fun k => M.same rfl (fun b j q => cpO_out (by omega))
  have e := fun (k65 : MH → Nat → Int32 → Int32 → Int32 → Int32 → Option (Int32 × MH)) => lp0 (F := fun n k (_ : Unit) => fX13_keeps_230 k65 n (cpO h 83 0 (fun j => bEnc (T j)) k) 77 x1 x2 x3 (Int32.ofNat (c 3 * c 5)) (Int32.ofNat k)) (fin := fun _ => k65 (cpO h 83 0 (fun j => bEnc (T j)) (c 2)) 77 x1 x2 x3 (Int32.ofNat (c 3 * c 5))) (st := fun _ a => a) (b := c 2) M.b2
    (fun n _ => by
      have Mx := Mk (c 2)
      show bX13_keeps_230 k65 _ _ 77 _ _ _ _ (Int32.ofNat (c 2)) = _
      simp only [bX13_keeps_230, Mx.off, Mx.c2, bd_some, if_pos (k_rfl _)])
    (fun n k _ hk => by
      have Mx := Mk k
      have h1 := k_nle hk M.b2
      have l1 : lI (cpO h 83 0 (fun j => bEnc (T j)) k) 82 (Int32.ofNat k) = some (mEnc (c 3 * c 5) (T k)) := by rw [lI_at (Mx.sx 82 rfl) (show k < 5 by omega) (by decide), cpO_out (by omega), k5 k hk]
      have t1 : ∀ y, y = bEnc (T k) → tI (cpO h 83 0 (fun j => bEnc (T j)) k) 83 (Int32.ofNat k) y = some (cpO h 83 0 (fun j => bEnc (T j)) (k + 1)) := fun y hy => by
        rw [tI_at (Mx.sx 83 rfl) (show k < 5 by omega) (by decide)]
        have := cpO_s (h := h) (b := 83) (d := 0) (f := fun j => bEnc (T j)) (k := k) hy
        rw [Nat.zero_add] at this; rw [this]
      show bX13_keeps_230 k65 _ _ 77 _ _ _ _ (Int32.ofNat k) = _
      simp only [bX13_keeps_230, Mx.off, Mx.c2, Mx.r82, Mx.r83, l1, bd_some, if_neg h1, k_succ]
      cases hT' : T k with
      | none =>
        rw [if_pos (show Int32.ofNat (c 3 * c 5) ≤ mEnc (c 3 * c 5) none from k_rfl _), t1 (-2) (by rw [hT']; rfl), bd_some]
      | some q =>
        have hq := hT k q hk hT'
        have nle : ¬ Int32.ofNat (c 3 * c 5) ≤ mEnc (c 3 * c 5) (some q) := k_nle hq (show c 3 * c 5 ≤ 100000 by omega)
        rw [if_neg nle, t1 (mEnc (c 3 * c 5) (some q)) (by rw [hT']; rfl), bd_some]) ()
  simp only [cpO_0] at e
  refine ⟨_, e, k1, fun b k q => by rw [cpO_out (by omega)]; exact k2 b k q, fun j hj => by rw [cpO_out (by omega)]; exact k3 j hj, fun j hj => by rw [cpO_out (by omega)]; exact k4 j hj, fun j hj => by rw [cpO_out (by omega)]; exact k5 j hj, ⟨by show (-1 : Int) ≤ (cnt : Int); omega, by show (cnt : Int) ≤ 900; omega⟩, fun T' eT j hj => ?_⟩
  cases eT
  have := cpO_in (h := h) (b := 83) (d := 0) (f := fun j => bEnc (T j)) (k := c 2) hj
  rw [Nat.zero_add] at this; rw [this]
/-- so many turns at most -/
def Bd : Nat → Nat
  | 0 => 0
  | d + 1 => 13 * (Bd d + 1) + 1
/-- a level: all its choices, then one level up -/
def Lev (o : Nat) (P : PT) (c : CT) (N : Nat → Int32) (I0 : Nat → Nat) (h0 : MH) (d : Nat) : Prop := ∀ (i cnt : Nat) (I Hd : Nat → Nat) (T : KT) (r : KRs) (h : MH), i + d + 1 = c 2 → mInv I0 I Hd i cnt → okKT (c 3 * c 5) i T → mKel P c I0 h0 I Hd T i r h → h.1 82 i = -1 →
  ∃ k h', k ≤ Bd (d + 1) ∧ (∀ n, fX13_keeps_65 (n + k) h 77 (iZ r.1) (Int32.ofNat cnt) (Int32.ofNat i) (Int32.ofNat (c 3 * c 5)) = fX13_keeps_65 n h' 77 (iZ (sr (okP P c N I0) (c 5) (c 3 * c 5) (d + 1) i cnt I Hd T r).1) (Int32.ofNat cnt) (Int32.ofNat i + (-1)) (Int32.ofNat (c 3 * c 5))) ∧
    mKel P c I0 h0 I Hd T i (sr (okP P c N I0) (c 5) (c 3 * c 5) (d + 1) i cnt I Hd T r) h'
/-- what is below a choice -/
def Exp (o : Nat) (P : PT) (c : CT) (N : Nat → Int32) (I0 : Nat → Nat) (h0 : MH) (d : Nat) : Prop := ∀ (i cnt : Nat) (I Hd : Nat → Nat) (T : KT) (r : KRs) (h : MH), i + d + 1 = c 2 → mInv I0 I Hd (i + 1) cnt → okKT (c 3 * c 5) (i + 1) T → mKel P c I0 h0 I Hd T (i + 1) r h →
  ∃ k h', k ≤ Bd d ∧ (∀ n, bX13_keeps_183 (fX13_keeps_65 (n + k)) h 77 (iZ r.1) (Int32.ofNat cnt) (Int32.ofNat i) (Int32.ofNat (c 3 * c 5)) = fX13_keeps_65 n h' 77 (iZ (sr (okP P c N I0) (c 5) (c 3 * c 5) d (i + 1) cnt I Hd T r).1) (Int32.ofNat cnt) (Int32.ofNat i) (Int32.ofNat (c 3 * c 5))) ∧
    mKel P c I0 h0 I Hd T (i + 1) (sr (okP P c N I0) (c 5) (c 3 * c 5) d (i + 1) cnt I Hd T r) h'
theorem m_exp (M0 : MM o P c N h0) (d : Nat) (HL : ∀ d', d = d' + 1 → Lev o P c N I0 h0 d') : Exp o P c N I0 h0 d := by
  intro i cnt I Hd T r h ei V hT K
  have M := K.mm M0
  have hp := M.p5
  have hc := V.2.2
  have hwf := wf_le (P := P) (c := c) (i + 1)
  have hP : c 3 * c 5 ≤ 4 * 3 := Nat.mul_le_mul M.s4 M.h3
  have wq := m_wantsFrom M (show i + 1 ≤ c 2 by omega)
  have KK := K
  obtain ⟨k1, k2, k3, k4, k5, k6, k7⟩ := K
  have lt1 := iZ_lt (z := r.1) (k := cnt + wf P c (i + 1)) k6.1 (by omega) (by omega)
  by_cases q1 : r.1 < ((cnt + wf P c (i + 1) : Nat) : Int)
  · rcases Nat.eq_zero_or_pos d with hd | hd
    · have hi : i + 1 = c 2 := by omega
      subst hd
      have w0 : wf P c (i + 1) = 0 := by unfold wf; rw [show c 2 - (i + 1) = 0 by omega]; rfl
      have es : sr (okP P c N I0) (c 5) (c 3 * c 5) 0 (i + 1) cnt I Hd T r = ((cnt : Int), some T) := by
        show (if r.1 < (cnt : Int) then ((cnt : Int), some T) else r) = _
        rw [if_pos (by rw [w0] at q1; omega)]
      rw [es]
      have KK2 : mKel P c I0 h0 I Hd T (c 2) r h := by rw [← hi]; exact KK
      obtain ⟨h', e', K'⟩ := m_leaf (cnt := cnt) M0 KK2 (by rw [← hi]; exact hT) (by omega) (Int32.ofNat cnt) (Int32.ofNat cnt) (Int32.ofNat i)
      refine ⟨0, h', Nat.zero_le _, fun n => ?_, by rw [hi]; exact K'⟩
      have le1 : Int32.ofNat (c 2) ≤ Int32.ofNat (i + 1) := by rw [hi]; exact k_rfl _
      simp only [bX13_keeps_183, M.k13, k_succ, wq, k_add, if_pos (lt1.mpr q1), M.off, M.c2, if_pos le1, bd_some, bd2_some]
      refine Eq.trans (e' _) ?_
      rw [show iZ (cnt : Int) = Int32.ofNat cnt from iZ_nat cnt]
      rfl
    · obtain ⟨d', rfl⟩ : ∃ d', d = d' + 1 := ⟨d - 1, by omega⟩
      have nle : ¬ Int32.ofNat (c 2) ≤ Int32.ofNat (i + 1) := k_nle (by omega) M.b2
      have t1 : tI h 82 (Int32.ofNat (i + 1)) (-1) = some (sI h 82 (i + 1) (-1)) := tI_at (M.sx 82 rfl) (show i + 1 < 5 by omega) (by decide)
      obtain ⟨k, h', hk, e', K'⟩ := HL d' rfl (i + 1) cnt I Hd T r (sI h 82 (i + 1) (-1)) (by omega) V hT (KK.above (-1)) sI_eq
      refine ⟨k, h', hk, fun n => ?_, K'⟩
      simp only [bX13_keeps_183, M.k13, k_succ, wq, k_add, if_pos (lt1.mpr q1), M.off, M.c2, M.r82, if_neg nle, t1, bd_some, bd2_some]
      rw [e' n, k_pred]
  · have es : sr (okP P c N I0) (c 5) (c 3 * c 5) d (i + 1) cnt I Hd T r = r := sr_L1 wf_U _ _ _ _ _ _ _ (by omega)
    rw [es]
    refine ⟨0, h, Nat.zero_le _, fun n => ?_, KK⟩
    simp only [bX13_keeps_183, M.k13, k_succ, wq, k_add, if_neg (fun z => q1 (lt1.mp z)), bd_some, bd2_some]
    rfl
/-- the value that stands for a choice: none yet, a pair, nobody -/
def tv (j : Nat) : Int32 := match j with
  | 0 => -1
  | q + 1 => Int32.ofNat q
theorem tv_succ (j : Nat) : tv j + 1 = Int32.ofNat j := by
  cases j with
  | zero => decide
  | succ q => exact k_succ q
theorem tv_lt {j n : Nat} (hj : j ≤ n) (hn : n ≤ 100) : tv j < Int32.ofNat n := by
  cases j with
  | zero => rw [Int32.lt_iff_toInt_lt, k_toInt (by omega), show (tv 0).toInt = -1 by decide]; omega
  | succ q => exact (k_lt (by omega) (by omega)).mpr (by omega)
/-- from a choice on -/
theorem m_choices (M0 : MM o P c N h0) (hW : WP P c) (hN : WN c N) (hink : ∀ s, s < c 3 → h0.1 86 s = Int32.ofNat (I0 s)) (hI0 : ∀ s, I0 s ≤ 100) {d : Nat} (HE : Exp o P c N I0 h0 d) {cnt : Nat} (ei : i + d + 1 = c 2) (V : mInv I0 I Hd i cnt) (hT : okKT (c 3 * c 5) i T) :
    ∀ (m j : Nat) (r : KRs) (h : MH), j + m = c 3 * c 5 → mKel P c I0 h0 I Hd T i r h → h.1 82 i = tv j →
      ∃ k h', k ≤ (m + 1) * (Bd d + 1) ∧ (∀ n, bX13_keeps_104 (fX13_keeps_65 (n + k)) h 77 (iZ r.1) (Int32.ofNat cnt) (Int32.ofNat i) (Int32.ofNat (c 3 * c 5)) = fX13_keeps_65 n h' 77 (iZ (sr (okP P c N I0) (c 5) (c 3 * c 5) d (i + 1) cnt I Hd (setT T i none) (lp (stK (okP P c N I0) (c 5) (c 3 * c 5) d i cnt I Hd T) m j r)).1) (Int32.ofNat cnt) (Int32.ofNat i + (-1)) (Int32.ofNat (c 3 * c 5))) ∧
        mKel P c I0 h0 I Hd T i (sr (okP P c N I0) (c 5) (c 3 * c 5) d (i + 1) cnt I Hd (setT T i none) (lp (stK (okP P c N I0) (c 5) (c 3 * c 5) d i cnt I Hd T) m j r)) h' := by
  have hp := M0.p5
  have hP : c 3 * c 5 ≤ 4 * 3 := Nat.mul_le_mul M0.s4 M0.h3
  have hi : i < c 2 := by omega
  have hcn := V.2.2
  intro m
  induction m using Nat.strongRecOn with
  | _ m ih =>
    intro j r h e K ht
    have M := K.mm M0
    have l1 : lI h 82 (Int32.ofNat i) = some (tv j) := by rw [lI_at (M.sx 82 rfl) (show i < 5 by omega) (by decide), ht]
    have lt1 := tv_lt (j := j) (n := c 3 * c 5) (by omega) (by omega)
    have np := m_nextPair M0 hW hN hink hI0 K V hi (j := j) (by omega)
    rw [show c 3 * c 5 - j = m by omega] at np
    have tq : ∀ x, tI h 82 (Int32.ofNat i) x = some (sI h 82 i x) := fun x => tI_at (M.sx 82 rfl) (show i < 5 by omega) (by decide)
    have M1 : ∀ x, MM o P c N (sI h 82 i x) := fun x => M.wr (by decide) (by decide)
    have lq : ∀ x, lI (sI h 82 i x) 82 (Int32.ofNat i) = some x := fun x => by rw [lI_at ((M1 x).sx 82 rfl) (show i < 5 by omega) (by decide), sI_eq]
    rcases nxt_lp (b := fun q => cnK (okP P c N I0) (c 5) i q I Hd) (st := stK (okP P c N I0) (c 5) (c 3 * c 5) d i cnt I Hd T) (nP := c 3 * c 5) (fun q r hq => by unfold stK; rw [if_neg (by rw [hq]; decide)]) m j r e with ⟨a1, a2⟩ | ⟨a1, a2, a3, a4⟩
    · -- nobody
      rw [a2]
      rw [a1] at np
      have K1 := K.trd none
      have VV : mInv I0 I Hd (i + 1) cnt := ⟨V.1, V.2.1, by omega⟩
      obtain ⟨k, h', hk, e', K'⟩ := HE i cnt I Hd (setT T i none) r (sI h 82 i (mEnc (c 3 * c 5) none)) ei VV (okKT_set hT (fun q eq => by cases eq)) K1
      obtain ⟨K2, t2⟩ := K'.less
      have M2 := K2.mm M0
      have t3 : ∀ x, tI h' 82 (Int32.ofNat i) x = some (sI h' 82 i x) := fun x => tI_at (M2.sx 82 rfl) (show i < 5 by omega) (by decide)
      have M3 : ∀ x, MM o P c N (sI h' 82 i x) := fun x => M2.wr (by decide) (by decide)
      have l2 : lI h' 82 (Int32.ofNat i) = some (Int32.ofNat (c 3 * c 5)) := by rw [lI_at (M2.sx 82 rfl) (show i < 5 by omega) (by decide), t2]; rfl
      have l3 : lI (sI h' 82 i (Int32.ofNat (c 3 * c 5 + 1))) 82 (Int32.ofNat i) = some (Int32.ofNat (c 3 * c 5 + 1)) := by rw [lI_at ((M3 _).sx 82 rfl) (show i < 5 by omega) (by decide), sI_eq]
      refine ⟨k + 1, sI h' 82 i (Int32.ofNat (c 3 * c 5 + 1)), ?_, fun n => ?_, K2.above _⟩
      · have : 1 * (Bd d + 1) ≤ (m + 1) * (Bd d + 1) := Nat.mul_le_mul_right _ (by omega)
        omega
      · have n1 : ¬ Int32.ofNat i < 0 := k_neg (by omega)
        have n2 : ¬ Int32.ofNat (c 3 * c 5) = -1 := fun z => by
          have := k_neg (i := c 3 * c 5) (by omega)
          rw [z] at this; exact this (by decide)
        have n3 : ¬ Int32.ofNat (c 3 * c 5) < Int32.ofNat (c 3 * c 5) := fun z => Int32.lt_irrefl z
        have n4 : ¬ Int32.ofNat (c 3 * c 5 + 1) ≤ Int32.ofNat (c 3 * c 5) := k_nle (by omega) (by omega)
        have step : fX13_keeps_65 (n + 1) h' 77 (iZ (sr (okP P c N I0) (c 5) (c 3 * c 5) d (i + 1) cnt I Hd (setT T i none) r).1) (Int32.ofNat cnt) (Int32.ofNat i) (Int32.ofNat (c 3 * c 5)) = fX13_keeps_65 n (sI h' 82 i (Int32.ofNat (c 3 * c 5 + 1))) 77 (iZ (sr (okP P c N I0) (c 5) (c 3 * c 5) d (i + 1) cnt I Hd (setT T i none) r).1) (Int32.ofNat cnt) (Int32.ofNat i + (-1)) (Int32.ofNat (c 3 * c 5)) := by
          show bX13_keeps_65 (fX13_keeps_65 n) h' 77 _ _ _ _ = _
          simp only [bX13_keeps_65, if_neg n1, M2.r82, l2, if_neg n2, if_pos (k_rfl _), bX13_keeps_104, if_neg n3, bX13_keeps_140, k_succ, t3, (M3 _).r82, l3, if_neg n4, bd_some]
        rw [← step, ← e' (n + 1), show n + (k + 1) = n + 1 + k by omega]
        simp only [bX13_keeps_104, M.r82, l1, if_pos lt1, M.k13, tv_succ, np, bX13_keeps_140, tq, (M1 _).r82, lq, if_pos (k_rfl _), bd_some, bd2_some]
        rfl
    · -- a pair
      rw [a4]
      generalize hq : nxt (fun q => cnK (okP P c N I0) (c 5) i q I Hd) m j = q at *
      have hb := a3
      unfold cnK at hb
      simp only [Bool.and_eq_true, decide_eq_true_eq] at hb
      obtain ⟨⟨z1, z2⟩, z3⟩ := hb
      obtain ⟨q1, q2⟩ := pq_lt a1
      have K1 := K.trd (some q)
      have MQ := M1 (mEnc (c 3 * c 5) (some q))
      have V1 : mInv I0 I Hd (i + 1) cnt := ⟨V.1, V.2.1, by omega⟩
      have K2 := K1.press V1 q1 q2 z2 z3
      have VV : mInv I0 (dec1 I (q / c 5)) (dec1 Hd (q % c 5)) (i + 1) (cnt + 1) := ⟨fun s => by have := V.1 s; unfold dec1; split <;> omega, fun s => by have := V.2.1 s; unfold dec1; split <;> omega, by omega⟩
      have cn1 := m_cnts MQ a1 1
      have hT2 : okKT (c 3 * c 5) (i + 1) (setT T i (some q)) := okKT_set hT (fun q' eq => by cases eq; exact a1)
      obtain ⟨k1, h1, hk1, e1, K3⟩ := HE i (cnt + 1) _ _ (setT T i (some q)) r _ ei VV hT2 K2
      have est : stK (okP P c N I0) (c 5) (c 3 * c 5) d i cnt I Hd T q r = sr (okP P c N I0) (c 5) (c 3 * c 5) d (i + 1) (cnt + 1) (dec1 I (q / c 5)) (dec1 Hd (q % c 5)) (setT T i (some q)) r := by unfold stK; rw [if_pos a3]
      rw [est]
      generalize hr : sr (okP P c N I0) (c 5) (c 3 * c 5) d (i + 1) (cnt + 1) (dec1 I (q / c 5)) (dec1 Hd (q % c 5)) (setT T i (some q)) r = r1 at *
      obtain ⟨K4, t4⟩ := K3.less
      have M4 := K4.mm M0
      have K5 := K4.unpress V q1 q2 z2 z3
      have cn2 := m_cnts M4 a1 (-1)
      have t5 : (sI (sI h1 84 (q / c 5) (h1.1 84 (q / c 5) + (-1))) 85 (q % c 5) (h1.1 85 (q % c 5) + (-1))).1 82 i = tv (q + 1) := by rw [sI_ne (by omega), sI_ne (by omega), t4]; rfl
      obtain ⟨k2, h2, hk2, e2, K6⟩ := ih (c 3 * c 5 - (q + 1)) (by omega) (q + 1) r1 _ (by omega) K5 t5
      refine ⟨k1 + 1 + k2, h2, ?_, fun n => ?_, K6⟩
      · have h1' : (c 3 * c 5 - (q + 1) + 1) * (Bd d + 1) ≤ m * (Bd d + 1) := Nat.mul_le_mul_right _ (by omega)
        have h2' : (m + 1) * (Bd d + 1) = m * (Bd d + 1) + (Bd d + 1) := Nat.succ_mul _ _
        omega
      · have n1 : ¬ Int32.ofNat i < 0 := k_neg (by omega)
        have n2 : ¬ Int32.ofNat q = -1 := fun z => by
          have := k_neg (i := q) (by omega)
          rw [z] at this; exact this (by decide)
        have n3 : ¬ Int32.ofNat (c 3 * c 5) ≤ Int32.ofNat q := k_nle a1 (by omega)
        have le3 : Int32.ofNat q ≤ Int32.ofNat (c 3 * c 5) := (k_le (by omega) (by omega)).mpr (by omega)
        have l4 : lI h1 82 (Int32.ofNat i) = some (Int32.ofNat q) := by rw [lI_at (M4.sx 82 rfl) (show i < 5 by omega) (by decide), t4]; rfl
        have step : fX13_keeps_65 (n + k2 + 1) h1 77 (iZ r1.1) (Int32.ofNat (cnt + 1)) (Int32.ofNat i) (Int32.ofNat (c 3 * c 5)) = bX13_keeps_104 (fX13_keeps_65 (n + k2)) (sI (sI h1 84 (q / c 5) (h1.1 84 (q / c 5) + (-1))) 85 (q % c 5) (h1.1 85 (q % c 5) + (-1))) 77 (iZ r1.1) (Int32.ofNat cnt) (Int32.ofNat i) (Int32.ofNat (c 3 * c 5)) := by
          show bX13_keeps_65 (fX13_keeps_65 (n + k2)) h1 77 _ _ _ _ = _
          simp only [bX13_keeps_65, if_neg n1, M4.r82, l4, if_neg n2, if_neg n3, M4.k13, cn2, k_pred, bd_some]
        rw [← e2 n, ← step, ← e1 (n + k2 + 1), show n + (k1 + 1 + k2) = n + k2 + 1 + k1 by omega]
        simp only [bX13_keeps_104, M.r82, l1, if_pos lt1, M.k13, tv_succ, np, bX13_keeps_140, tq, (M1 _).r82, lq, if_pos le3, if_neg n3, (M1 _).k13, show mEnc (c 3 * c 5) (some q) = Int32.ofNat q from rfl, k_succ, bd_some, bd2_some]
        have cn1' : fX13_counts (sI h 82 i (Int32.ofNat q)) 77 (Int32.ofNat q) 1 = some _ := cn1
        rw [cn1', bd_some]
        rfl
theorem m_lev (M0 : MM o P c N h0) (hW : WP P c) (hN : WN c N) (hink : ∀ s, s < c 3 → h0.1 86 s = Int32.ofNat (I0 s)) (hI0 : ∀ s, I0 s ≤ 100) (d : Nat) (HE : Exp o P c N I0 h0 d) : Lev o P c N I0 h0 d := by
  intro i cnt I Hd T r h ei V hT K ht
  have M := K.mm M0
  have hp := M0.p5
  have hP : c 3 * c 5 ≤ 4 * 3 := Nat.mul_le_mul M0.s4 M0.h3
  obtain ⟨k, h', hk, e, K'⟩ := m_choices M0 hW hN hink hI0 HE ei V hT (c 3 * c 5) 0 r h (by omega) K ht
  refine ⟨k + 1, h', ?_, fun n => ?_, K'⟩
  · have : (c 3 * c 5 + 1) * (Bd d + 1) ≤ 13 * (Bd d + 1) := Nat.mul_le_mul_right _ (by omega)
    show k + 1 ≤ 13 * (Bd d + 1) + 1
    omega
  · have n1 : ¬ Int32.ofNat i < 0 := k_neg (by omega)
    have l1 : lI h 82 (Int32.ofNat i) = some (-1) := by rw [lI_at (M.sx 82 rfl) (show i < 5 by omega) (by decide), ht]
    refine Eq.trans ?_ (e n)
    show bX13_keeps_65 (fX13_keeps_65 (n + k)) h 77 _ _ _ _ = _
    simp only [bX13_keeps_65, if_neg n1, M.r82, l1, if_true, bd_some]
theorem m_levs (M0 : MM o P c N h0) (hW : WP P c) (hN : WN c N) (hink : ∀ s, s < c 3 → h0.1 86 s = Int32.ofNat (I0 s)) (hI0 : ∀ s, I0 s ≤ 100) : ∀ d, Lev o P c N I0 h0 d
  | 0 => m_lev M0 hW hN hink hI0 0 (m_exp M0 0 (fun d' e => by omega))
  | d + 1 => m_lev M0 hW hN hink hI0 (d + 1) (m_exp M0 (d + 1) (fun d' e => by
      have : d' = d := by omega
      subst this
      exact m_levs M0 hW hN hink hI0 d'))
end KEM
