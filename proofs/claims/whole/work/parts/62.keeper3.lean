/-! ===== KEPT: how the class's search begins ===== -/
section KED
variable {p : Nat} {P : PT} {c : CT} {N : Nat → Int32} {I0 : Nat → Nat} {h h0 h1 : MH} {I Hd : Nat → Nat} {T : KT} {i : Nat} {r : KRs}
/-- ink, one more of the stamp named -/
def inkF (N : Nat → Int32) (x : Int32) (s : Nat) : Nat := if s < 4 then (N (10 + s)).toNatClampNeg + (if Int32.ofNat s = x then 1 else 0) else 0
theorem WN.ik (hN : WN c N) {s : Nat} (hs : s < 4) : N (10 + s) = Int32.ofNat (N (10 + s)).toNatClampNeg ∧ (N (10 + s)).toNatClampNeg ≤ 9 := by
  obtain ⟨j, h1, h2⟩ := hN.2.1 s hs
  rw [h2, k_clamp (by omega)]
  exact ⟨rfl, h1⟩
theorem inkF_le (hN : WN c N) (x : Int32) (s : Nat) : inkF N x s ≤ 10 := by
  unfold inkF
  by_cases q : s < 4
  · have := (hN.ik q).2
    rw [if_pos q]
    split <;> omega
  · rw [if_neg q]; omega
theorem c_setRooms (C : CD p P c N h) (hN : WN c N) (x : Int32) : fX3_setRooms h 64 x = some (cpO (cpO h 67 0 (fun s => Int32.ofNat (inkF N x s)) (c 3)) 68 0 (fun _ => Int32.ofNat 2) (c 5)) := by
  have h4 := C.s4
  have h3 := C.h3
  have C1 : ∀ k, CD p P c N (cpO h 67 0 (fun s => Int32.ofNat (inkF N x s)) k) := fun k => C.same2 rfl (fun b j q1 q2 => cpO_out (by omega))
  have C2 : ∀ k, CD p P c N (cpO (cpO h 67 0 (fun s => Int32.ofNat (inkF N x s)) (c 3)) 68 0 (fun _ => Int32.ofNat 2) k) := fun k => (C1 (c 3)).same2 rfl (fun b j q1 q2 => cpO_out (by omega))
  have e2 := lp0 (F := fun n k (_ : Unit) => fX3_setRooms_52 n (cpO (cpO h 67 0 (fun s => Int32.ofNat (inkF N x s)) (c 3)) 68 0 (fun _ => Int32.ofNat 2) k) 64 (Int32.ofNat k)) (fin := fun _ => some (cpO (cpO h 67 0 (fun s => Int32.ofNat (inkF N x s)) (c 3)) 68 0 (fun _ => Int32.ofNat 2) (c 5))) (st := fun _ a => a) (b := c 5) C.b5
    (fun n _ => by
      have Cx := C2 (c 5)
      show bX3_setRooms_52 _ _ 64 (Int32.ofNat (c 5)) = _
      simp only [bX3_setRooms_52, Cx.keeD, Cx.plan, Cx.c5, bd_some, if_pos (k_rfl _)])
    (fun n k _ hk => by
      have Cx := C2 k
      have h1 := k_nle hk C.b5
      have t1 : tI (cpO (cpO h 67 0 (fun s => Int32.ofNat (inkF N x s)) (c 3)) 68 0 (fun _ => Int32.ofNat 2) k) 68 (Int32.ofNat k) 2 = some (cpO (cpO h 67 0 (fun s => Int32.ofNat (inkF N x s)) (c 3)) 68 0 (fun _ => Int32.ofNat 2) (k + 1)) := by
        rw [tI_at (Cx.1.sh 68 rfl) (show k < 3 by omega) (by decide)]
        have := cpO_s (h := cpO h 67 0 (fun s => Int32.ofNat (inkF N x s)) (c 3)) (b := 68) (d := 0) (f := fun _ => Int32.ofNat 2) (k := k) (x := 2) rfl
        rw [Nat.zero_add] at this; rw [this]
      show bX3_setRooms_52 _ _ 64 (Int32.ofNat k) = _
      simp only [bX3_setRooms_52, Cx.keeD, Cx.plan, Cx.c5, Cx.q4, t1, bd_some, if_neg h1, k_succ]) ()
  have e1 := lp0 (F := fun n k (_ : Unit) => fX3_setRooms_2 n (cpO h 67 0 (fun s => Int32.ofNat (inkF N x s)) k) 64 x (Int32.ofNat k)) (fin := fun _ => fX3_setRooms_52 FU (cpO h 67 0 (fun s => Int32.ofNat (inkF N x s)) (c 3)) 64 0) (st := fun _ a => a) (b := c 3) C.b3
    (fun n _ => by
      have Cx := C1 (c 3)
      show bX3_setRooms_2 _ _ 64 _ (Int32.ofNat (c 3)) = _
      simp only [bX3_setRooms_2, Cx.keeD, Cx.plan, Cx.c3, bd_some, if_pos (k_rfl _)])
    (fun n k _ hk => by
      have Cx := C1 k
      have h1 := k_nle hk C.b3
      obtain ⟨i1, i2⟩ := hN.ik (show k < 4 by omega)
      have t1 : ∀ y : Int32, y = Int32.ofNat (inkF N x k) → tI (cpO h 67 0 (fun s => Int32.ofNat (inkF N x s)) k) 67 (Int32.ofNat k) y = some (cpO h 67 0 (fun s => Int32.ofNat (inkF N x s)) (k + 1)) := fun y hy => by
        rw [tI_at (Cx.1.sh 67 rfl) (show k < 4 by omega) (by decide)]
        have := cpO_s (h := h) (b := 67) (d := 0) (f := fun s => Int32.ofNat (inkF N x s)) (k := k) hy
        rw [Nat.zero_add] at this; rw [this]
      show bX3_setRooms_2 _ _ 64 _ (Int32.ofNat k) = _
      simp only [bX3_setRooms_2, Cx.keeD, Cx.plan, Cx.c3, Cx.q3, Cx.now, Cx.k4, c_inkOf Cx (show k < 4 by omega), bd_some, bd2_some, if_neg h1, k_succ]
      by_cases q : Int32.ofNat k = x
      · rw [if_pos q, t1 (N (10 + k) + 1) (by unfold inkF; rw [if_pos (show k < 4 by omega), if_pos q, ← k_succ, ← i1]), bd_some]
      · rw [if_neg q, t1 (N (10 + k) + 0) (by unfold inkF; rw [if_pos (show k < 4 by omega), if_neg q, Nat.add_zero, ← i1, Int32.add_zero]), bd_some]) ()
  rw [cpO_0] at e1
  rw [cpO_0] at e2
  exact Eq.trans e1 e2
theorem okP_w (hi : i < c 2) (hw : ¬ P 1 i = -2) {s j : Nat} (hj : j < c 5) : okP P c N I0 i (s * c 5 + j) = (decide (prK (P 7 j) (sayN P c N s i) = P 1 i) && decide (0 < I0 s)) := by
  obtain ⟨d1, d2⟩ := pq_div (s := s) hj
  unfold okP
  rw [d1, d2]
  simp [hi, hw]
theorem bF_w {s j : Nat} (hs : s < c 3) (hj : j < c 5) (h3 : c 5 ≤ 3) : bF P c N I0 i (3 * s + j) = okP P c N I0 i (s * c 5 + j) := by
  unfold bF
  rw [show (3 * s + j) / 3 = s by omega, show (3 * s + j) % 3 = j by omega]
  simp [hs, hj]
theorem c_pairs (C : CD p P c N h) (h67 : ∀ s, s < c 3 → h.1 67 s = Int32.ofNat (I0 s)) (hI0 : ∀ s, I0 s ≤ 100) (hi : i < c 2) (hw : ¬ P 1 i = -2) : fX3_pairsThatPrint h 64 (Int32.ofNat i) (P 1 i) = some (Int32.ofNat (fxN P c N I0 i), h) := by
  have h4 := C.s4
  have h3 := C.h3
  have h5 := C.p5
  have inner : ∀ (k18 : MH → Nat → Int32 → Int32 → Int32 → Int32 → Option (Int32 × MH)) (s : Nat), s < c 3 → fX3_pairsThatPrint_49 k18 FU h 64 (P 1 i) (Int32.ofNat (LN (bF P c N I0 i) (3 * s))) (N i) (Int32.ofNat s) (sayN P c N s i) (Int32.ofNat 0) = k18 h 64 (P 1 i) (Int32.ofNat (LN (bF P c N I0 i) (3 * (s + 1)))) (N i) (Int32.ofNat (s + 1)) := fun k18 s hs => by
    have l1 : lI h 67 (Int32.ofNat s) = some (Int32.ofNat (I0 s)) := by rw [lI_at (C.1.sh 67 rfl) (show s < 4 by omega) (by decide), h67 s hs]
    have hI := hI0 s
    rcases Nat.eq_zero_or_pos (I0 s) with z | z
    · have ef : LN (bF P c N I0 i) (3 * (s + 1)) = LN (bF P c N I0 i) (3 * s) := by
        rw [show 3 * (s + 1) = 3 * s + 3 by omega]
        apply LN_flat 3
        intro k k1 k2
        unfold bF
        rw [show k / 3 = s by omega]
        by_cases q : k % 3 < c 5
        · rw [okP_w hi hw q, z]; simp
        · simp [q]
      obtain ⟨n, hn⟩ := FU_at 0 (by decide)
      rw [ef, hn]
      show bX3_pairsThatPrint_49 k18 _ h 64 _ _ _ _ _ (Int32.ofNat 0) = _
      have z0 : Int32.ofNat (I0 s) ≤ 0 := (k_le0 (by omega)).mpr z
      simp only [bX3_pairsThatPrint_49, C.keeD, C.plan, C.c5, C.q3, l1, bd_some, if_pos z0, k_succ]
      split <;> rfl
    · have z0 : ¬ Int32.ofNat (I0 s) ≤ 0 := fun w => by have := (k_le0 (by omega)).mp w; omega
      have ef : LN (bF P c N I0 i) (3 * (s + 1)) = LN (bF P c N I0 i) (3 * s + c 5) := by
        rw [show 3 * (s + 1) = 3 * s + c 5 + (3 - c 5) by omega]
        apply LN_flat (3 - c 5)
        intro k k1 k2
        unfold bF
        have : ¬ k % 3 < c 5 := by omega
        simp [this]
      rw [ef]
      exact lp0 (F := fun n j (_ : Unit) => fX3_pairsThatPrint_49 k18 n h 64 (P 1 i) (Int32.ofNat (LN (bF P c N I0 i) (3 * s + j))) (N i) (Int32.ofNat s) (sayN P c N s i) (Int32.ofNat j)) (fin := fun _ => k18 h 64 (P 1 i) (Int32.ofNat (LN (bF P c N I0 i) (3 * s + c 5))) (N i) (Int32.ofNat (s + 1))) (st := fun _ a => a) (b := c 5) C.b5
        (fun n _ => by
          show bX3_pairsThatPrint_49 k18 _ h 64 _ _ _ _ _ (Int32.ofNat (c 5)) = _
          simp only [bX3_pairsThatPrint_49, C.keeD, C.plan, C.c5, bd_some, if_pos (k_rfl _), k_succ])
        (fun n j _ hj => by
          have h1 := k_nle hj C.b5
          have eb : bF P c N I0 i (3 * s + j) = decide (prK (P 7 j) (sayN P c N s i) = P 1 i) := by rw [bF_w hs hj h3, okP_w hi hw hj]; simp [z]
          have e3 : Int32.ofNat s * 3 + Int32.ofNat j = Int32.ofNat (3 * s + j) := by rw [show (3 : Int32) = Int32.ofNat 3 from rfl, k_mul, k_add, Nat.mul_comm]
          have eo := LN_or (b := bF P c N I0 i) (n := 3 * s + j) (by omega)
          show bX3_pairsThatPrint_49 k18 _ h 64 _ _ _ _ _ (Int32.ofNat j) = _
          simp only [bX3_pairsThatPrint_49, C.keeD, C.plan, C.c5, C.q3, C.k5, l1, c_printBy C hj, e3, eo, bd_some, bd2_some, if_neg h1, if_neg z0, k_succ]
          have es : LN (bF P c N I0 i) (3 * s + (j + 1)) = if bF P c N I0 i (3 * s + j) = true then LN (bF P c N I0 i) (3 * s + j) + 2 ^ (3 * s + j) else LN (bF P c N I0 i) (3 * s + j) := rfl
          rw [es, eb]
          by_cases q : prK (P 7 j) (sayN P c N s i) = P 1 i
          · simp only [if_pos q, decide_eq_true_eq]
          · simp only [if_neg q, decide_eq_true_eq]) ()
  have hfx : fxN P c N I0 i = LN (bF P c N I0 i) (3 * c 3) := by
    unfold fxN
    rw [show 12 = 3 * c 3 + (12 - 3 * c 3) by omega]
    apply LN_flat
    intro k k1 k2
    unfold bF
    have : ¬ k / 3 < c 3 := by omega
    simp [this]
  rw [hfx]
  have e0 : fX3_pairsThatPrint h 64 (Int32.ofNat i) (P 1 i) = fX3_pairsThatPrint_18 FU h 64 (P 1 i) (Int32.ofNat (LN (bF P c N I0 i) (3 * 0))) (N i) (Int32.ofNat 0) := by
    simp only [fX3_pairsThatPrint, C.keeD, C.now, C.k4, c_marksOf C (show i < 5 by omega), bd_some, bd2_some]; rfl
  rw [e0]
  exact lp0 (F := fun n s (_ : Unit) => fX3_pairsThatPrint_18 n h 64 (P 1 i) (Int32.ofNat (LN (bF P c N I0 i) (3 * s))) (N i) (Int32.ofNat s)) (fin := fun _ => some (Int32.ofNat (LN (bF P c N I0 i) (3 * c 3)), h)) (st := fun _ a => a) (b := c 3) C.b3
    (fun n _ => by
      show bX3_pairsThatPrint_18 _ h 64 _ _ _ (Int32.ofNat (c 3)) = _
      simp only [bX3_pairsThatPrint_18, C.keeD, C.plan, C.c3, bd_some, if_pos (k_rfl _)])
    (fun n s _ hs => by
      have h1 := k_nle hs C.b3
      have e := inner (fX3_pairsThatPrint_18 n) s hs
      have es : fX5_sayOf h 26 (Int32.ofNat s) (N i) = some (sayN P c N s i, h) := c_sayOf C hs (N i)
      show bX3_pairsThatPrint_18 (fX3_pairsThatPrint_18 n) h 64 _ _ _ (Int32.ofNat s) = _
      simp only [bX3_pairsThatPrint_18, C.keeD, C.plan, C.c3, C.k5, es, bd_some, bd2_some, if_neg h1]
      exact e) ()
/-- fits and what still can be kept, from the last paper on -/
def kJ (P : PT) (c : CT) (N : Nat → Int32) (I0 : Nat → Nat) (h0 : MH) (m : Nat) (h : MH) : Prop := h.2 = h0.2 ∧ (∀ b k, b ≠ 65 → b ≠ 66 → h.1 b k = h0.1 b k) ∧ (∀ j, m ≤ j → j < c 2 → h.1 65 j = Int32.ofNat (fxN P c N I0 j)) ∧ ∀ j, m ≤ j → j ≤ c 2 → h.1 66 j = Int32.ofNat (stl P c N I0 j)
theorem c_fits76 (C1 : CD p P c N h) {m X Y : Nat} (hm : m < 5) (hX : X < 4096) (h66 : h.1 66 (m + 1) = Int32.ofNat Y) (k29 : MH → Nat → Int32 → Option MH) :
    bX3_setFits_76 k29 h 64 (Int32.ofNat m) (Int32.ofNat X) (Int32.ofNat m) 65 = k29 (sI (sI h 65 m (Int32.ofNat X)) 66 m (Int32.ofNat (Y + if X = 0 then 0 else 1))) 64 (Int32.ofNat m + (-1)) := by
  have t1 : tI h 65 (Int32.ofNat m) (Int32.ofNat X) = some (sI h 65 m (Int32.ofNat X)) := tI_at (C1.1.sh 65 rfl) hm (by decide)
  have C2 : CD p P c N (sI h 65 m (Int32.ofNat X)) := C1.same2 rfl (fun b k q1 q2 => sI_ne (by omega))
  have l2 : lI (sI h 65 m (Int32.ofNat X)) 66 (Int32.ofNat (m + 1)) = some (Int32.ofNat Y) := by rw [lI_at (C2.1.sh 66 rfl) (show m + 1 < 6 by omega) (by decide), sI_ne (by omega), h66]
  have l3 : lI (sI h 65 m (Int32.ofNat X)) 65 (Int32.ofNat m) = some (Int32.ofNat X) := by rw [lI_at (C2.1.sh 65 rfl) hm (by decide), sI_eq]
  have ev : (Int32.ofNat X = 0) ↔ X = 0 := k_eq (n := 0) (by omega) (by decide)
  have tt : ∀ y : Int32, tI (sI h 65 m (Int32.ofNat X)) 66 (Int32.ofNat m) y = some (sI (sI h 65 m (Int32.ofNat X)) 66 m y) := fun y => tI_at (C2.1.sh 66 rfl) (show m < 6 by omega) (by decide)
  simp only [bX3_setFits_76, t1, C2.q1, C2.q2, k_succ, l2, l3, tt, bd_some, ev]
  by_cases z : X = 0
  · simp only [if_pos z, Int32.add_zero, Nat.add_zero]
  · simp only [if_neg z]
theorem c_fits29 (C : CD p P c N h0) (h67 : ∀ s, s < c 3 → h0.1 67 s = Int32.ofNat (I0 s)) (hI0 : ∀ s, I0 s ≤ 100) : ∀ (m n : Nat) (h : MH), m ≤ c 2 → kJ P c N I0 h0 m h → ∃ h', fX3_setFits_29 (n + m + 1) h 64 (Int32.ofNat m + (-1)) = some h' ∧ kJ P c N I0 h0 0 h' := by
  intro m
  induction m with
  | zero =>
    intro n h hm J
    refine ⟨h, ?_, J⟩
    show bX3_setFits_29 _ h 64 (Int32.ofNat 0 + (-1)) = _
    unfold bX3_setFits_29
    rw [if_pos (show Int32.ofNat 0 + (-1) < 0 by decide)]
  | succ m ih =>
    intro n h hm J
    have h5 := C.p5
    obtain ⟨j1, j2, j3, j4⟩ := J
    have C1 : CD p P c N h := C.same2 (by rw [j1]) (fun b k q1 q2 => j2 b k (by omega) (by omega))
    have ex : Int32.ofNat (m + 1) + (-1) = Int32.ofNat m := by
      rw [← k_succ, Int32.add_assoc, show (1 : Int32) + (-1) = 0 by decide, Int32.add_zero]
    have n0 : ¬ Int32.ofNat m < 0 := k_neg (by omega)
    have hfl := LN_lt (bF P c N I0 m) 12
    have hfx : fxN P c N I0 m < 4096 := hfl
    have fin : ∃ h', bX3_setFits_76 (fX3_setFits_29 (n + m + 1)) h 64 (Int32.ofNat m) (Int32.ofNat (fxN P c N I0 m)) (Int32.ofNat m) 65 = some h' ∧ kJ P c N I0 h0 0 h' := by
      rw [c_fits76 C1 (show m < 5 by omega) hfx (j4 (m + 1) (Nat.le_refl _) hm), ← stl_s (P := P) (N := N) (I0 := I0) (show m < c 2 by omega)]
      refine ih n _ (by omega) ⟨j1, fun b k q1 q2 => by rw [sI_ne (by omega), sI_ne (by omega)]; exact j2 b k q1 q2, fun j hj1 hj2 => ?_, fun j hj1 hj2 => ?_⟩
      · rw [sI_ne (by omega)]
        by_cases z : j = m
        · rw [z, sI_eq]
        · rw [sI_ne (by omega)]; exact j3 j (by omega) hj2
      · by_cases z : j = m
        · rw [z, sI_eq]
        · rw [sI_ne (by omega), sI_ne (by omega)]; exact j4 j (by omega) hj2
    show ∃ h', bX3_setFits_29 (fX3_setFits_29 (n + m + 1)) h 64 (Int32.ofNat (m + 1) + (-1)) = some h' ∧ _
    rw [ex]
    simp only [bX3_setFits_29, if_neg n0, C1.q1, C1.keeD, C1.plan, C1.t1, C1.a1 (show m < c 2 by omega), C1.keeK, bd_some]
    by_cases z : P 1 m = -2
    · rw [if_pos z]
      have e0 : fxN P c N I0 m = 0 := LN_zero _ (fun k hk => by unfold bF okP; simp [z])
      rw [e0] at fin
      exact fin
    · rw [if_neg z, c_pairs C1 (fun s hs => by rw [j2 67 s (by omega) (by omega)]; exact h67 s hs) hI0 (show m < c 2 by omega) z, bd2_some]
      exact fin
theorem c_setFits (C : CD p P c N h) (h67 : ∀ s, s < c 3 → h.1 67 s = Int32.ofNat (I0 s)) (hI0 : ∀ s, I0 s ≤ 100) : ∃ h', fX3_setFits h 64 = some h' ∧ kJ P c N I0 h 0 h' := by
  have h5 := C.p5
  have t0 : tI h 66 (Int32.ofNat (c 2)) 0 = some (sI h 66 (c 2) 0) := tI_at (C.1.sh 66 rfl) (show c 2 < 6 by omega) (by decide)
  have C1 : CD p P c N (sI h 66 (c 2) 0) := C.same2 rfl (fun b k q1 q2 => sI_ne (by omega))
  obtain ⟨n, hn⟩ := FU_at (c 2) (by omega)
  obtain ⟨h', e, J⟩ := c_fits29 (h0 := h) C h67 hI0 (c 2) n (sI h 66 (c 2) 0) (Nat.le_refl _) ⟨rfl, fun b k q1 q2 => sI_ne (by omega), fun j a1 a2 => by omega, fun j a1 a2 => by
    have : j = c 2 := by omega
    subst this
    rw [sI_eq, stl_0 (Nat.le_refl _)]; rfl⟩
  refine ⟨h', ?_, J⟩
  simp only [fX3_setFits, C.q2, C.keeD, C.plan, C.c2, t0, C1.keeD, C1.plan, C1.c2, bd_some]
  rw [hn, show Int32.ofNat (c 2) - 1 = Int32.ofNat (c 2) + (-1) from Int32.sub_eq_add_neg _ _]
  exact e
theorem mMin_N {a b : Nat} (ha : a < 2147483648) (hb : b < 2147483648) : mMin (Int32.ofNat a) (Int32.ofNat b) = Int32.ofNat (if b < a then b else a) := by
  unfold mMin
  by_cases q : b < a
  · rw [if_pos q, if_pos ((k_lt hb ha).mpr q)]
  · rw [if_neg q, if_neg (fun w => q ((k_lt hb ha).mp w))]
theorem c_mostThat (C : CD p P c N h) (h67 : ∀ s, s < c 3 → h.1 67 s = Int32.ofNat (I0 s)) (h66 : h.1 66 0 = Int32.ofNat (stl P c N I0 0)) (hI0 : ∀ s, I0 s ≤ 100) : fX3_mostThatCanBe h 64 = some (Int32.ofNat (enN P c N I0), h) := by
  have h4 := C.s4
  have h3 := C.h3
  have h5 := C.p5
  have hs := smN_bd hI0 (c 3)
  have hst := stl_le (P := P) (c := c) (N := N) (I0 := I0) 0
  have h400 : smN I0 (c 3) ≤ 400 := Nat.le_trans hs (Nat.mul_le_mul_right 100 h4)
  exact lp0 (F := fun n k (_ : Unit) => fX3_mostThatCanBe_4 n h 64 (Int32.ofNat (smN I0 k)) (Int32.ofNat k)) (fin := fun _ => some (Int32.ofNat (enN P c N I0), h)) (st := fun _ a => a) (b := c 3) C.b3
    (fun n _ => by
      have l0 : lI h 66 0 = some (Int32.ofNat (stl P c N I0 0)) := by rw [show (0 : Int32) = Int32.ofNat 0 from rfl, lI_at (C.1.sh 66 rfl) (by decide) (by decide), h66]
      have e2 : (2 : Int32) * Int32.ofNat (c 5) = Int32.ofNat (2 * c 5) := by rw [show (2 : Int32) = Int32.ofNat 2 from rfl, k_mul]
      show bX3_mostThatCanBe_4 _ h 64 _ (Int32.ofNat (c 3)) = _
      simp only [bX3_mostThatCanBe_4, C.keeD, C.plan, C.c3, C.c5, C.q2, l0, e2, bd_some, if_pos (k_rfl _)]
      rw [mMin_N (by omega) (by omega), mMin_N (by omega) (by split <;> omega)]
      rfl)
    (fun n k _ hk => by
      have h1 := k_nle hk C.b3
      have l1 : lI h 67 (Int32.ofNat k) = some (Int32.ofNat (I0 k)) := by rw [lI_at (C.1.sh 67 rfl) (show k < 4 by omega) (by decide), h67 k hk]
      show bX3_mostThatCanBe_4 _ h 64 _ (Int32.ofNat k) = _
      simp only [bX3_mostThatCanBe_4, C.keeD, C.plan, C.c3, C.q3, l1, bd_some, if_neg h1, k_succ, k_add]
      rfl) ()
/-- what is found, z known, one ink more of x -/
def ksr (P : PT) (c : CT) (N : Nat → Int32) (x : Int32) (z : Int) : KRs := sr (okP P c N (inkF N x)) (c 5) (c 3 * c 5) (c 2) 0 0 (inkF N x) (fun _ => 2) (fun _ => none) (z, none)
theorem smN_two : ∀ n, smN (fun _ => 2) n = 2 * n
  | 0 => rfl
  | n + 1 => by unfold smN; rw [smN_two n]; omega
theorem c_mostWants (C : CD p P c N h) (hN : WN c N) (x : Int32) {z : Int} (hz1 : -1 ≤ z) (hz2 : z ≤ 900) : ∃ h', fX3_mostWants h 64 x (iZ z) = some (iZ (ksr P c N x z).1, h') ∧ kRel P c N (inkF N x) h (inkF N x) (fun _ => 2) (fun _ => none) 0 (ksr P c N x z) h' := by
  have h4 := C.s4
  have h3 := C.h3
  have h5 := C.p5
  have hI0 : ∀ s, inkF N x s ≤ 100 := fun s => Nat.le_trans (inkF_le hN x s) (by decide)
  have e1 := c_setRooms C hN x
  generalize hA : cpO (cpO h 67 0 (fun s => Int32.ofNat (inkF N x s)) (c 3)) 68 0 (fun _ => Int32.ofNat 2) (c 5) = A at e1
  have as : A.2 = h.2 := by rw [← hA]; rfl
  have ao : ∀ b k, b ≠ 67 → b ≠ 68 → A.1 b k = h.1 b k := fun b k q1 q2 => by rw [← hA, cpO_out (by omega), cpO_out (by omega)]
  have a67 : ∀ s, s < c 3 → A.1 67 s = Int32.ofNat (inkF N x s) := fun s hs => by
    rw [← hA, cpO_out (by omega)]
    have := cpO_in (h := h) (b := 67) (d := 0) (f := fun s => Int32.ofNat (inkF N x s)) (k := c 3) hs
    rw [Nat.zero_add] at this; exact this
  have a68 : ∀ s, s < c 5 → A.1 68 s = Int32.ofNat 2 := fun s hs => by
    rw [← hA]
    have := cpO_in (h := cpO h 67 0 (fun s => Int32.ofNat (inkF N x s)) (c 3)) (b := 68) (d := 0) (f := fun _ => Int32.ofNat 2) (k := c 5) hs
    rw [Nat.zero_add] at this; exact this
  have CA : CD p P c N A := C.same2 (by rw [as]) (fun b k q1 q2 => ao b k (by omega) (by omega))
  obtain ⟨B, e2, J⟩ := c_setFits CA a67 hI0
  have CB : CD p P c N B := CA.same2 (by rw [J.1]) (fun b k q1 q2 => J.2.1 b k (by omega) (by omega))
  have e3 := c_mostThat CB (fun s hs => by rw [J.2.1 67 s (by omega) (by omega)]; exact a67 s hs) (J.2.2.2 0 (Nat.le_refl _) (by omega)) hI0
  have s64 : B.2.2.2[64]? = some (3, 0) := CB.1.sh 64 rfl
  have K : kRel P c N (inkF N x) h (inkF N x) (fun _ => 2) (fun _ => none) 0 (z, none) (sI (sI B 64 8 (Int32.ofNat (enN P c N (inkF N x)))) 64 7 (iZ z)) := by
    refine ⟨J.1.trans as, fun b k q => ?_, fun j hj => ?_, fun j hj => ?_, by rw [sI_ne (by omega), sI_eq], fun s hs => ?_, fun j hj => ?_, fun j hj => by omega, sI_eq, ⟨hz1, hz2⟩, fun T' e => by cases e⟩
    · rw [sI_ne (by omega), sI_ne (by omega), J.2.1 b k (by omega) (by omega), ao b k (by omega) (by omega)]
    · rw [sI_ne (by omega), sI_ne (by omega)]; exact J.2.2.1 j (Nat.zero_le _) hj
    · rw [sI_ne (by omega), sI_ne (by omega)]; exact J.2.2.2 j (Nat.zero_le _) hj
    · rw [sI_ne (by omega), sI_ne (by omega), J.2.1 67 s (by omega) (by omega)]; exact a67 s hs
    · rw [sI_ne (by omega), sI_ne (by omega), J.2.1 68 j (by omega) (by omega)]; exact a68 j hj
  have V : kInv P c N (inkF N x) (inkF N x) (fun _ => 2) 0 0 := ⟨hI0, fun _ => Nat.le_refl 2, by omega, by rw [smN_two]; omega, by omega, Nat.le_refl 0⟩
  obtain ⟨h', e4, K'⟩ := c_try C hI0 (c 2) 0 0 (inkF N x) (fun _ => 2) (fun _ => none) (z, none) _ (6 - c 2) (by omega) V K
  have C5 := K.cd C
  have C6 := K'.cd C
  have e4' : FX3_tryPaper 7 (sI (sI B 64 8 (Int32.ofNat (enN P c N (inkF N x)))) 64 7 (iZ z)) 64 0 0 = some h' := by
    rw [show 6 - c 2 + c 2 + 1 = 7 by omega] at e4; exact e4
  have g7 : gI h' 64 3 7 = some (iZ (ksr P c N x z).1) := by rw [gI_at (C6.1.sh 64 rfl)]; exact congrArg some K'.2.2.2.2.2.2.2.2.1
  refine ⟨h', ?_, K'⟩
  have s64' : (sI B 64 8 (Int32.ofNat (enN P c N (inkF N x)))).2.2.2[64]? = some (3, 0) := s64
  simp only [fX3_mostWants, C.keeK, e1, CA.keeK, e2, CB.keeK, e3, pI_at s64, pI_at s64', C5.keeK, e4', g7, bd_some, bd2_some]
end KED
