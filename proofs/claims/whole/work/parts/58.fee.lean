/-! ===== feed, led ===== -/
theorem sI_comm {h : MH} {a k b j : Nat} {x y : Int32} (hn : ¬ (a = b ∧ k = j)) : sI (sI h a k x) b j y = sI (sI h b j y) a k x := by
  unfold sI up2
  congr 1
  funext u v
  simp only
  by_cases q1 : u = b ∧ v = j
  · have q2 : ¬ (u = a ∧ v = k) := fun z => hn ⟨z.1.symm.trans q1.1, z.2.symm.trans q1.2⟩
    simp only [if_pos q1, if_neg q2]
  · simp only [if_neg q1]
section FEE
variable {p : Nat} {P : PT} {c : CT} {N : Nat → Int32} {f a m w : Nat} {h h1 h2 : MH} {t : Int32} {o : Nat}
/-- the bytes that are fed -/
def fdA (x1 x2 x3 x4 x5 : Int32) (k : Nat) : Int32 := if 4 ≤ k then (if 8 ≤ k then (if 12 ≤ k then (if 16 ≤ k then x5 else x4) else x3) else x2) else x1
def fdB (x : Int32) (j : Nat) : Int32 := vp_nar .byte (Int8.toInt32 (Int32.toInt8 (x >>> (Int32.ofNat (24 - 8 * j) &&& 31))))
def fdY (x1 x2 x3 x4 x5 : Int32) (k : Nat) : Int32 := fdB (fdA x1 x2 x3 x4 x5 k) (k % 4)
theorem fdB_bR (x : Int32) (j : Nat) : bR (fdB x j) := by
  unfold fdB bR
  rw [vp_nar_byte, Int8.toInt_toInt32]
  exact ⟨Int8.le_toInt _, Int8.toInt_lt _⟩
def fdC (h : MH) (w : Nat) (y : Nat → Int32) (k : Nat) : MH := sI (cpO h 2 w y k) 1 1 (Int32.ofNat (w + k))
def fdM (h : MH) (w : Nat) (y : Nat → Int32) (k : Nat) : MH := sI (cpO h 78 w y k) 77 6 (Int32.ofNat (w + k))
theorem fdC_s {y : Nat → Int32} {k : Nat} : sI (sI (fdC h w y k) 2 (w + k) (y k)) 1 1 (Int32.ofNat (w + k + 1)) = fdC h w y (k + 1) := by
  unfold fdC
  rw [sI_comm (a := 1) (b := 2) (by omega), sI_sI, cpO_s rfl]
  rfl
theorem fdM_s {y : Nat → Int32} {k : Nat} : sI (sI (fdM h w y k) 78 (w + k) (y k)) 77 6 (Int32.ofNat (w + k + 1)) = fdM h w y (k + 1) := by
  unfold fdM
  rw [sI_comm (a := 77) (b := 78) (by omega), sI_sI, cpO_s rfl]
  rfl
theorem c_put1 (C : CD p P c N h) {w k n j : Nat} {y : Nat → Int32} {x : Int32} (hw : w + k < 900) (hj : j < 4) (hy : y k = fdB x j) :
    fX10_put_3 (n + 1) (fdC h w y k) 1 x (Int32.ofNat (24 - 8 * j)) = fX10_put_3 n (fdC h w y (k + 1)) 1 x (Int32.ofNat (24 - 8 * j) + (-8)) := by
  have s1 : (fdC h w y k).2.2.2[1]? = some (10, 0) := C.1.sh 1 rfl
  have s2 : (fdC h w y k).2.2.2[2]? = some (14, 900) := C.1.sh 2 rfl
  have r1 : gR (fdC h w y k) 1 10 0 = some 2 := gR_at s1 (C.1.rf 1 rfl rfl)
  have g1 : gI (fdC h w y k) 1 10 1 = some (Int32.ofNat (w + k)) := by rw [gI_at s1]; exact congrArg some sI_eq
  have n0 : ¬ Int32.ofNat (24 - 8 * j) < 0 := k_neg (by omega)
  have n9 : ¬ (900 : Int32) ≤ Int32.ofNat (w + k) := k_nle (b := 900) hw (by decide)
  have t1 := tB_at (h := fdC h w y k) (x := Int8.toInt32 (Int32.toInt8 (x >>> (Int32.ofNat (24 - 8 * j) &&& 31)))) s2 hw (by decide)
  rw [show vp_nar .byte (Int8.toInt32 (Int32.toInt8 (x >>> (Int32.ofNat (24 - 8 * j) &&& 31)))) = y k from hy.symm] at t1
  have s1' : (sI (fdC h w y k) 2 (w + k) (y k)).2.2.2[1]? = some (10, 0) := s1
  have g2 : gI (sI (fdC h w y k) 2 (w + k) (y k)) 1 10 1 = some (Int32.ofNat (w + k)) := by rw [gI_at s1', sI_ne (by omega)]; exact congrArg some sI_eq
  show bX10_put_3 _ _ 1 x _ = _
  simp only [bX10_put_3, if_neg n0, g1, if_neg n9, r1, t1, g2, pI_at s1', bd_some, k_succ, fdC_s]
theorem c_put (C : CD p P c N h) {w k : Nat} {y : Nat → Int32} {x : Int32} (hw : w + k + 4 ≤ 900) (hy : ∀ j, j < 4 → y (k + j) = fdB x j) : fX10_put (fdC h w y k) 1 x = some (fdC h w y (k + 4)) := by
  show fX10_put_3 (999999995 + 1 + 1 + 1 + 1 + 1) (fdC h w y k) 1 x (Int32.ofNat (24 - 8 * 0)) = _
  rw [c_put1 C (k := k) (j := 0) (by omega) (by decide) (hy 0 (by decide)), show Int32.ofNat (24 - 8 * 0) + (-8) = Int32.ofNat (24 - 8 * 1) by decide,
    c_put1 C (k := k + 1) (j := 1) (by omega) (by decide) (hy 1 (by decide)), show Int32.ofNat (24 - 8 * 1) + (-8) = Int32.ofNat (24 - 8 * 2) by decide,
    c_put1 C (k := k + 2) (j := 2) (by omega) (by decide) (hy 2 (by decide)), show Int32.ofNat (24 - 8 * 2) + (-8) = Int32.ofNat (24 - 8 * 3) by decide,
    c_put1 C (k := k + 3) (j := 3) (by omega) (by decide) (hy 3 (by decide))]
  show bX10_put_3 _ _ 1 x (Int32.ofNat (24 - 8 * 3) + (-8)) = _
  unfold bX10_put_3
  rw [if_pos (show Int32.ofNat (24 - 8 * 3) + (-8) < 0 by decide)]
theorem RR.ofT (R : RR p P c N f a m w h) {w' : Nat} (hs : h2.2 = h.2) (he : ∀ b k, (b < 64 ∨ (77 ≤ b ∧ b < 82) ∨ 89 ≤ b) → b ≠ 2 → b ≠ 78 → ¬ (b = 1 ∧ k = 1) → ¬ (b = 77 ∧ (k = 0 ∨ k = 6)) → h2.1 b k = h.1 b k) (T : RT w' h2) : RR p P c N f a m w' h2 := by
  obtain ⟨r1, r2, r3, r4, r5, r6, r7, r8, r9, r10, r11, r12⟩ := R
  have e22 : h2.2.2 = h.2.2 := by rw [hs]
  have t9 : h2.1 0 9 = h.1 0 9 := he 0 9 (by omega) (by omega) (by omega) (by omega) (by omega)
  have e0 : ∀ b, b ≠ 77 → b ≠ 1 → b ≠ 2 → b ≠ 78 → (b < 64 ∨ (77 ≤ b ∧ b < 82) ∨ 89 ≤ b) → h2.1 b = h.1 b := fun b q q2 q3 q4 q1 => funext fun k => he b k q1 q3 q4 (by omega) (by omega)
  refine ⟨r1.same2 e22 (fun b k q1 q2 => he b k (by omega) (by omega) (by omega) (by omega) (by omega)), r2, r3, r4.same e22 (fun b k q => he b k (by omega) (by omega) (by omega) (by omega) (by omega)) t9, by rw [t9]; exact r5, ?_, T, ?_, ?_, ?_, by rw [t9]; exact r11, by rw [hs]; exact r12⟩
  · obtain ⟨p1, p2, p3, p4, p5, p6, p7, p8, p9, p10⟩ := r6
    refine ⟨p1, p2, p3, by rw [e0 42 (by omega) (by omega) (by omega) (by omega) (by omega)]; exact p4, by rw [e0 42 (by omega) (by omega) (by omega) (by omega) (by omega)]; exact p5, by rw [e0 42 (by omega) (by omega) (by omega) (by omega) (by omega)]; exact p6,
      by rw [he 77 18 (by omega) (by omega) (by omega) (by omega) (by omega)]; exact p7, by rw [he 77 19 (by omega) (by omega) (by omega) (by omega) (by omega)]; exact p8, fun j hj => ?_, fun j hj => ?_⟩
    · rw [e0 80 (by omega) (by omega) (by omega) (by omega) (by omega), e0 (44 + (f + 16 - a + j) % 16) (by omega) (by omega) (by omega) (by omega) (by omega)]; exact p9 j hj
    · rw [e0 81 (by omega) (by omega) (by omega) (by omega) (by omega), e0 (61 + j) (by omega) (by omega) (by omega) (by omega) (by omega)]; exact p10 j hj
  · rw [he 77 1 (by omega) (by omega) (by omega) (by omega) (by omega), e0 0 (by omega) (by omega) (by omega) (by omega) (by omega)]; exact r8
  · rw [he 77 2 (by omega) (by omega) (by omega) (by omega) (by omega), e0 0 (by omega) (by omega) (by omega) (by omega) (by omega)]; exact r9
  · rw [he 77 12 (by omega) (by omega) (by omega) (by omega) (by omega), e0 0 (by omega) (by omega) (by omega) (by omega) (by omega)]; exact r10
theorem m_feedL {pp : Nat} (S : CS pp h.2.2) {w : Nat} (hw : w + 20 ≤ 900) (x1 x2 x3 x4 x5 : Int32) : fX13_feed_23 FU (fdM h w (fdY x1 x2 x3 x4 x5) 0) 77 x1 x2 x3 x4 x5 0 = some (Int32.ofNat (w + 20), fdM h w (fdY x1 x2 x3 x4 x5) 20) := by
  have e := lp0 (F := fun n k (_ : Unit) => fX13_feed_23 n (fdM h w (fdY x1 x2 x3 x4 x5) k) 77 x1 x2 x3 x4 x5 (Int32.ofNat k)) (fin := fun _ => some (Int32.ofNat (w + 20), fdM h w (fdY x1 x2 x3 x4 x5) 20)) (st := fun _ a => a) (b := 20) (by decide)
    (fun n _ => by
      have s77 : (fdM h w (fdY x1 x2 x3 x4 x5) 20).2.2.2[77]? = some (13, 0) := S.sh 77 rfl
      show bX13_feed_23 _ _ 77 _ _ _ _ _ (Int32.ofNat 20) = _
      unfold bX13_feed_23
      rw [if_pos (show (20 : Int32) ≤ Int32.ofNat 20 from k_rfl 20), gI_at s77, bd_some]
      exact congrArg (fun z => some (z, _)) sI_eq)
    (fun n k _ hk => by
      have h1 : ¬ (20 : Int32) ≤ Int32.ofNat k := k_nle (b := 20) hk (by decide)
      have s77 : (fdM h w (fdY x1 x2 x3 x4 x5) k).2.2.2[77]? = some (13, 0) := S.sh 77 rfl
      have s78 : (fdM h w (fdY x1 x2 x3 x4 x5) k).2.2.2[78]? = some (14, 900) := S.sh 78 rfl
      have r5 : gR (fdM h w (fdY x1 x2 x3 x4 x5) k) 77 13 5 = some 78 := gR_at s77 S.2.2.2.2.2.1
      have g6 : gI (fdM h w (fdY x1 x2 x3 x4 x5) k) 77 13 6 = some (Int32.ofNat (w + k)) := by rw [gI_at s77]; exact congrArg some sI_eq
      have em : Int32.ofNat k - Int32.ofNat k / 4 * 4 = Int32.ofNat (k % 4) := k_mod (b := 4) (by omega) (by decide)
      have es : (24 : Int32) - 8 * Int32.ofNat (k % 4) = Int32.ofNat (24 - 8 * (k % 4)) := by
        rw [show (8 : Int32) = Int32.ofNat 8 from rfl, k_mul]; exact k_sub (a := 24) (by omega)
      have nz4 : nz 4 = some () := by decide
      have hz : ∀ xs0, xs0 = fdA x1 x2 x3 x4 x5 k → bX13_feed_76 (fX13_feed_23 n) (fdM h w (fdY x1 x2 x3 x4 x5) k) 77 x1 x2 x3 x4 x5 (Int32.ofNat k) xs0 = fX13_feed_23 n (fdM h w (fdY x1 x2 x3 x4 x5) (k + 1)) 77 x1 x2 x3 x4 x5 (Int32.ofNat (k + 1)) := fun xs0 hx => by
        have t1 := tB_at (h := fdM h w (fdY x1 x2 x3 x4 x5) k) (x := Int8.toInt32 (Int32.toInt8 (xs0 >>> (Int32.ofNat (24 - 8 * (k % 4)) &&& 31)))) s78 (show w + k < 900 by omega) (by decide)
        rw [show vp_nar .byte (Int8.toInt32 (Int32.toInt8 (xs0 >>> (Int32.ofNat (24 - 8 * (k % 4)) &&& 31)))) = fdY x1 x2 x3 x4 x5 k by rw [hx]; rfl] at t1
        have s77' : (sI (fdM h w (fdY x1 x2 x3 x4 x5) k) 78 (w + k) (fdY x1 x2 x3 x4 x5 k)).2.2.2[77]? = some (13, 0) := s77
        have g2 : gI (sI (fdM h w (fdY x1 x2 x3 x4 x5) k) 78 (w + k) (fdY x1 x2 x3 x4 x5 k)) 77 13 6 = some (Int32.ofNat (w + k)) := by rw [gI_at s77', sI_ne (by omega)]; exact congrArg some sI_eq
        simp only [bX13_feed_76, r5, g6, nz4, em, es, t1, g2, pI_at s77', bd_some, k_succ, fdM_s]
      have k4 : ((4 : Int32) ≤ Int32.ofNat k) ↔ 4 ≤ k := k_le (i := 4) (by decide) (by omega)
      have k8 : ((8 : Int32) ≤ Int32.ofNat k) ↔ 8 ≤ k := k_le (i := 8) (by decide) (by omega)
      have k12 : ((12 : Int32) ≤ Int32.ofNat k) ↔ 12 ≤ k := k_le (i := 12) (by decide) (by omega)
      have k16 : ((16 : Int32) ≤ Int32.ofNat k) ↔ 16 ≤ k := k_le (i := 16) (by decide) (by omega)
      show bX13_feed_23 (fX13_feed_23 n) _ 77 _ _ _ _ _ (Int32.ofNat k) = _
      unfold bX13_feed_23
      rw [if_neg h1]
      simp only [k4, k8, k12, k16]
      by_cases q4 : 4 ≤ k
      · by_cases q8 : 8 ≤ k
        · by_cases q12 : 12 ≤ k
          · by_cases q16 : 16 ≤ k
            · simp only [if_pos q4, if_pos q8, if_pos q12, if_pos q16]; exact hz _ (by unfold fdA; simp only [if_pos q4, if_pos q8, if_pos q12, if_pos q16])
            · simp only [if_pos q4, if_pos q8, if_pos q12, if_neg q16]; exact hz _ (by unfold fdA; simp only [if_pos q4, if_pos q8, if_pos q12, if_neg q16])
          · simp only [if_pos q4, if_pos q8, if_neg q12]; exact hz _ (by unfold fdA; simp only [if_pos q4, if_pos q8, if_neg q12])
        · simp only [if_pos q4, if_neg q8]; exact hz _ (by unfold fdA; simp only [if_pos q4, if_neg q8])
      · simp only [if_neg q4]; exact hz _ (by unfold fdA; simp only [if_neg q4])) ()
  exact e
theorem a_feed (R : RR p P c N f a m w h) (x1 x2 x3 x4 x5 : Int32) : CL h (fX11_feed h 0 x1 x2 x3 x4 x5) (fun h => fX13_feed h 77 x1 x2 x3 x4 x5) := by
  have C := R.1
  obtain ⟨w1, w2, w3, w4⟩ := R.2.2.2.2.2.2.1
  have s1 : h.2.2.2[1]? = some (10, 0) := C.1.sh 1 rfl
  have s77 : h.2.2.2[77]? = some (13, 0) := C.1.sh 77 rfl
  have ew : Int32.ofNat w + 20 = Int32.ofNat (w + 20) := k_add w 20
  have g1 : gI h 1 10 1 = some (Int32.ofNat w) := by rw [gI_at s1, w2]
  rcases Nat.lt_or_ge 900 (w + 20) with q | q
  · have e1 : (900 : Int32) < Int32.ofNat (w + 20) := (k_lt (i := 900) (by decide) (by omega)).mpr q
    have e2 : ¬ Int32.ofNat (w + 20) ≤ 900 := fun z => by have := (k_le (n := 900) (by omega) (by decide)).mp z; omega
    have g6 : gI (sI h 77 0 0) 77 13 6 = some (Int32.ofNat w) := by rw [gI_at (show (sI h 77 0 0).2.2.2[77]? = some (13, 0) from s77), sI_ne (by omega), w3]
    refine CL.mk (-1) (h1 := h) ?_ ?_ (R.thr 0) rfl
    · simp only [fX11_feed, fX10_hasRoom, C.tap, C.tapK, g1, ew, if_pos e1, bd_some, bd2_some, if_true]
    · simp only [fX13_feed, pI_at s77, g6, ew, if_neg e2, bd_some]
  · have e1 : ¬ (900 : Int32) < Int32.ofNat (w + 20) := fun z => by have := (k_lt (i := 900) (by decide) (by omega)).mp z; omega
    have e2 : Int32.ofNat (w + 20) ≤ 900 := (k_le (n := 900) (by omega) (by decide)).mpr q
    have h0 : fdC h w (fdY x1 x2 x3 x4 x5) 0 = h := by unfold fdC; rw [cpO_0]; exact sI_self w2
    have Cx : ∀ k, CD p P c N (fdC h w (fdY x1 x2 x3 x4 x5) k) := fun k => C.same2 rfl (fun b j q1 q2 => by unfold fdC; rw [sI_ne (by omega), cpO_out (by omega)])
    have yy : ∀ i j, i < 5 → j < 4 → fdY x1 x2 x3 x4 x5 (4 * i + j) = fdB (fdA x1 x2 x3 x4 x5 (4 * i)) j := fun i j hi hj => by
      unfold fdY
      rw [show (4 * i + j) % 4 = j by omega]
      congr 1
      unfold fdA
      rcases (show i = 0 ∨ i = 1 ∨ i = 2 ∨ i = 3 ∨ i = 4 by omega) with rfl | rfl | rfl | rfl | rfl <;> (repeat' split) <;> first | rfl | omega
    have p0 := c_put C (w := w) (k := 0) (y := fdY x1 x2 x3 x4 x5) (x := x1) (by omega) (fun j hj => yy 0 j (by decide) hj)
    have p1 := c_put C (w := w) (k := 4) (y := fdY x1 x2 x3 x4 x5) (x := x2) (by omega) (fun j hj => yy 1 j (by decide) hj)
    have p2 := c_put C (w := w) (k := 8) (y := fdY x1 x2 x3 x4 x5) (x := x3) (by omega) (fun j hj => yy 2 j (by decide) hj)
    have p3 := c_put C (w := w) (k := 12) (y := fdY x1 x2 x3 x4 x5) (x := x4) (by omega) (fun j hj => yy 3 j (by decide) hj)
    have p4 := c_put C (w := w) (k := 16) (y := fdY x1 x2 x3 x4 x5) (x := x5) (by omega) (fun j hj => yy 4 j (by decide) hj)
    rw [h0] at p0
    simp only [Nat.zero_add, Nat.reduceAdd] at p0 p1 p2 p3 p4
    have s1' : (fdC h w (fdY x1 x2 x3 x4 x5) 20).2.2.2[1]? = some (10, 0) := s1
    have gl : gI (fdC h w (fdY x1 x2 x3 x4 x5) 20) 1 10 1 = some (Int32.ofNat (w + 20)) := by rw [gI_at s1']; exact congrArg some sI_eq
    have b6 : (sI (fdC h w (fdY x1 x2 x3 x4 x5) 20) 77 0 0).1 77 6 = Int32.ofNat w := by rw [sI_ne (by omega)]; unfold fdC; rw [sI_ne (by omega), cpO_out (by omega), w3]
    have s77' : (sI (fdC h w (fdY x1 x2 x3 x4 x5) 20) 77 0 0).2.2.2[77]? = some (13, 0) := s77
    have g6 : gI (sI (fdC h w (fdY x1 x2 x3 x4 x5) 20) 77 0 0) 77 13 6 = some (Int32.ofNat w) := by rw [gI_at s77', b6]
    have hm0 : fdM (sI (fdC h w (fdY x1 x2 x3 x4 x5) 20) 77 0 0) w (fdY x1 x2 x3 x4 x5) 0 = sI (fdC h w (fdY x1 x2 x3 x4 x5) 20) 77 0 0 := by unfold fdM; rw [cpO_0]; exact sI_self b6
    have ml := m_feedL (h := sI (fdC h w (fdY x1 x2 x3 x4 x5) 20) 77 0 0) (pp := p) C.1 q x1 x2 x3 x4 x5
    rw [hm0] at ml
    have hs' : (fdM (sI (fdC h w (fdY x1 x2 x3 x4 x5) 20) 77 0 0) w (fdY x1 x2 x3 x4 x5) 20).2 = h.2 := rfl
    have eo : ∀ b k, b ≠ 2 → b ≠ 78 → ¬ (b = 1 ∧ k = 1) → ¬ (b = 77 ∧ (k = 0 ∨ k = 6)) → (fdM (sI (fdC h w (fdY x1 x2 x3 x4 x5) 20) 77 0 0) w (fdY x1 x2 x3 x4 x5) 20).1 b k = h.1 b k := fun b k q1 q2 q3 q4 => by
      unfold fdM fdC
      rw [sI_ne (by omega), cpO_out (by omega), sI_ne (by omega), sI_ne (by omega), cpO_out (by omega)]
    have e2' : ∀ i, (fdM (sI (fdC h w (fdY x1 x2 x3 x4 x5) 20) 77 0 0) w (fdY x1 x2 x3 x4 x5) 20).1 2 i = (cpO h 2 w (fdY x1 x2 x3 x4 x5) 20).1 2 i := fun i => by
      unfold fdM fdC
      rw [sI_ne (by omega), cpO_out (by omega), sI_ne (by omega), sI_ne (by omega)]
    have e78 : ∀ i, (fdM (sI (fdC h w (fdY x1 x2 x3 x4 x5) 20) 77 0 0) w (fdY x1 x2 x3 x4 x5) 20).1 78 i = if w ≤ i ∧ i < w + 20 then fdY x1 x2 x3 x4 x5 (i - w) else h.1 78 i := fun i => by
      unfold fdM
      rw [sI_ne (by omega)]
      by_cases z : w ≤ i ∧ i < w + 20
      · rw [if_pos z]
        have := cpO_in (h := sI (fdC h w (fdY x1 x2 x3 x4 x5) 20) 77 0 0) (b := 78) (d := w) (f := fdY x1 x2 x3 x4 x5) (k := 20) (i := i - w) (by omega)
        rw [show w + (i - w) = i by omega] at this; exact this
      · rw [if_neg z, cpO_out (by omega)]
        unfold fdC
        rw [sI_ne (by omega), sI_ne (by omega), cpO_out (by omega)]
    have c2 : ∀ i, (cpO h 2 w (fdY x1 x2 x3 x4 x5) 20).1 2 i = if w ≤ i ∧ i < w + 20 then fdY x1 x2 x3 x4 x5 (i - w) else h.1 2 i := fun i => by
      by_cases z : w ≤ i ∧ i < w + 20
      · rw [if_pos z]
        have := cpO_in (h := h) (b := 2) (d := w) (f := fdY x1 x2 x3 x4 x5) (k := 20) (i := i - w) (by omega)
        rw [show w + (i - w) = i by omega] at this; exact this
      · rw [if_neg z, cpO_out (by omega)]
    refine CL.mk (Int32.ofNat (w + 20)) (h1 := fdC h w (fdY x1 x2 x3 x4 x5) 20) (h2 := fdM (sI (fdC h w (fdY x1 x2 x3 x4 x5) 20) 77 0 0) w (fdY x1 x2 x3 x4 x5) 20) ?_ ?_ (R.ofT (w' := w + 20) hs' (fun b k _ q1 q2 q3 q4 => eo b k q1 q2 q3 q4) ⟨q, ?_, sI_eq, fun i hi => ?_⟩) hs'
    · simp only [fX11_feed, fX10_hasRoom, C.tap, C.tapK, g1, ew, if_neg e1, bd_some, bd2_some, i10, if_false, p0, (Cx 4).tap, (Cx 4).tapK, p1, (Cx 8).tap, (Cx 8).tapK, p2, (Cx 12).tap, (Cx 12).tapK, p3, (Cx 16).tap, (Cx 16).tapK, p4, (Cx 20).tap, gl]
    · simp only [fX13_feed, pI_at (show (fdC h w (fdY x1 x2 x3 x4 x5) 20).2.2.2[77]? = some (13, 0) from s77), g6, ew, if_pos e2, bd_some, ml]
    · unfold fdM fdC
      rw [sI_ne (by omega), cpO_out (by omega), sI_ne (by omega), sI_eq]
    · rw [e2', e78, c2]
      by_cases z : w ≤ i ∧ i < w + 20
      · rw [if_pos z, if_pos z]
        exact ⟨rfl, fdB_bR _ _⟩
      · rw [if_neg z, if_neg z]
        exact w4 i hi
/-! the heap grows -/
/-- h2 is h and more -/
def gr (h h2 : MH) (t : List (Nat × Nat)) : Prop := h2.2.2.2 = h.2.2.2 ++ t ∧ (∀ b k, b < h.2.2.2.length → h2.1 b k = h.1 b k) ∧ (∀ b k, b < h.2.2.2.length → b ≠ 89 → h2.2.1 b k = h.2.1 b k) ∧ ∀ b k, b < h.2.2.2.length → h2.2.2.1 b k = h.2.2.1 b k
theorem CS.len {q : (Nat → Nat → Option Nat) × List (Nat × Nat)} (C : CS p q) : 90 ≤ q.2.length := by
  obtain ⟨t, ht⟩ := C.2.1
  rw [ht, List.length_append]
  have : shp0.length = 90 := by decide
  omega
theorem CS.gr {q q' : (Nat → Nat → Option Nat) × List (Nat × Nat)} (C : CS p q) {t : List (Nat × Nat)} (e1 : q'.2 = q.2 ++ t) (e2 : ∀ b k, b < 90 → q'.1 b k = q.1 b k) : CS p q' := by
  obtain ⟨c1, ⟨t0, ht⟩, c3, c4, c5, c6⟩ := C
  refine ⟨c1, ⟨t0 ++ t, by rw [e1, ht, List.append_assoc]⟩, by rw [e2 26 1 (by decide)]; exact c3, by rw [e2 3 9 (by decide)]; exact c4, fun r hr i b hb => ?_, ?_⟩
  · have hr90 : r.1 < 90 := by
      have : ∀ r ∈ ref0, r.1 < 90 := by decide
      exact this r hr
    rw [e2 r.1 i hr90]; exact c5 r hr i b hb
  · rw [e2 77 5 (by decide), e2 77 15 (by decide), e2 77 16 (by decide), e2 77 17 (by decide), e2 77 20 (by decide), e2 77 21 (by decide), e2 77 22 (by decide), e2 77 23 (by decide), e2 77 24 (by decide), e2 77 28 (by decide), e2 77 29 (by decide)]
    exact c6
theorem gr.cs {t : List (Nat × Nat)} (g : gr h h2 t) (C : CS p h.2.2) : CS p h2.2.2 := by
  have hl := C.len
  exact C.gr g.1 (fun b k hb => g.2.2.2 b k (by omega))
theorem gr.mo {t : List (Nat × Nat)} (g : gr h h2 t) (M : MO o h.2.2) : MO o h2.2.2 := by
  obtain ⟨m1, m2, m3⟩ := M
  have hl : ∀ {k : Nat} {w : Nat × Nat}, h.2.2.2[k]? = some w → h2.2.2.2[k]? = some w := fun {k w} hk => by
    have := (List.getElem?_eq_some_iff.mp hk).1
    rw [g.1, List.getElem?_append_left this]; exact hk
  refine ⟨m1, hl m2, fun j w hj => ?_⟩
  obtain ⟨a1, a2⟩ := m3 j w hj
  have ho := (List.getElem?_eq_some_iff.mp m2).1
  exact ⟨by rw [g.2.2.2 o _ ho]; exact a1, hl a2⟩
theorem gr.mm {t : List (Nat × Nat)} (g : gr h h2 t) (M : MM o P c N h) : MM o P c N h2 := by
  obtain ⟨⟨pp, S⟩, c2, c3, c4, c5, c6, c7⟩ := M
  have hl := S.len
  have ho := (List.getElem?_eq_some_iff.mp c2.2.1).1
  have hoj : ∀ j, j < 18 → o + 1 + j < h.2.2.2.length := fun j hj => by
    obtain ⟨w, hw⟩ : ∃ w, mSh[j]? = some w := by
      have : j < mSh.length := by have : mSh.length = 18 := by decide
                                  omega
      exact ⟨mSh[j], List.getElem?_eq_getElem this⟩
    exact (List.getElem?_eq_some_iff.mp (c2.2.2 j w hw).2).1
  refine ⟨⟨pp, g.cs S⟩, g.mo c2, by rw [g.2.2.2 77 3 (by omega)]; exact c3, c4, fun t ht => by rw [g.2.1 o t ho]; exact c5 t ht, fun t i ht hi => ?_, ?_⟩
  · have hm : 1 ≤ mT' t ∧ mT' t ≤ 15 := by
      rcases (show t = 0 ∨ t = 1 ∨ t = 2 ∨ t = 3 ∨ t = 4 ∨ t = 5 ∨ t = 6 ∨ t = 7 ∨ t = 8 ∨ t = 9 ∨ t = 10 ∨ t = 11 by omega) with rfl | rfl | rfl | rfl | rfl | rfl | rfl | rfl | rfl | rfl | rfl | rfl <;> decide
    have := hoj (mT' t - 1) (by omega)
    rw [g.2.1 (o + mT' t) i (by omega)]; exact c6 t i ht hi
  · exact c7.congr (fun i hi => g.2.1 79 i (by omega)) (fun i hi => rfl)
theorem gr.rr {t : List (Nat × Nat)} (g : gr h h2 t) (R : RR p P c N f a m w h) : RR p P c N f a m w h2 := by
  obtain ⟨r1, r2, r3, r4, r5, r6, r7, r8, r9, r10, r11, r12⟩ := R
  have hl := r1.1.len
  have e : ∀ b k, b < 90 → h2.1 b k = h.1 b k := fun b k hb => g.2.1 b k (by omega)
  have e0 : ∀ b, b < 90 → h2.1 b = h.1 b := fun b hb => funext fun k => e b k hb
  have t9 : h2.1 0 9 = h.1 0 9 := e 0 9 (by decide)
  refine ⟨?_, r2, r3, ?_, by rw [t9]; exact r5, ?_, ?_, by rw [e 77 1 (by decide), e 0 10 (by decide)]; exact r8, by rw [e 77 2 (by decide), e 0 10 (by decide), e 0 12 (by decide)]; exact r9, by rw [e 77 12 (by decide), e 0 11 (by decide)]; exact r10, by rw [t9]; exact r11, ?_⟩
  · obtain ⟨c1, c2, c3, c4, c5⟩ := r1
    have hp := c1.1
    exact ⟨g.cs c1, c2, fun t ht => by rw [e p _ (by omega)]; exact c3 t ht, fun t i ht hi => by rw [e (p + 1 + t) _ (by omega)]; exact c4 t i ht hi, fun i hi => by rw [e 28 _ (by omega)]; exact c5 i hi⟩
  · rcases r4 with ⟨q1, o, q2⟩ | ⟨q1, q2, q3, q4⟩
    · exact Or.inl ⟨t9.trans q1, o, g.mm q2⟩
    · exact Or.inr ⟨t9.trans q1, by rw [g.2.2.2 77 3 (by omega)]; exact q2, q3, q4⟩
  · obtain ⟨p1, p2, p3, p4, p5, p6, p7, p8, p9, p10⟩ := r6
    refine ⟨p1, p2, p3, by rw [e0 42 (by decide)]; exact p4, by rw [e0 42 (by decide)]; exact p5, by rw [e0 42 (by decide)]; exact p6, by rw [e0 77 (by decide)]; exact p7, by rw [e0 77 (by decide)]; exact p8, fun j hj => ?_, fun j hj => ?_⟩
    · rw [e0 80 (by decide), e0 (44 + (f + 16 - a + j) % 16) (by omega)]; exact p9 j hj
    · rw [e0 81 (by decide), e0 (61 + j) (by omega)]; exact p10 j hj
  · obtain ⟨p1, p2, p3, p4⟩ := r7
    refine ⟨p1, by rw [e0 1 (by decide)]; exact p2, by rw [e0 77 (by decide)]; exact p3, fun i hi => ?_⟩
    rw [e0 2 (by decide), e0 78 (by decide)]; exact p4 i hi
  · obtain ⟨w1, w2, w3, w4⟩ := r12
    exact ⟨fun i x hx => by rw [g.2.2.1 4 i (by omega) (by decide)]; exact w1 i x hx, fun i x hx => by rw [g.2.2.1 5 i (by omega) (by decide)]; exact w2 i x hx, fun i x hx => by rw [g.2.2.1 6 i (by omega) (by decide)]; exact w3 i x hx, fun i x hx => by rw [g.2.2.1 7 i (by omega) (by decide)]; exact w4 i x hx⟩
/-! led -/
def stLd (N : Nat → Int32) (x : Int32) (i : Nat) (a : Int32) : Nat ⊕ Int32 := if N (5 + i) = 1 then (if a = x then .inl i else .inr (a + 1)) else .inr a
theorem c_led (C : CD p P c N h) (x : Int32) : fX11_led h 0 x = (match lx (stLd N x) (c 2) 0 0 with | .inl i => some (Int32.ofNat i, h) | .inr _ => none) ∧ fX11_ledx h 0 x = (match lx (stLd N x) (c 2) 0 0 with | .inl _ => none | .inr _ => some h) := by
  have hp := C.p5
  constructor
  · exact lx0 (F := fun n k a => fX11_led_4 n h 0 x a (Int32.ofNat k)) (fin := fun q => match q with | .inl i => some (Int32.ofNat i, h) | .inr _ => none) (st := stLd N x) (b := c 2) C.b2
      (fun n a => by
        show bX11_led_4 _ h 0 x a (Int32.ofNat (c 2)) = _
        simp only [bX11_led_4, C.desk, C.plan, C.c2, bd_some, if_pos (k_rfl _)])
      (fun n k a hk => by
        have h1 := k_nle hk C.b2
        show bX11_led_4 _ h 0 x a (Int32.ofNat k) = _
        simp only [bX11_led_4, C.desk, C.plan, C.now, C.k4, C.c2, c_latestOn C (show k < 5 by omega), bd_some, bd2_some, if_neg h1, k_succ, stLd]
        by_cases q1 : N (5 + k) = 1
        · by_cases q2 : a = x
          · simp only [if_pos q1, if_pos q2]
          · simp only [if_pos q1, if_neg q2]
        · simp only [if_neg q1]) 0
  · exact lx0 (F := fun n k a => fX11_ledx_4 n h 0 x a (Int32.ofNat k)) (fin := fun q => match q with | .inl _ => none | .inr _ => some h) (st := stLd N x) (b := c 2) C.b2
      (fun n a => by
        show bX11_ledx_4 _ h 0 x a (Int32.ofNat (c 2)) = _
        simp only [bX11_ledx_4, C.desk, C.plan, C.c2, bd_some, if_pos (k_rfl _)])
      (fun n k a hk => by
        have h1 := k_nle hk C.b2
        show bX11_ledx_4 _ h 0 x a (Int32.ofNat k) = _
        simp only [bX11_ledx_4, C.desk, C.plan, C.now, C.k4, C.c2, c_latestOn C (show k < 5 by omega), bd_some, bd2_some, if_neg h1, k_succ, stLd]
        by_cases q1 : N (5 + k) = 1
        · by_cases q2 : a = x
          · simp only [if_pos q1, if_pos q2]
          · simp only [if_pos q1, if_neg q2]
        · simp only [if_neg q1]) 0
theorem m_led (M : MM o P c N h) (x : Int32) : fX13_led_9 FU h 77 x 0 0 = (match lx (stLd N x) (c 2) 0 0 with | .inl i => some (Int32.ofNat i, h) | .inr _ => some (0, sI h 77 0 1)) := by
  have hp := M.p5
  exact lx0 (F := fun n k a => fX13_led_9 n h 77 x a (Int32.ofNat k)) (fin := fun q => match q with | .inl i => some (Int32.ofNat i, h) | .inr _ => some (0, sI h 77 0 1)) (st := stLd N x) (b := c 2) M.b2
    (fun n a => by
      show bX13_led_9 _ h 77 x a (Int32.ofNat (c 2)) = _
      simp only [bX13_led_9, M.offZ, bft, if_false, M.off, M.c2, bd_some, if_pos (k_rfl _), pI_at M.s77])
    (fun n k a hk => by
      have h1 := k_nle hk M.b2
      show bX13_led_9 _ h 77 x a (Int32.ofNat k) = _
      simp only [bX13_led_9, M.offZ, bft, if_false, M.off, M.c2, M.v, M.latest (show k < 5 by omega), bd_some, if_neg h1, k_succ, stLd]
      by_cases q1 : N (5 + k) = 1
      · by_cases q2 : a = x
        · simp only [if_pos q1, if_pos q2]
        · simp only [if_pos q1, if_neg q2]
      · simp only [if_neg q1]) 0
theorem a_led (R : RR p P c N f a m w h) (x : Int32) : ∃ k h1 b h2, fL_led h 0 x 89 = some (k, h1) ∧ fX13_led h1 77 x = some (b, h2) ∧ h2.1 77 0 = k ∧ (k = 0 ∨ k = 1) ∧ (k = 0 → h2.2.1 89 0 = b.toInt64) ∧ RX h2 ∧ mLen h2 ≤ mLen h + 20 ∧ mSl h2 ≤ mSl h + 200 := by
  have C := R.1
  have hl := C.1.len
  obtain ⟨l1, l2⟩ := c_led C x
  cases hx : lx (stLd N x) (c 2) 0 0 with
  | inl i =>
    rw [hx] at l1
    have s89 : h.2.2.2[89]? = some (16, 1) := C.1.sh 89 rfl
    have tj : tJ h 89 0 (Int32.ofNat i).toInt64 = some (sJ h 89 0 (Int32.ofNat i).toInt64) := tJ_at (i := 0) s89 (by decide) (by decide)
    have g : gr h (sJ h 89 0 (Int32.ofNat i).toInt64) [] := ⟨(List.append_nil _).symm, fun b k _ => rfl, fun b k _ q => if_neg (fun z => q z.1), fun b k _ => rfl⟩
    have R1 := g.rr R
    have s77 : (sJ h 89 0 (Int32.ofNat i).toInt64).2.2.2[77]? = some (13, 0) := C.1.sh 77 rfl
    obtain ⟨o, M⟩ : ∃ o, MM o P c N (sI (sJ h 89 0 (Int32.ofNat i).toInt64) 77 0 0) := by
      rcases R1.m0 with q | ⟨_, z2, _⟩
      · exact q
      · rw [z2 2] at hx; cases hx
    have ml := m_led M x
    rw [hx] at ml
    refine ⟨0, sJ h 89 0 (Int32.ofNat i).toInt64, Int32.ofNat i, sI (sJ h 89 0 (Int32.ofNat i).toInt64) 77 0 0, ?_, ?_, sI_eq, Or.inl rfl, fun _ => ?_, ⟨p, P, c, N, f, a, m, w, R1.thr 0⟩, ?_, ?_⟩
    · simp only [fL_led, C.k11, bd_some, l1, tj]
    · simp only [fX13_led, pI_at s77, bd_some, ml]
    · show up2 h.2.1 89 0 (Int32.ofNat i).toInt64 89 0 = _
      unfold up2
      rw [if_pos ⟨rfl, rfl⟩]
    · show mLen h ≤ _; omega
    · show mSl h ≤ _; omega
  | inr y =>
    rw [hx] at l1 l2
    have hlen : h.2.2.2.length = mLen h := rfl
    have g : gr h (nC h 18 6) [(18, 6)] := ⟨rfl, fun b k hb => if_neg (by omega), fun b k hb _ => if_neg (by omega), fun b k hb => if_neg (by omega)⟩
    have R1 := g.rr R
    have s77 : (nC h 18 6).2.2.2[77]? = some (13, 0) := R1.1.1.sh 77 rfl
    have s77' : (sI (nC h 18 6) 77 0 0).2.2.2[77]? = some (13, 0) := s77
    have e1 : fL_led h 0 x 89 = some (1, nC h 18 6) := by simp only [fL_led, C.k11, bd_some, l1, l2]
    have e2 : fX13_led (nC h 18 6) 77 x = some (0, sI (sI (nC h 18 6) 77 0 0) 77 0 1) := by
      simp only [fX13_led, pI_at s77, bd_some]
      rcases R1.m0 with ⟨o, M⟩ | ⟨z1, z2, z3⟩
      · have ml := m_led M x
        rw [hx] at ml; exact ml
      · show bX13_led_9 (fX13_led_9 999999999) (sI (nC h 18 6) 77 0 0) 77 x 0 0 = _
        have zs : gZ (sI (nC h 18 6) 77 0 0) 77 13 3 = some true := by rw [gZ_at s77']; exact congrArg (fun q => some (Option.isNone q)) z1
        simp only [bX13_led_9, zs, bd_some, if_true, pI_at s77']
    refine ⟨1, nC h 18 6, 0, _, e1, e2, sI_eq, Or.inr rfl, fun q => absurd q (by decide), ⟨p, P, c, N, f, a, m, w, (R1.thr 0).thr 1⟩, ?_, ?_⟩
    · show mLen (nC h 18 6) ≤ _
      rw [nC_len]; omega
    · show mSl (nC h 18 6) ≤ _
      rw [nC_sl]
      have : mSz (18, 6) = 6 := by decide
      omega
end FEE
