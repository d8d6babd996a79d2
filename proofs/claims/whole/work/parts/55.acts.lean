/-! ===== acts: rows are copied, cells are changed ===== -/
theorem rB0 {h : MH} : rB 0 h = some (0, h) := by unfold rB; rw [if_pos (Or.inl rfl)]
theorem rB1 {h : MH} : rB 1 h = some (1, h) := by unfold rB; rw [if_pos (Or.inr rfl)]
/-- k places of object b, from d on, are given f -/
def cpO (h : MH) (b d : Nat) (f : Nat → Int32) (k : Nat) : MH := (fun x y => if x = b ∧ d ≤ y ∧ y < d + k then f (y - d) else h.1 x y, h.2)
theorem cpO_0 {h : MH} {b d : Nat} {f : Nat → Int32} : cpO h b d f 0 = h := by
  obtain ⟨h1, h2⟩ := h
  unfold cpO
  congr 1
  funext x y
  rw [if_neg (by omega)]
theorem cpO_s {h : MH} {b d k : Nat} {f : Nat → Int32} {x : Int32} (hx : x = f k) : sI (cpO h b d f k) b (d + k) x = cpO h b d f (k + 1) := by
  subst hx
  unfold sI cpO up2
  congr 1
  funext x y
  simp only
  by_cases q : x = b ∧ y = d + k
  · rw [if_pos q, if_pos (by omega), show y - d = k by omega]
  · rw [if_neg q]
    by_cases q2 : x = b ∧ d ≤ y ∧ y < d + k
    · rw [if_pos q2, if_pos (by omega)]
    · rw [if_neg q2, if_neg (by omega)]
theorem cpO_in {h : MH} {b d k i : Nat} {f : Nat → Int32} (hi : i < k) : (cpO h b d f k).1 b (d + i) = f i := by
  show (if b = b ∧ d ≤ d + i ∧ d + i < d + k then f (d + i - d) else h.1 b (d + i)) = f i
  rw [if_pos (show b = b ∧ d ≤ d + i ∧ d + i < d + k from ⟨rfl, by omega, by omega⟩), show d + i - d = i by omega]
theorem cpO_out {h : MH} {b d k x y : Nat} {f : Nat → Int32} (q : ¬ (x = b ∧ d ≤ y ∧ y < d + k)) : (cpO h b d f k).1 x y = h.1 x y := by
  unfold cpO
  simp only
  rw [if_neg q]
/-- a cell is changed -/
def updN (N : Nat → Int32) (j : Nat) (x : Int32) : Nat → Int32 := fun i => if i = j then x else N i
theorem updN_eq {N : Nat → Int32} {j : Nat} {x : Int32} : updN N j x j = x := if_pos rfl
theorem updN_ne {N : Nat → Int32} {j i : Nat} {x : Int32} (h : i ≠ j) : updN N j x i = N i := if_neg h
/-- where the model keeps a cell -/
def vmI (j : Nat) : Nat := if j < 10 then 11 + j else if j < 18 then j - 10 else if j < 28 then j + 3 else j - 20
theorem vmI_inj {i j : Nat} (hi : i < 31) (hj : j < 31) (e : vmI i = vmI j) : i = j := by
  unfold vmI at e
  repeat' split at e
  all_goals omega
theorem vmI_lt {j : Nat} (hj : j < 31) : vmI j < 31 := by unfold vmI; repeat' split
                                                          all_goals omega
theorem vRow_iff {f N : Nat → Int32} : vRow f N ↔ ∀ j, j < 31 → f (vmI j) = N j := by
  unfold vRow vmI
  constructor
  · rintro ⟨h1, h2, h3, h4, h5, h6⟩ j hj
    rcases (show j < 5 ∨ (5 ≤ j ∧ j < 10) ∨ (10 ≤ j ∧ j < 14) ∨ (14 ≤ j ∧ j < 18) ∨ (18 ≤ j ∧ j < 28) ∨ (28 ≤ j ∧ j < 31) by omega) with q | q | q | q | q | q
    · rw [if_pos (by omega)]; exact h1 j q
    · rw [if_pos (by omega)]
      have := h2 (j - 5) (by omega)
      rw [show 16 + (j - 5) = 11 + j by omega, show 5 + (j - 5) = j by omega] at this; exact this
    · rw [if_neg (by omega), if_pos (by omega)]
      have := h3 (j - 10) (by omega)
      rw [show 10 + (j - 10) = j by omega] at this; exact this
    · rw [if_neg (by omega), if_pos (by omega)]
      have := h4 (j - 14) (by omega)
      rw [show 4 + (j - 14) = j - 10 by omega, show 14 + (j - 14) = j by omega] at this; exact this
    · rw [if_neg (by omega), if_neg (by omega), if_pos (by omega)]
      have := h5 (j - 18) (by omega)
      rw [show 21 + (j - 18) = j + 3 by omega, show 18 + (j - 18) = j by omega] at this; exact this
    · rw [if_neg (by omega), if_neg (by omega), if_neg (by omega)]
      have := h6 (j - 28) (by omega)
      rw [show 8 + (j - 28) = j - 20 by omega, show 28 + (j - 28) = j by omega] at this; exact this
  · intro h
    refine ⟨fun i hi => ?_, fun i hi => ?_, fun i hi => ?_, fun i hi => ?_, fun i hi => ?_, fun i hi => ?_⟩
    · have := h i (by omega); rw [if_pos (by omega)] at this; exact this
    · have := h (5 + i) (by omega); rw [if_pos (by omega), show 11 + (5 + i) = 16 + i by omega] at this; exact this
    · have := h (10 + i) (by omega); rw [if_neg (by omega), if_pos (by omega), show 10 + i - 10 = i by omega] at this; exact this
    · have := h (14 + i) (by omega); rw [if_neg (by omega), if_pos (by omega), show 14 + i - 10 = 4 + i by omega] at this; exact this
    · have := h (18 + i) (by omega); rw [if_neg (by omega), if_neg (by omega), if_pos (by omega), show 18 + i + 3 = 21 + i by omega] at this; exact this
    · have := h (28 + i) (by omega); rw [if_neg (by omega), if_neg (by omega), if_neg (by omega), show 28 + i - 20 = 8 + i by omega] at this; exact this
theorem vRow.congr {f f' N N' : Nat → Int32} (h : vRow f N) (h1 : ∀ i, i < 31 → f' i = f i) (h2 : ∀ i, i < 31 → N' i = N i) : vRow f' N' := by
  rw [vRow_iff] at h ⊢
  intro j hj
  rw [h1 _ (vmI_lt hj), h2 j hj, h j hj]
theorem WN.congr {c : CT} {N N' : Nat → Int32} (h : WN c N) (hc : c 4 ≤ 10) (h2 : ∀ i, i < 31 → N' i = N i) : WN c N' := by
  obtain ⟨a1, a2, a3⟩ := h
  refine ⟨fun k hk => by rw [h2 _ (by omega)]; exact a1 k hk, fun s hs => by rw [h2 _ (by omega)]; exact a2 s hs, ?_⟩
  rw [h2 14 (by omega), h2 15 (by omega), h2 16 (by omega), h2 17 (by omega), h2 28 (by omega), h2 29 (by omega), h2 30 (by omega)]
  exact a3
section ACT
variable {p : Nat} {P : PT} {c : CT} {N N' : Nat → Int32} {f a m w f' a' m' : Nat} {h h1 h2 hA hB hC hD : MH} {t : Int32} {o : Nat}
theorem CD.upd (C : CD p P c N h) {j : Nat} (hj : j < 31) (x : Int32) : CD p P c (updN N j x) (sI h 28 j x) := by
  obtain ⟨c1, c2, c3, c4, c5⟩ := C
  have hp := c1.1
  refine ⟨c1, c2, fun t ht => by rw [sI_ne (by omega)]; exact c3 t ht, fun t i ht hi => by rw [sI_ne (by omega)]; exact c4 t i ht hi, fun i hi => ?_⟩
  by_cases q : i = j
  · subst q; rw [sI_eq, updN_eq]
  · rw [sI_ne (by omega), updN_ne q]; exact c5 i hi
theorem MM.upd (M : MM o P c N h) {j : Nat} (hj : j < 31) (x : Int32) : MM o P c (updN N j x) (sI h 79 (vmI j) x) := by
  obtain ⟨c1, c2, c3, c4, c5, c6, c7⟩ := M
  have ho := c2.1
  refine ⟨c1, c2, c3, c4, fun t ht => by rw [sI_ne (by omega)]; exact c5 t ht, fun t i ht hi => by rw [sI_ne (by omega)]; exact c6 t i ht hi, ?_⟩
  rw [vRow_iff] at c7 ⊢
  intro i hi
  by_cases q : i = j
  · subst q; rw [sI_eq, updN_eq]
  · rw [sI_ne (fun z => q (vmI_inj hi hj z.2)), updN_ne q]; exact c7 i hi
theorem RR.mk2 (R : RR p P c N f a m w h) (q9 : h.1 0 9 = 1) (hs : h2.2 = h.2) (C' : CD p P c N' h2) (hN' : WN c N') (M' : MM o P c N' h2) (P' : RP c f' a' m' h2)
    (e : ∀ b k, (b = 0 ∧ k ≠ 10) ∨ b = 1 ∨ b = 2 ∨ b = 78 ∨ (b = 77 ∧ (k = 6 ∨ k = 12)) → h2.1 b k = h.1 b k) (t1 : h2.1 0 10 = 0) (t2 : h2.1 77 1 = 0) (t3 : h2.1 77 2 = -1) : RR p P c N' f' a' m' w h2 := by
  obtain ⟨r1, r2, r3, r4, r5, r6, r7, r8, r9, r10, r11, r12⟩ := R
  have e9 : h2.1 0 9 = 1 := by rw [e 0 9 (by omega)]; exact q9
  refine ⟨C', r2, hN', Or.inl ⟨e9, o, M'⟩, fun q => ?_, P', ?_, by rw [t1, t2], by rw [t1, t3, if_neg (by decide)], ?_, fun _ => r11 q9, by rw [hs]; exact r12⟩
  · rw [e9] at q; exact absurd q (by decide)
  · obtain ⟨p1, p2, p3, p4⟩ := r7
    refine ⟨p1, by rw [e 1 1 (by omega)]; exact p2, by rw [e 77 6 (by omega)]; exact p3, fun i hi => ?_⟩
    rw [e 2 i (by omega), e 78 i (by omega)]; exact p4 i hi
  · rw [e 77 12 (by omega), e 0 11 (by omega)]; exact r10
/-! remembering -/
def nf (f : Nat) : Nat := if 15 ≤ f then 0 else f + 1
def na (a : Nat) : Nat := if 16 ≤ a then a else a + 1
def cRem (N : Nat → Int32) (f a : Nat) (h hA : MH) : Prop := hA.2 = h.2 ∧ (∀ b k, ¬ (b = 42 ∧ (k = 2 ∨ k = 3)) → b ≠ 44 + f → hA.1 b k = h.1 b k) ∧ hA.1 42 2 = Int32.ofNat (nf f) ∧ hA.1 42 3 = Int32.ofNat (na a) ∧ ∀ i, i < 31 → hA.1 (44 + f) i = N i
def mRows (a : Nat) (h hC : MH) : Prop := (a < 16 → (∀ j i, j < a → i < 31 → hC.1 80 (31 * j + i) = h.1 80 (31 * j + i)) ∧ ∀ i, i < 31 → hC.1 80 (31 * a + i) = h.1 79 i) ∧
  (a = 16 → (∀ j i, j < 15 → i < 31 → hC.1 80 (31 * j + i) = h.1 80 (31 * (j + 1) + i)) ∧ ∀ i, i < 31 → hC.1 80 (31 * 15 + i) = h.1 79 i)
def mRem (a : Nat) (h hC : MH) : Prop := hC.2 = h.2 ∧ (∀ b k, ¬ (b = 77 ∧ k = 18) → b ≠ 80 → hC.1 b k = h.1 b k) ∧ hC.1 77 18 = Int32.ofNat (na a) ∧ mRows a h hC
theorem c_copyTo (C : CD p P c N h) {b : Nat} (hb : b ≠ 28) (hs : h.2.2.2[b]? = some (15, 31)) : fX4_copyTo h 27 b = some (cpO h b 0 (h.1 28) 31) := by
  have s28 : h.2.2.2[28]? = some (15, 31) := C.1.sh 28 rfl
  have e := lp0 (F := fun n k (_ : Unit) => fX4_copyTo_2 n (cpO h b 0 (h.1 28) k) 27 b (Int32.ofNat k)) (fin := fun _ => some (cpO h b 0 (h.1 28) 31)) (st := fun _ a => a) (b := 31) (by decide)
    (fun n a => by
      show bX4_copyTo_2 _ _ 27 b (Int32.ofNat 31) = _
      unfold bX4_copyTo_2
      rw [if_pos (show (31 : Int32) ≤ Int32.ofNat 31 from k_rfl 31)])
    (fun n k a hk => by
      have h1 : ¬ (31 : Int32) ≤ Int32.ofNat k := k_nle (b := 31) hk (by decide)
      have g1 : gR (cpO h b 0 (h.1 28) k) 27 4 0 = some 28 := gR_at (show (cpO h b 0 (h.1 28) k).2.2.2[27]? = some (4, 0) from C.1.sh 27 rfl) (show (cpO h b 0 (h.1 28) k).2.2.1 27 0 = some 28 from C.1.rf 6 rfl rfl)
      have l1 : lI (cpO h b 0 (h.1 28) k) 28 (Int32.ofNat k) = some (h.1 28 k) := by rw [lI_at (show (cpO h b 0 (h.1 28) k).2.2.2[28]? = some (15, 31) from s28) hk (by decide), cpO_out (by omega)]
      have t1 : tI (cpO h b 0 (h.1 28) k) b (Int32.ofNat k) (h.1 28 k) = some (cpO h b 0 (h.1 28) (k + 1)) := by
        rw [tI_at (show (cpO h b 0 (h.1 28) k).2.2.2[b]? = some (15, 31) from hs) hk (by decide)]
        have := cpO_s (h := h) (b := b) (d := 0) (f := h.1 28) (k := k) rfl
        rw [Nat.zero_add] at this; rw [this]
      show bX4_copyTo_2 _ _ 27 b (Int32.ofNat k) = _
      simp only [bX4_copyTo_2, if_neg h1, g1, l1, t1, bd_some, k_succ]) ()
  rw [cpO_0] at e
  exact e
theorem c_copyFrom (C : CD p P c N h) {b : Nat} (hb : b ≠ 28) (hs : h.2.2.2[b]? = some (15, 31)) : fX4_copyFrom h 27 b = some (cpO h 28 0 (h.1 b) 31) := by
  have s28 : h.2.2.2[28]? = some (15, 31) := C.1.sh 28 rfl
  have e := lp0 (F := fun n k (_ : Unit) => fX4_copyFrom_2 n (cpO h 28 0 (h.1 b) k) 27 b (Int32.ofNat k)) (fin := fun _ => some (cpO h 28 0 (h.1 b) 31)) (st := fun _ a => a) (b := 31) (by decide)
    (fun n a => by
      show bX4_copyFrom_2 _ _ 27 b (Int32.ofNat 31) = _
      unfold bX4_copyFrom_2
      rw [if_pos (show (31 : Int32) ≤ Int32.ofNat 31 from k_rfl 31)])
    (fun n k a hk => by
      have h1 : ¬ (31 : Int32) ≤ Int32.ofNat k := k_nle (b := 31) hk (by decide)
      have g1 : gR (cpO h 28 0 (h.1 b) k) 27 4 0 = some 28 := gR_at (show (cpO h 28 0 (h.1 b) k).2.2.2[27]? = some (4, 0) from C.1.sh 27 rfl) (show (cpO h 28 0 (h.1 b) k).2.2.1 27 0 = some 28 from C.1.rf 6 rfl rfl)
      have l1 : lI (cpO h 28 0 (h.1 b) k) b (Int32.ofNat k) = some (h.1 b k) := by rw [lI_at (show (cpO h 28 0 (h.1 b) k).2.2.2[b]? = some (15, 31) from hs) hk (by decide), cpO_out (by omega)]
      have t1 : tI (cpO h 28 0 (h.1 b) k) 28 (Int32.ofNat k) (h.1 b k) = some (cpO h 28 0 (h.1 b) (k + 1)) := by
        rw [tI_at (show (cpO h 28 0 (h.1 b) k).2.2.2[28]? = some (15, 31) from s28) hk (by decide)]
        have := cpO_s (h := h) (b := 28) (d := 0) (f := h.1 b) (k := k) rfl
        rw [Nat.zero_add] at this; rw [this]
      show bX4_copyFrom_2 _ _ 27 b (Int32.ofNat k) = _
      simp only [bX4_copyFrom_2, if_neg h1, g1, l1, t1, bd_some, k_succ]) ()
  rw [cpO_0] at e
  exact e
theorem CS.row {q : (Nat → Nat → Option Nat) × List (Nat × Nat)} (C : CS p q) {f : Nat} (hf : f < 16) : q.1 43 f = some (44 + f) ∧ q.2[44 + f]? = some (15, 31) := by
  rcases (show f = 0 ∨ f = 1 ∨ f = 2 ∨ f = 3 ∨ f = 4 ∨ f = 5 ∨ f = 6 ∨ f = 7 ∨ f = 8 ∨ f = 9 ∨ f = 10 ∨ f = 11 ∨ f = 12 ∨ f = 13 ∨ f = 14 ∨ f = 15 by omega) with rfl | rfl | rfl | rfl | rfl | rfl | rfl | rfl | rfl | rfl | rfl | rfl | rfl | rfl | rfl | rfl <;> exact ⟨C.rf 9 rfl rfl, C.sh _ rfl⟩
theorem CS.img {q : (Nat → Nat → Option Nat) × List (Nat × Nat)} (C : CS p q) {f : Nat} (hf : f < 3) : q.1 60 f = some (61 + f) ∧ q.2[61 + f]? = some (15, 31) := by
  rcases (show f = 0 ∨ f = 1 ∨ f = 2 by omega) with rfl | rfl | rfl <;> exact ⟨C.rf 10 rfl rfl, C.sh _ rfl⟩
theorem c_remember (R : RR p P c N f a m w h) : ∃ hA, fX6_remember h 42 27 = some hA ∧ cRem N f a h hA := by
  have C := R.1
  obtain ⟨p1, p2, p3, p4, p5, p6, p7, p8, p9, p10⟩ := R.2.2.2.2.2.1
  have hC : ∀ i, i < 31 → h.1 28 i = N i := C.2.2.2.2
  obtain ⟨rw1, rw2⟩ := C.1.row p1
  have s42 : h.2.2.2[42]? = some (6, 0) := C.1.sh 42 rfl
  have s43 : h.2.2.2[43]? = some (17, 16) := C.1.sh 43 rfl
  have r43 : h.2.2.1 42 0 = some 43 := C.1.rf 8 rfl rfl
  have g0 : gR h 42 6 0 = some 43 := gR_at s42 r43
  have g2 : gI h 42 6 2 = some (Int32.ofNat f) := by rw [gI_at s42, p4]
  have l0 : lR h 43 (Int32.ofNat f) = some (44 + f) := lR_at s43 p1 (by decide) rw1
  have k4 := C.k4
  have cc := c_copyTo C (b := 44 + f) (by omega) rw2
  generalize hX : cpO h (44 + f) 0 (h.1 28) 31 = X at cc
  have xs : X.2 = h.2 := by rw [← hX]; rfl
  have xo : ∀ b k, b ≠ 44 + f → X.1 b k = h.1 b k := fun b k q => by rw [← hX]; exact cpO_out (by omega)
  have xr : ∀ i, i < 31 → X.1 (44 + f) i = N i := fun i hi => by
    rw [← hX]
    have := cpO_in (h := h) (b := 44 + f) (d := 0) (f := h.1 28) (k := 31) hi
    rw [Nat.zero_add] at this; rw [this, hC i hi]
  have s42X : X.2.2.2[42]? = some (6, 0) := by rw [xs]; exact s42
  have g2X : gI X 42 6 2 = some (Int32.ofNat f) := by rw [gI_at s42X, xo 42 2 (by omega), p4]
  have k1 : ((16 : Int32) ≤ Int32.ofNat (f + 1)) ↔ 16 ≤ f + 1 := k_le (i := 16) (by decide) (by omega)
  have k2 : ((16 : Int32) ≤ Int32.ofNat a) ↔ 16 ≤ a := k_le (i := 16) (by decide) (by omega)
  have fin : ∀ y : Nat, y = nf f → ∃ hA, bX6_remember_35 X 42 (Int32.ofNat y) 42 = some hA ∧ cRem N f a h hA := fun y hy => by
    have s1 : (sI X 42 2 (Int32.ofNat y)).2.2.2[42]? = some (6, 0) := s42X
    have ga : gI (sI X 42 2 (Int32.ofNat y)) 42 6 3 = some (Int32.ofNat a) := by rw [gI_at s1, sI_ne (by omega), xo 42 3 (by omega), p5]
    simp only [bX6_remember_35, pI_at s42X, ga, pI_at s1, bd_some, k2, k_succ]
    by_cases q : 16 ≤ a
    · rw [if_pos q]
      refine ⟨_, rfl, xs, fun b k q1 q2 => by rw [sI_ne (by omega)]; exact xo b k q2, by rw [sI_eq, hy], ?_, fun i hi => by rw [sI_ne (by omega)]; exact xr i hi⟩
      rw [sI_ne (by omega), xo 42 3 (by omega), p5]; unfold na; rw [if_pos q]
    · rw [if_neg q]
      refine ⟨_, rfl, xs, fun b k q1 q2 => by rw [sI_ne (by omega), sI_ne (by omega)]; exact xo b k q2, by rw [sI_ne (by omega), sI_eq, hy], ?_, fun i hi => by rw [sI_ne (by omega), sI_ne (by omega)]; exact xr i hi⟩
      rw [sI_eq]; unfold na; rw [if_neg q]
  simp only [fX6_remember, g0, g2, l0, k4, cc, g2X, bd_some, k_succ, k1]
  by_cases q : 16 ≤ f + 1
  · rw [if_pos q]
    exact fin 0 (by unfold nf; rw [if_pos (by omega)])
  · rw [if_neg q]
    exact fin (f + 1) (by unfold nf; rw [if_neg (by omega)])
/-- the model copies its row behind the others -/
theorem m_rem51 (M : MM o P c N h) {a : Nat} (ha : a < 16) (e18 : h.1 77 18 = Int32.ofNat a) : fX13_remembers_51 FU h 77 0 = some (sI (cpO h 80 (31 * a) (h.1 79) 31) 77 18 (Int32.ofNat (a + 1))) := by
  obtain ⟨pp, S⟩ := M.1
  have s80 : h.2.2.2[80]? = some (15, 496) := S.sh 80 rfl
  have r80 : h.2.2.1 77 16 = some 80 := S.2.2.2.2.2.2.2.1
  have r79 : h.2.2.1 77 15 = some 79 := S.2.2.2.2.2.2.1
  have i31 : ∀ k : Nat, (31 : Int32) * Int32.ofNat a + Int32.ofNat k = Int32.ofNat (31 * a + k) := fun k => by
    rw [show (31 : Int32) = Int32.ofNat 31 from rfl, k_mul, k_add]
  have e := lp0 (F := fun n k (_ : Unit) => fX13_remembers_51 n (cpO h 80 (31 * a) (h.1 79) k) 77 (Int32.ofNat k)) (fin := fun _ => some (sI (cpO h 80 (31 * a) (h.1 79) 31) 77 18 (Int32.ofNat (a + 1)))) (st := fun _ a => a) (b := 31) (by decide)
    (fun n _ => by
      have s77 : (cpO h 80 (31 * a) (h.1 79) 31).2.2.2[77]? = some (13, 0) := M.s77
      have g18 : gI (cpO h 80 (31 * a) (h.1 79) 31) 77 13 18 = some (Int32.ofNat a) := by rw [gI_at s77, cpO_out (by omega), e18]
      show bX13_remembers_51 _ _ 77 (Int32.ofNat 31) = _
      unfold bX13_remembers_51
      rw [if_pos (show (31 : Int32) ≤ Int32.ofNat 31 from k_rfl 31), g18, bd_some, pI_at s77, bd_some, k_succ])
    (fun n k _ hk => by
      have h1 : ¬ (31 : Int32) ≤ Int32.ofNat k := k_nle (b := 31) hk (by decide)
      have s77 : (cpO h 80 (31 * a) (h.1 79) k).2.2.2[77]? = some (13, 0) := M.s77
      have g18 : gI (cpO h 80 (31 * a) (h.1 79) k) 77 13 18 = some (Int32.ofNat a) := by rw [gI_at s77, cpO_out (by omega), e18]
      have g16 : gR (cpO h 80 (31 * a) (h.1 79) k) 77 13 16 = some 80 := gR_at s77 r80
      have g15 : gR (cpO h 80 (31 * a) (h.1 79) k) 77 13 15 = some 79 := gR_at s77 r79
      have l1 : lI (cpO h 80 (31 * a) (h.1 79) k) 79 (Int32.ofNat k) = some (h.1 79 k) := by rw [lI_at (show (cpO h 80 (31 * a) (h.1 79) k).2.2.2[79]? = some (15, 31) from M.s79) hk (by decide), cpO_out (by omega)]
      have t1 : tI (cpO h 80 (31 * a) (h.1 79) k) 80 (Int32.ofNat (31 * a + k)) (h.1 79 k) = some (cpO h 80 (31 * a) (h.1 79) (k + 1)) := by
        rw [tI_at (show (cpO h 80 (31 * a) (h.1 79) k).2.2.2[80]? = some (15, 496) from s80) (by omega) (by decide), cpO_s rfl]
      show bX13_remembers_51 _ _ 77 (Int32.ofNat k) = _
      simp only [bX13_remembers_51, if_neg h1, g16, g18, g15, l1, i31, t1, bd_some, k_succ]) ()
  rw [cpO_0] at e
  exact e
theorem m_rem11 (M : MM o P c N h) (e18 : h.1 77 18 = Int32.ofNat 16) : fX13_remembers_11 FU h 77 0 = fX13_remembers_51 FU (sI (cpO h 80 0 (fun y => h.1 80 (y + 31)) 465) 77 18 (Int32.ofNat 15)) 77 0 := by
  obtain ⟨pp, S⟩ := M.1
  have s80 : h.2.2.2[80]? = some (15, 496) := S.sh 80 rfl
  have r80 : h.2.2.1 77 16 = some 80 := S.2.2.2.2.2.2.2.1
  have e := lp0 (F := fun n k (_ : Unit) => fX13_remembers_11 n (cpO h 80 0 (fun y => h.1 80 (y + 31)) k) 77 (Int32.ofNat k)) (fin := fun _ => fX13_remembers_51 FU (sI (cpO h 80 0 (fun y => h.1 80 (y + 31)) 465) 77 18 (Int32.ofNat 15)) 77 0) (st := fun _ a => a) (b := 465) (by decide)
    (fun n _ => by
      have s77 : (cpO h 80 0 (fun y => h.1 80 (y + 31)) 465).2.2.2[77]? = some (13, 0) := M.s77
      have g18 : gI (cpO h 80 0 (fun y => h.1 80 (y + 31)) 465) 77 13 18 = some (Int32.ofNat 16) := by rw [gI_at s77, cpO_out (by omega), e18]
      show bX13_remembers_11 _ _ 77 (Int32.ofNat 465) = _
      unfold bX13_remembers_11
      rw [if_pos (show (465 : Int32) ≤ Int32.ofNat 465 from k_rfl 465), g18, bd_some, pI_at s77, bd_some]
      rfl)
    (fun n k _ hk => by
      have h1 : ¬ (465 : Int32) ≤ Int32.ofNat k := k_nle (b := 465) hk (by decide)
      have s77 : (cpO h 80 0 (fun y => h.1 80 (y + 31)) k).2.2.2[77]? = some (13, 0) := M.s77
      have s80' : (cpO h 80 0 (fun y => h.1 80 (y + 31)) k).2.2.2[80]? = some (15, 496) := s80
      have g16 : gR (cpO h 80 0 (fun y => h.1 80 (y + 31)) k) 77 13 16 = some 80 := gR_at s77 r80
      have i31 : Int32.ofNat k + 31 = Int32.ofNat (k + 31) := k_add k 31
      have l1 : lI (cpO h 80 0 (fun y => h.1 80 (y + 31)) k) 80 (Int32.ofNat (k + 31)) = some (h.1 80 (k + 31)) := by rw [lI_at s80' (by omega) (by decide), cpO_out (by omega)]
      have t1 : tI (cpO h 80 0 (fun y => h.1 80 (y + 31)) k) 80 (Int32.ofNat k) (h.1 80 (k + 31)) = some (cpO h 80 0 (fun y => h.1 80 (y + 31)) (k + 1)) := by
        rw [tI_at s80' (by omega) (by decide)]
        have := cpO_s (h := h) (b := 80) (d := 0) (f := fun y => h.1 80 (y + 31)) (k := k) rfl
        rw [Nat.zero_add] at this; rw [this]
      show bX13_remembers_11 _ _ 77 (Int32.ofNat k) = _
      simp only [bX13_remembers_11, if_neg h1, g16, i31, l1, t1, bd_some, k_succ]) ()
  rw [cpO_0] at e
  exact e
theorem m_remember (M : MM o P c N h) {a : Nat} (ha : a ≤ 16) (e18 : h.1 77 18 = Int32.ofNat a) : ∃ hC, fX13_remembers h 77 = some hC ∧ mRem a h hC := by
  have g18 : gI h 77 13 18 = some (Int32.ofNat a) := by rw [gI_at M.s77, e18]
  have k16 : (Int32.ofNat a = 16) ↔ a = 16 := k_eq (n := 16) (by omega) (by decide)
  simp only [fX13_remembers, g18, bd_some, k16]
  by_cases q : a = 16
  · rw [if_pos q]
    subst q
    rw [m_rem11 M e18]
    have M' : MM o P c N (sI (cpO h 80 0 (fun y => h.1 80 (y + 31)) 465) 77 18 (Int32.ofNat 15)) := M.same rfl (fun b k q => by rw [sI_ne (by omega)]; exact cpO_out (by omega))
    rw [m_rem51 M' (a := 15) (by decide) sI_eq]
    refine ⟨_, rfl, rfl, fun b k q1 q2 => by rw [sI_ne (by omega), cpO_out (by omega), sI_ne (by omega), cpO_out (by omega)], sI_eq, fun q => by omega, fun _ => ⟨fun j i hj hi => ?_, fun i hi => ?_⟩⟩
    · rw [sI_ne (by omega), cpO_out (by omega), sI_ne (by omega)]
      have := cpO_in (h := h) (b := 80) (d := 0) (f := fun y => h.1 80 (y + 31)) (k := 465) (i := 31 * j + i) (by omega)
      rw [Nat.zero_add] at this; rw [this, show 31 * j + i + 31 = 31 * (j + 1) + i by omega]
    · rw [sI_ne (by omega)]
      rw [cpO_in (b := 80) (d := 31 * 15) (k := 31) hi, sI_ne (by omega), cpO_out (by omega)]
  · rw [if_neg q, m_rem51 M (by omega) e18]
    refine ⟨_, rfl, rfl, fun b k q1 q2 => by rw [sI_ne (by omega), cpO_out (by omega)], ?_, fun _ => ⟨fun j i hj hi => ?_, fun i hi => ?_⟩, fun z => absurd z q⟩
    · rw [sI_eq]; unfold na; rw [if_neg (by omega)]
    · rw [sI_ne (by omega), cpO_out (by omega)]
    · rw [sI_ne (by omega), cpO_in hi]
/-- the rows behind an act -/
theorem RP.rem (p' : RP c f a m h) (V : vRow (h.1 79) N) (hN : WN c N) (hc : c 4 ≤ 10) (f1 : h2.1 42 2 = Int32.ofNat (nf f)) (a1 : h2.1 42 3 = Int32.ofNat (na a)) (a2 : h2.1 77 18 = Int32.ofNat (na a)) (r1 : ∀ i, i < 31 → h2.1 (44 + f) i = N i) (r2 : mRows a h h2)
    (e : ∀ b k, (b = 42 ∧ k = 4) ∨ (44 ≤ b ∧ b < 64 ∧ b ≠ 44 + f) ∨ (b = 77 ∧ k = 19) ∨ b = 81 → h2.1 b k = h.1 b k) : RP c (nf f) (na a) m h2 := by
  obtain ⟨p1, p2, p3, p4, p5, p6, p7, p8, p9, p10⟩ := p'
  have hnf : nf f < 16 := by unfold nf; split <;> omega
  have hna : na a ≤ 16 := by unfold na; split <;> omega
  refine ⟨hnf, hna, p3, f1, a1, by rw [e 42 4 (by omega)]; exact p6, a2, by rw [e 77 19 (by omega)]; exact p8, fun j hj => ?_, fun j hj => ?_⟩
  · rcases Nat.lt_or_ge a 16 with q | q
    · have ea : na a = a + 1 := by unfold na; rw [if_neg (by omega)]
      rw [ea] at hj ⊢
      obtain ⟨s1, s2⟩ := r2.1 q
      have ef : ∀ j, j ≤ a → (nf f + 16 - (a + 1) + j) % 16 = (f + 16 - a + j) % 16 := fun j hj => by
        unfold nf; split
        · omega
        · omega
      rw [ef j (by omega)]
      rcases Nat.lt_or_ge j a with q2 | q2
      · have hne : 44 + (f + 16 - a + j) % 16 ≠ 44 + f := by omega
        obtain ⟨v1, v2⟩ := p9 j q2
        exact ⟨v1.congr (fun i hi => s1 j i q2 hi) (fun i hi => e _ i (by omega)), v2.congr hc (fun i hi => e _ i (by omega))⟩
      · have ej : j = a := by omega
        subst ej
        have hx : (f + 16 - j + j) % 16 = f := by omega
        rw [hx]
        exact ⟨V.congr (fun i hi => s2 i hi) (fun i hi => r1 i hi), hN.congr hc (fun i hi => r1 i hi)⟩
    · have ea16 : a = 16 := by omega
      have ea : na a = 16 := by unfold na; rw [if_pos (by omega), ea16]
      rw [ea] at hj ⊢
      obtain ⟨s1, s2⟩ := r2.2 ea16
      have ef : ∀ j, j < 16 → (nf f + 16 - 16 + j) % 16 = (f + 16 - a + (j + 1)) % 16 := fun j hj => by
        unfold nf; split
        · omega
        · omega
      rw [ef j hj]
      rcases Nat.lt_or_ge j 15 with q2 | q2
      · have hne : 44 + (f + 16 - a + (j + 1)) % 16 ≠ 44 + f := by omega
        obtain ⟨v1, v2⟩ := p9 (j + 1) (by omega)
        exact ⟨v1.congr (fun i hi => s1 j i q2 hi) (fun i hi => e _ i (by omega)), v2.congr hc (fun i hi => e _ i (by omega))⟩
      · have ej : j = 15 := by omega
        subst ej
        have hx : (f + 16 - a + (15 + 1)) % 16 = f := by omega
        rw [hx]
        exact ⟨V.congr (fun i hi => s2 i hi) (fun i hi => r1 i hi), hN.congr hc (fun i hi => r1 i hi)⟩
  · obtain ⟨v1, v2⟩ := p10 j hj
    exact ⟨v1.congr (fun i hi => e 81 _ (by omega)) (fun i hi => e _ i (by omega)), v2.congr hc (fun i hi => e _ i (by omega))⟩
def only (b0 : Nat) (h h' : MH) : Prop := h'.2 = h.2 ∧ ∀ b k, b ≠ b0 → h'.1 b k = h.1 b k
/-- an act: the class remembers (hA) and changes its cells (hB), the model remembers (hC) and changes its row (hD) -/
theorem RR.act (R : RR p P c N f a m w h) (q9 : h.1 0 9 = 1) (hN' : WN c N') (cA : cRem N f a h hA) (cB : only 28 hA hB) (C' : CD p P c N' hB)
    (mC : mRem a (sI (sI hB 0 10 0) 77 0 0) hC) (mD : only 79 hC hD) (M' : MM o P c N' hD) : RR p P c N' (nf f) (na a) m w (sI (sI hD 77 1 0) 77 2 (-1)) ∧ (sI (sI hD 77 1 0) 77 2 (-1)).2 = h.2 := by
  obtain ⟨cA1, cA2, cA3, cA4, cA5⟩ := cA
  obtain ⟨cB1, cB2⟩ := cB
  obtain ⟨mC1, mC2, mC3, mC4⟩ := mC
  obtain ⟨mD1, mD2⟩ := mD
  have hf := R.2.2.2.2.2.1.1
  have hs : (sI (sI hD 77 1 0) 77 2 (-1)).2 = h.2 := by
    show hD.2 = h.2
    rw [mD1, mC1]
    show hB.2 = h.2
    rw [cB1, cA1]
  have e : ∀ b k, ¬ (b = 0 ∧ k = 10) → b ≠ 28 → ¬ (b = 42 ∧ (k = 2 ∨ k = 3)) → b ≠ 44 + f → ¬ (b = 77 ∧ (k = 0 ∨ k = 1 ∨ k = 2 ∨ k = 18)) → b ≠ 79 → b ≠ 80 → (sI (sI hD 77 1 0) 77 2 (-1)).1 b k = h.1 b k := fun b k q1 q2 q3 q4 q5 q6 q7 => by
    rw [sI_ne (by omega), sI_ne (by omega), mD2 b k q6, mC2 b k (by omega) q7, sI_ne (by omega), sI_ne (by omega), cB2 b k q2, cA2 b k q3 q4]
  have eB : ∀ b k, b < 64 → b ≠ 28 → ¬ (b = 0 ∧ k = 10) → (sI (sI hD 77 1 0) 77 2 (-1)).1 b k = hA.1 b k := fun b k q1 q2 q3 => by
    rw [sI_ne (by omega), sI_ne (by omega), mD2 b k (by omega), mC2 b k (by omega) (by omega), sI_ne (by omega), sI_ne (by omega), cB2 b k q2]
  obtain ⟨oo, Mo⟩ : ∃ o, MM o P c N h := by
    rcases R.2.2.2.1 with ⟨_, o, q2⟩ | ⟨q1, _⟩
    · exact ⟨o, q2⟩
    · rw [q1] at q9; exact absurd q9 (by decide)
  have e79 : ∀ i, (sI (sI hB 0 10 0) 77 0 0).1 79 i = h.1 79 i := fun i => by rw [sI_ne (by omega), sI_ne (by omega), cB2 79 i (by omega), cA2 79 i (by omega) (by omega)]
  have e80 : ∀ i, (sI (sI hB 0 10 0) 77 0 0).1 80 i = h.1 80 i := fun i => by rw [sI_ne (by omega), sI_ne (by omega), cB2 80 i (by omega), cA2 80 i (by omega) (by omega)]
  have d80 : ∀ i, (sI (sI hD 77 1 0) 77 2 (-1)).1 80 i = hC.1 80 i := fun i => by rw [sI_ne (by omega), sI_ne (by omega), mD2 80 i (by omega)]
  have hc4 : c 4 ≤ 10 := R.1.r10
  refine ⟨R.mk2 q9 hs ?_ hN' (M'.same rfl (fun b k q => by rw [sI_ne (by omega), sI_ne (by omega)])) ?_ (fun b k q => e b k (by omega) (by omega) (by omega) (by omega) (by omega) (by omega) (by omega)) ?_ ?_ sI_eq, hs⟩
  · refine C'.same (by rw [hs, cB1, cA1]) (fun b k q1 q2 => ?_)
    rw [sI_ne (by omega), sI_ne (by omega), mD2 b k (by omega), mC2 b k (by omega) (by omega), sI_ne (by omega), sI_ne (by omega)]
  · refine R.2.2.2.2.2.1.rem Mo.2.2.2.2.2.2 R.2.2.1 hc4 (by rw [eB 42 2 (by omega) (by omega) (by omega)]; exact cA3) (by rw [eB 42 3 (by omega) (by omega) (by omega)]; exact cA4) ?_ (fun i hi => by rw [eB (44 + f) i (by omega) (by omega) (by omega)]; exact cA5 i hi) ?_ (fun b k q => e b k (by omega) (by omega) (by omega) (by omega) (by omega) (by omega) (by omega))
    · rw [sI_ne (by omega), sI_ne (by omega), mD2 77 18 (by omega)]; exact mC3
    · refine ⟨fun q => ?_, fun q => ?_⟩
      · obtain ⟨s1, s2⟩ := mC4.1 q
        exact ⟨fun j i hj hi => by rw [d80, s1 j i hj hi, e80], fun i hi => by rw [d80, s2 i hi, e79]⟩
      · obtain ⟨s1, s2⟩ := mC4.2 q
        exact ⟨fun j i hj hi => by rw [d80, s1 j i hj hi, e80], fun i hi => by rw [d80, s2 i hi, e79]⟩
  · rw [sI_ne (by omega), sI_ne (by omega), mD2 0 10 (by omega), mC2 0 10 (by omega) (by omega), sI_ne (by omega), sI_eq]
  · rw [sI_ne (by omega), sI_eq]
end ACT
