/-! ===== presses by draws ===== -/
theorem lp_ex {ρ : Type} {F : Nat → Nat → MH → Option ρ} {I : Nat → MH → Prop} {b : Nat} (h1 : ∀ n k h, k < b → I k h → ∃ h', F (n + 1) k h = F n (k + 1) h' ∧ I (k + 1) h') :
    ∀ m k n h, k + m = b → I k h → ∃ h', F (n + m + 1) k h = F (n + 1) b h' ∧ I b h'
  | 0, k, n, h, e, hI => by
    have : k = b := by omega
    subst this
    exact ⟨h, rfl, hI⟩
  | m + 1, k, n, h, e, hI => by
    obtain ⟨h2, q1, q2⟩ := h1 (n + m + 1) k h (by omega) hI
    obtain ⟨h3, r1, r2⟩ := lp_ex h1 m (k + 1) n h2 (by omega) q2
    exact ⟨h3, q1.trans r1, r2⟩
theorem lp_ex0 {ρ : Type} {F : Nat → Nat → MH → Option ρ} {I : Nat → MH → Prop} {b : Nat} (hb : b ≤ 100000) (h1 : ∀ n k h, k < b → I k h → ∃ h', F (n + 1) k h = F n (k + 1) h' ∧ I (k + 1) h') {h : MH} (hI : I 0 h) :
    ∃ n h', F FU 0 h = F (n + 1) b h' ∧ I b h' := by
  obtain ⟨n, hn⟩ := FU_at b (by omega)
  obtain ⟨h', e, hI'⟩ := lp_ex h1 b 0 n h (by omega) hI
  exact ⟨n, h', by rw [hn]; exact e, hI'⟩
theorem nz_of {n : Nat} (h0 : 0 < n) (hn : n < 2147483648) : nz (Int32.ofNat n) = some () := by
  unfold nz
  rw [if_neg (fun q => by
    have := (k_eq (i := n) (n := 0) hn (by decide)).mp q
    omega)]
theorem VD_at {v : Int32} (h : VD v) : ∃ j, j < 3 ∧ v = Int32.ofNat j := by
  rcases h with rfl | rfl | rfl
  · exact ⟨0, by decide, rfl⟩
  · exact ⟨1, by decide, rfl⟩
  · exact ⟨2, by decide, rfl⟩
theorem sI_self {h : MH} {a k : Nat} {x : Int32} (e : h.1 a k = x) : sI h a k x = h := by
  obtain ⟨h1, h2⟩ := h
  unfold sI up2
  congr 1
  funext b j
  by_cases q : b = a ∧ j = k
  · obtain ⟨rfl, rfl⟩ := q; simp only [and_self, if_true]; exact e.symm
  · simp only [if_neg q]
def nxS (x : Nat) : Nat := (75 * x + 74) % 65537
theorem nxS_le (x : Nat) : nxS x ≤ 65536 := by unfold nxS; omega
/-- seed, birds, counts, latest -/
abbrev DT : Type := Nat × Int32 × (Nat → Int32) × (Nat → Int32)
def dC (D : DT) (h0 h : MH) : Prop := h.2 = h0.2 ∧ (∀ b k, b < 74 ∨ 76 < b → h.1 b k = h0.1 b k) ∧ D.1 ≤ 65536 ∧ h.1 74 4 = Int32.ofNat D.1 ∧ h.1 74 3 = D.2.1 ∧ (∀ i, i < 3 → h.1 75 i = D.2.2.1 i) ∧ ∀ i, i < 5 → h.1 76 i = D.2.2.2 i
def dM (D : DT) (h0 h : MH) : Prop := h.2 = h0.2 ∧ (∀ b k, ¬ (b = 77 ∧ (k = 26 ∨ k = 27)) → b ≠ 87 → b ≠ 88 → h.1 b k = h0.1 b k) ∧ D.1 ≤ 65536 ∧ h.1 77 26 = Int32.ofNat D.1 ∧ h.1 77 27 = D.2.1 ∧ (∀ i, i < 3 → h.1 87 i = D.2.2.1 i) ∧ ∀ i, i < 5 → h.1 88 i = D.2.2.2 i
def st99 (c : CT) (D : DT) (i j : Nat) : DT := (if j = 2 then nxS D.1 else D.1, if j = 2 then (if Int32.ofNat (c 0) ≤ Int32.ofNat (nxS D.1 % 100) then D.2.1 else D.2.1 + 1) else D.2.1, fun k => if k = j then D.2.2.1 k + 1 else D.2.2.1 k, fun k => if k = i then Int32.ofNat j else D.2.2.2 k)
def vdN (P : PT) (c : CT) (N : Nat → Int32) (x : Nat) : Int32 := if P 8 (nxS (nxS x) % c 5) ≤ Int32.ofNat (nxS (nxS (nxS (nxS x))) % 100) then prK (P 7 (nxS (nxS x) % c 5)) (sayN P c N (nxS x % c 3) (nxS (nxS (nxS x)) % c 2)) else 2
def stp (P : PT) (c : CT) (N : Nat → Int32) (D : DT) : DT := st99 c (nxS (nxS (nxS (nxS D.1))), D.2) (nxS (nxS (nxS D.1)) % c 2) (vdN P c N D.1).toNatClampNeg
def drN (P : PT) (c : CT) (N : Nat → Int32) (seed : Nat) : Nat → DT
  | 0 => (seed, 0, fun _ => 0, fun _ => -2)
  | k + 1 => stp P c N (drN P c N seed k)
section DRA
variable {p o : Nat} {P : PT} {c : CT} {N : Nat → Int32} {h h0 hf : MH} {D : DT}
theorem dC.seed (d : dC D h0 h) {y : Nat} (hy : y ≤ 65536) : dC (y, D.2) h0 (sI h 74 4 (Int32.ofNat y)) := by
  obtain ⟨d1, d2, d3, d4, d5, d6, d7⟩ := d
  exact ⟨d1, fun b k q => by rw [sI_ne (by omega)]; exact d2 b k q, hy, sI_eq, by rw [sI_ne (by omega)]; exact d5, fun i hi => by rw [sI_ne (by omega)]; exact d6 i hi, fun i hi => by rw [sI_ne (by omega)]; exact d7 i hi⟩
theorem dC.bird (d : dC D h0 h) (y : Int32) : dC (D.1, y, D.2.2) h0 (sI h 74 3 y) := by
  obtain ⟨d1, d2, d3, d4, d5, d6, d7⟩ := d
  exact ⟨d1, fun b k q => by rw [sI_ne (by omega)]; exact d2 b k q, d3, by rw [sI_ne (by omega)]; exact d4, sI_eq, fun i hi => by rw [sI_ne (by omega)]; exact d6 i hi, fun i hi => by rw [sI_ne (by omega)]; exact d7 i hi⟩
theorem dC.cnt (d : dC D h0 h) (j : Nat) (y : Int32) : dC (D.1, D.2.1, fun k => if k = j then y else D.2.2.1 k, D.2.2.2) h0 (sI h 75 j y) := by
  obtain ⟨d1, d2, d3, d4, d5, d6, d7⟩ := d
  refine ⟨d1, fun b k q => by rw [sI_ne (by omega)]; exact d2 b k q, d3, by rw [sI_ne (by omega)]; exact d4, by rw [sI_ne (by omega)]; exact d5, fun i hi => ?_, fun i hi => by rw [sI_ne (by omega)]; exact d7 i hi⟩
  by_cases q : i = j
  · subst q; rw [sI_eq]; exact (if_pos rfl).symm
  · rw [sI_ne (by omega), d6 i hi]; exact (if_neg q).symm
theorem dC.lat (d : dC D h0 h) (j : Nat) (y : Int32) : dC (D.1, D.2.1, D.2.2.1, fun k => if k = j then y else D.2.2.2 k) h0 (sI h 76 j y) := by
  obtain ⟨d1, d2, d3, d4, d5, d6, d7⟩ := d
  refine ⟨d1, fun b k q => by rw [sI_ne (by omega)]; exact d2 b k q, d3, by rw [sI_ne (by omega)]; exact d4, by rw [sI_ne (by omega)]; exact d5, fun i hi => by rw [sI_ne (by omega)]; exact d6 i hi, fun i hi => ?_⟩
  by_cases q : i = j
  · subst q; rw [sI_eq]; exact (if_pos rfl).symm
  · rw [sI_ne (by omega), d7 i hi]; exact (if_neg q).symm
theorem dM.seed (d : dM D h0 h) {y : Nat} (hy : y ≤ 65536) : dM (y, D.2) h0 (sI h 77 26 (Int32.ofNat y)) := by
  obtain ⟨d1, d2, d3, d4, d5, d6, d7⟩ := d
  exact ⟨d1, fun b k q q2 q3 => by rw [sI_ne (by omega)]; exact d2 b k q q2 q3, hy, sI_eq, by rw [sI_ne (by omega)]; exact d5, fun i hi => by rw [sI_ne (by omega)]; exact d6 i hi, fun i hi => by rw [sI_ne (by omega)]; exact d7 i hi⟩
theorem dM.bird (d : dM D h0 h) (y : Int32) : dM (D.1, y, D.2.2) h0 (sI h 77 27 y) := by
  obtain ⟨d1, d2, d3, d4, d5, d6, d7⟩ := d
  exact ⟨d1, fun b k q q2 q3 => by rw [sI_ne (by omega)]; exact d2 b k q q2 q3, d3, by rw [sI_ne (by omega)]; exact d4, sI_eq, fun i hi => by rw [sI_ne (by omega)]; exact d6 i hi, fun i hi => by rw [sI_ne (by omega)]; exact d7 i hi⟩
theorem dM.cnt (d : dM D h0 h) (j : Nat) (y : Int32) : dM (D.1, D.2.1, fun k => if k = j then y else D.2.2.1 k, D.2.2.2) h0 (sI h 87 j y) := by
  obtain ⟨d1, d2, d3, d4, d5, d6, d7⟩ := d
  refine ⟨d1, fun b k q q2 q3 => by rw [sI_ne (by omega)]; exact d2 b k q q2 q3, d3, by rw [sI_ne (by omega)]; exact d4, by rw [sI_ne (by omega)]; exact d5, fun i hi => ?_, fun i hi => by rw [sI_ne (by omega)]; exact d7 i hi⟩
  by_cases q : i = j
  · subst q; rw [sI_eq]; exact (if_pos rfl).symm
  · rw [sI_ne (by omega), d6 i hi]; exact (if_neg q).symm
theorem dM.lat (d : dM D h0 h) (j : Nat) (y : Int32) : dM (D.1, D.2.1, D.2.2.1, fun k => if k = j then y else D.2.2.2 k) h0 (sI h 88 j y) := by
  obtain ⟨d1, d2, d3, d4, d5, d6, d7⟩ := d
  refine ⟨d1, fun b k q q2 q3 => by rw [sI_ne (by omega)]; exact d2 b k q q2 q3, d3, by rw [sI_ne (by omega)]; exact d4, by rw [sI_ne (by omega)]; exact d5, fun i hi => by rw [sI_ne (by omega)]; exact d6 i hi, fun i hi => ?_⟩
  by_cases q : i = j
  · subst q; rw [sI_eq]; exact (if_pos rfl).symm
  · rw [sI_ne (by omega), d7 i hi]; exact (if_neg q).symm
theorem dC.cd (d : dC D h0 h) (C : CD p P c N h0) : CD p P c N h := C.same (by rw [d.1]) (fun b k q1 q2 => d.2.1 b k (by omega))
theorem dM.mm (d : dM D h0 h) (M : MM o P c N h0) : MM o P c N h := M.same (by rw [d.1]) (fun b k q => d.2.1 b k (by omega) (by omega) (by omega))
theorem c_drawX (C : CD p P c N h) {x n : Nat} (e : h.1 74 4 = Int32.ofNat x) (hx : x ≤ 65536) (h0 : 0 < n) (hn : n < 2147483648) : fX1_draw h 74 (Int32.ofNat n) = some (Int32.ofNat (nxS x % n), sI h 74 4 (Int32.ofNat (nxS x))) := by
  have hs : h.2.2.2[74]? = some (1, 0) := C.1.sh 74 rfl
  have hs' : (sI h 74 4 (Int32.ofNat (nxS x))).2.2.2[74]? = some (1, 0) := hs
  have e1 : (75 : Int32) * Int32.ofNat x + 74 = Int32.ofNat (75 * x + 74) := by
    rw [show (75 : Int32) = Int32.ofNat 75 from rfl, show (74 : Int32) = Int32.ofNat 74 from rfl, k_mul, k_add]
  have e2 : Int32.ofNat (75 * x + 74) - Int32.ofNat (75 * x + 74) / 65537 * 65537 = Int32.ofNat (nxS x) := k_mod (b := 65537) (by omega) (by decide)
  have e3 : ¬ Int32.ofNat n ≤ 0 := fun q => by have := (k_le0 hn).mp q; omega
  have e4 := k_mod (a := nxS x) (b := n) (by have := nxS_le x; omega) hn
  have e5 : nz 65537 = some () := by decide
  simp only [fX1_draw, gI_at hs, e, e1, e2, e5, pI_at hs, bd_some, if_neg e3, gI_at hs', sI_eq, nz_of h0 hn, e4]
theorem m_drawX (M : MM o P c N h) {x n : Nat} (e : h.1 77 26 = Int32.ofNat x) (hx : x ≤ 65536) (h0 : 0 < n) (hn : n < 2147483648) : fX13_drawn h 77 (Int32.ofNat n) = some (Int32.ofNat (nxS x % n), sI h 77 26 (Int32.ofNat (nxS x))) := by
  have hs := M.s77
  have hs' : (sI h 77 26 (Int32.ofNat (nxS x))).2.2.2[77]? = some (13, 0) := hs
  have e1 : (75 : Int64) * (Int32.ofNat x).toInt64 + 74 = Int64.ofNat (75 * x + 74) := by
    rw [k_i2l (by omega), show (75 : Int64) = Int64.ofNat 75 from rfl, show (74 : Int64) = Int64.ofNat 74 from rfl, ← Int64.ofNat_mul, ← Int64.ofNat_add]
  have e2 : Int64.ofNat (75 * x + 74) - Int64.ofNat (75 * x + 74) / 65537 * 65537 = Int64.ofNat (nxS x) := j_mod (b := 65537) (by omega) (by decide)
  have e4 := k_mod (a := nxS x) (b := n) (by have := nxS_le x; omega) hn
  have e5 : nzJ 65537 = some () := by decide
  simp only [fX13_drawn, gI_at hs, e, e1, e2, e5, Int64.toInt32_ofNat', pI_at hs, bd_some, gI_at hs', sI_eq, nz_of h0 hn, e4]
theorem c_press99 (C : CD p P c N h0) (d : dC D h0 h) {i j : Nat} (hi : i < 5) (hj' : j < 3) : ∃ h', bX1_pressByDraws_99 h 74 (Int32.ofNat i) (Int32.ofNat j) = some h' ∧ dC (st99 c D i j) h0 h' := by
  have C1 := d.cd C
  have d1 := d.cnt j (h.1 75 j + 1)
  have d2 := d1.lat i (Int32.ofNat j)
  have C2 := d1.cd C
  have C3 := d2.cd C
  have g1 : gR h 74 1 1 = some 75 := gR_at (C1.1.sh 74 rfl) (C1.1.rf 15 rfl rfl)
  have g2 : gR (sI h 75 j (h.1 75 j + 1)) 74 1 2 = some 76 := gR_at (C2.1.sh 74 rfl) (C2.1.rf 15 rfl rfl)
  have l1 : lI h 75 (Int32.ofNat j) = some (h.1 75 j) := lI_at (C1.1.sh 75 rfl) hj' (by decide)
  have t1 : tI h 75 (Int32.ofNat j) (h.1 75 j + 1) = some (sI h 75 j (h.1 75 j + 1)) := tI_at (C1.1.sh 75 rfl) hj' (by decide)
  have t2 : tI (sI h 75 j (h.1 75 j + 1)) 76 (Int32.ofNat i) (Int32.ofNat j) = some (sI (sI h 75 j (h.1 75 j + 1)) 76 i (Int32.ofNat j)) := tI_at (C2.1.sh 76 rfl) hi (by decide)
  have ej : (Int32.ofNat j = 2) ↔ j = 2 := k_eq (n := 2) (by omega) (by decide)
  have ec : h.1 75 j = D.2.2.1 j := d.2.2.2.2.2.1 j hj'
  have ef : (fun k => if k = j then h.1 75 j + 1 else D.2.2.1 k) = fun k => if k = j then D.2.2.1 k + 1 else D.2.2.1 k := by
    funext k
    by_cases q : k = j
    · subst q; simp only [if_true, ec]
    · simp only [if_neg q]
  rw [ef] at d2
  simp only [bX1_pressByDraws_99, g1, l1, t1, g2, t2, bd_some, ej]
  by_cases q : j = 2
  · have hb := c_drawX C3 (n := 100) d2.2.2.2.1 d2.2.2.1 (by decide) (by decide)
    have d3 := d2.seed (nxS_le D.1)
    have C4 := d3.cd C
    have b' : fX1_draw (sI (sI h 75 j (h.1 75 j + 1)) 76 i (Int32.ofNat j)) 74 100 = _ := hb
    simp only [if_pos q, C3.draK, b', C4.draD, C4.plan, C4.c0, bd_some, bd2_some]
    unfold st99
    simp only [if_pos q]
    by_cases q2 : Int32.ofNat (c 0) ≤ Int32.ofNat (nxS D.1 % 100)
    · simp only [if_pos q2]
      exact ⟨_, rfl, d3⟩
    · simp only [if_neg q2]
      have hs : (sI (sI (sI h 75 j (h.1 75 j + 1)) 76 i (Int32.ofNat j)) 74 4 (Int32.ofNat (nxS D.1))).2.2.2[74]? = some (1, 0) := C4.1.sh 74 rfl
      rw [gI_at hs, bd_some, pI_at hs, bd_some, d3.2.2.2.2.1]
      exact ⟨_, rfl, d3.bird (D.2.1 + 1)⟩
  · simp only [if_neg q]
    refine ⟨_, rfl, ?_⟩
    unfold st99
    simp only [if_neg q]
    exact d2
theorem c_press1 (C : CD p P c N h0) (hW : WP P c) (hN : WN c N) (h3 : 0 < c 3) (h5 : 0 < c 5) (h2 : 0 < c 2) (d : dC D h0 h) : ∃ h', fX1_pressByDraws h 74 = some h' ∧ dC (stp P c N D) h0 h' := by
  have C0 := d.cd C
  have d1 := d.seed (nxS_le D.1)
  have d2 := d1.seed (nxS_le (nxS D.1))
  have d3 := d2.seed (nxS_le (nxS (nxS D.1)))
  have d4 := d3.seed (nxS_le (nxS (nxS (nxS D.1))))
  have C1 := d1.cd C
  have C2 := d2.cd C
  have C3 := d3.cd C
  have C4 := d4.cd C
  have x1 := c_drawX C0 (n := c 3) d.2.2.2.1 d.2.2.1 h3 (by have := C.b3; omega)
  have x2 := c_drawX C1 (n := c 5) d1.2.2.2.1 d1.2.2.1 h5 (by have := C.b5; omega)
  have x3 := c_drawX C2 (n := c 2) d2.2.2.2.1 d2.2.2.1 h2 (by have := C.b2; omega)
  have x4 : fX1_draw (sI (sI (sI h 74 4 (Int32.ofNat (nxS D.1))) 74 4 (Int32.ofNat (nxS (nxS D.1)))) 74 4 (Int32.ofNat (nxS (nxS (nxS D.1))))) 74 100 = _ := c_drawX C3 (n := 100) d3.2.2.2.1 d3.2.2.1 (by decide) (by decide)
  have l3 := Nat.mod_lt (nxS D.1) h3
  have l5 := Nat.mod_lt (nxS (nxS D.1)) h5
  have l2 := Nat.mod_lt (nxS (nxS (nxS D.1))) h2
  have hp := C.p5
  simp only [fX1_pressByDraws, C0.draD, C0.draK, C0.plan, C0.c3, x1, C1.draD, C1.draK, C1.plan, C1.c5, x2, C2.draD, C2.draK, C2.plan, C2.c2, x3, C3.draK, x4, C4.draD, C4.plan, C4.t8, C4.a8 l5, bd_some, bd2_some, bX1_pressByDraws_71, i10, i00, if_true, if_false, C4.k5, c_sayOn C4 l3 l2, c_printBy C4 l5]
  unfold stp vdN
  by_cases q : P 8 (nxS (nxS D.1) % c 5) ≤ Int32.ofNat (nxS (nxS (nxS (nxS D.1))) % 100)
  · simp only [if_pos q]
    obtain ⟨j, hj', ev⟩ := VD_at (prK_VD (k := P 7 (nxS (nxS D.1) % c 5)) (sayN_VD hW hN l3 (nxS (nxS (nxS D.1)) % c 2)))
    rw [ev, k_clamp (by omega)]
    exact c_press99 C d4 (by omega) hj'
  · simp only [if_neg q]
    exact c_press99 C d4 (j := 2) (by omega) (by decide)
theorem m_press99 (M : MM o P c N h0) (d : dM D h0 h) {i j : Nat} (hi : i < 5) (hj' : j < 3) (x2 : Int32) (k : Nat) (k53 : MH → Nat → Int32 → Int32 → Option MH) : ∃ h', bX13_pressesAll_134 k53 h 77 x2 (Int32.ofNat k) (Int32.ofNat i) (Int32.ofNat j) = k53 h' 77 x2 (Int32.ofNat (k + 1)) ∧ dM (st99 c D i j) h0 h' := by
  have C1 := d.mm M
  have d1 := d.cnt j (h.1 87 j + 1)
  have d2 := d1.lat i (Int32.ofNat j)
  have C2 := d1.mm M
  have C3 := d2.mm M
  obtain ⟨p1, S1⟩ := C1.1
  obtain ⟨p2, S2⟩ := C2.1
  have g1 : gR h 77 13 28 = some 87 := gR_at C1.s77 S1.2.2.2.2.2.2.2.2.2.2.2.2.2.2.1
  have g2 : gR (sI h 87 j (h.1 87 j + 1)) 77 13 29 = some 88 := gR_at C2.s77 S2.2.2.2.2.2.2.2.2.2.2.2.2.2.2.2
  have l1 : lI h 87 (Int32.ofNat j) = some (h.1 87 j) := lI_at (S1.sh 87 rfl) hj' (by decide)
  have t1 : tI h 87 (Int32.ofNat j) (h.1 87 j + 1) = some (sI h 87 j (h.1 87 j + 1)) := tI_at (S1.sh 87 rfl) hj' (by decide)
  have t2 : tI (sI h 87 j (h.1 87 j + 1)) 88 (Int32.ofNat i) (Int32.ofNat j) = some (sI (sI h 87 j (h.1 87 j + 1)) 88 i (Int32.ofNat j)) := tI_at (S2.sh 88 rfl) hi (by decide)
  have ej : (Int32.ofNat j = 2) ↔ j = 2 := k_eq (n := 2) (by omega) (by decide)
  have ec : h.1 87 j = D.2.2.1 j := d.2.2.2.2.2.1 j hj'
  have ef : (fun k => if k = j then h.1 87 j + 1 else D.2.2.1 k) = fun k => if k = j then D.2.2.1 k + 1 else D.2.2.1 k := by
    funext k
    by_cases q : k = j
    · subst q; simp only [if_true, ec]
    · simp only [if_neg q]
  rw [ef] at d2
  simp only [bX13_pressesAll_134, g1, l1, t1, g2, t2, bd_some, ej, k_succ]
  by_cases q : j = 2
  · have hb := m_drawX C3 (n := 100) d2.2.2.2.1 d2.2.2.1 (by decide) (by decide)
    have d3 := d2.seed (nxS_le D.1)
    have C4 := d3.mm M
    have b' : fX13_drawn (sI (sI h 87 j (h.1 87 j + 1)) 88 i (Int32.ofNat j)) 77 100 = _ := hb
    simp only [if_pos q, C3.k13, b', C4.off, C4.c0, bd_some, bd2_some]
    unfold st99
    simp only [if_pos q]
    by_cases q2 : Int32.ofNat (c 0) ≤ Int32.ofNat (nxS D.1 % 100)
    · simp only [if_pos q2]
      exact ⟨_, rfl, d3⟩
    · simp only [if_neg q2]
      have hs := C4.s77
      rw [gI_at hs, bd_some, pI_at hs, bd_some, d3.2.2.2.2.1]
      exact ⟨_, rfl, d3.bird (D.2.1 + 1)⟩
  · simp only [if_neg q]
    refine ⟨_, rfl, ?_⟩
    unfold st99
    simp only [if_neg q]
    exact d2
theorem m_press1 (M : MM o P c N h0) (hW : WP P c) (hN : WN c N) (h3 : 0 < c 3) (h5 : 0 < c 5) (h2 : 0 < c 2) (d : dM D h0 h) {n k : Nat} (hk : k < n) (hn : n ≤ 90) (k53 : MH → Nat → Int32 → Int32 → Option MH) : ∃ h', bX13_pressesAll_53 k53 h 77 (Int32.ofNat n) (Int32.ofNat k) = k53 h' 77 (Int32.ofNat n) (Int32.ofNat (k + 1)) ∧ dM (stp P c N D) h0 h' := by
  have C0 := d.mm M
  have d1 := d.seed (nxS_le D.1)
  have d2 := d1.seed (nxS_le (nxS D.1))
  have d3 := d2.seed (nxS_le (nxS (nxS D.1)))
  have d4 := d3.seed (nxS_le (nxS (nxS (nxS D.1))))
  have C1 := d1.mm M
  have C2 := d2.mm M
  have C3 := d3.mm M
  have C4 := d4.mm M
  have x1 := m_drawX C0 (n := c 3) d.2.2.2.1 d.2.2.1 h3 (by have := M.b3; omega)
  have x2 := m_drawX C1 (n := c 5) d1.2.2.2.1 d1.2.2.1 h5 (by have := M.b5; omega)
  have x3 := m_drawX C2 (n := c 2) d2.2.2.2.1 d2.2.2.1 h2 (by have := M.b2; omega)
  have x4 : fX13_drawn (sI (sI (sI h 77 26 (Int32.ofNat (nxS D.1))) 77 26 (Int32.ofNat (nxS (nxS D.1)))) 77 26 (Int32.ofNat (nxS (nxS (nxS D.1))))) 77 100 = _ := m_drawX C3 (n := 100) d3.2.2.2.1 d3.2.2.1 (by decide) (by decide)
  have l3 := Nat.mod_lt (nxS D.1) h3
  have l5 := Nat.mod_lt (nxS (nxS D.1)) h5
  have l2 := Nat.mod_lt (nxS (nxS (nxS D.1))) h2
  have hp := M.p5
  have h1 := k_nle hk (show n ≤ 100000 by omega)
  have vd := sayN_VD hW hN l3 (nxS (nxS (nxS D.1)) % c 2)
  simp only [bX13_pressesAll_53, if_neg h1, C0.off, C0.k13, C0.c3, x1, C1.off, C1.k13, C1.c5, x2, C2.off, C2.k13, C2.c2, x3, C3.k13, x4, C4.off, C4.k13, C4.t8, C4.a8 l5, bd_some, bd2_some, m_saysNow C4 hW l3 l2, m_printsBy C4 l5 vd]
  unfold stp vdN
  by_cases q : P 8 (nxS (nxS D.1) % c 5) ≤ Int32.ofNat (nxS (nxS (nxS (nxS D.1))) % 100)
  · simp only [if_pos q]
    obtain ⟨j, hj', ev⟩ := VD_at (prK_VD (k := P 7 (nxS (nxS D.1) % c 5)) vd)
    rw [ev, k_clamp (by omega)]
    exact m_press99 M d4 (by omega) hj' _ _ _
  · simp only [if_neg q]
    exact m_press99 M d4 (j := 2) (by omega) (by decide) _ _ _
theorem c_run (C : CD p P c N h0) (hW : WP P c) (hN : WN c N) (h3 : 0 < c 3) (h5 : 0 < c 5) (h2 : 0 < c 2) {s n : Nat} (hs : s ≤ 65536) (hn : n ≤ 90) : ∃ h', fX1_run h0 74 (Int32.ofNat s) (Int32.ofNat n) = some h' ∧ dC (drN P c N s n) h0 h' := by
  have s74 : h0.2.2.2[74]? = some (1, 0) := C.1.sh 74 rfl
  have s75 : h0.2.2.2[75]? = some (15, 3) := C.1.sh 75 rfl
  have s76 : h0.2.2.2[76]? = some (15, 5) := C.1.sh 76 rfl
  have r1 : h0.2.2.1 74 1 = some 75 := C.1.rf 15 rfl rfl
  have r2 : h0.2.2.1 74 2 = some 76 := C.1.rf 15 rfl rfl
  have e0 : fX1_run h0 74 (Int32.ofNat s) (Int32.ofNat n) = fX1_run_12 FU (sI (sI h0 74 4 (Int32.ofNat s)) 74 3 0) 74 (Int32.ofNat n) (Int32.ofNat 0) := by
    simp only [fX1_run, pI_at s74, pI_at (show (sI h0 74 4 (Int32.ofNat s)).2.2.2[74]? = some (1, 0) from s74), bd_some]; rfl
  have e1 := (lpI (F := fun n' k (h : MH) => fX1_run_12 n' h 74 (Int32.ofNat n) (Int32.ofNat k)) (fin := fun h => fX1_run_32 FU h 74 (Int32.ofNat n) 0) (st := fun k h => sI h 75 k 0) (b := 3) (I := fun _ h => h.2 = h0.2) (by decide)
    (fun n' h _ => by
      show bX1_run_12 _ h 74 _ (Int32.ofNat 3) = _
      unfold bX1_run_12
      rw [if_pos (show (3 : Int32) ≤ Int32.ofNat 3 from k_rfl 3)])
    (fun n' k h hk hI => ⟨by
      have h1 : ¬ (3 : Int32) ≤ Int32.ofNat k := k_nle (b := 3) hk (by decide)
      show bX1_run_12 _ h 74 _ (Int32.ofNat k) = _
      have g1 : gR h 74 1 1 = some 75 := gR_at (by rw [hI]; exact s74) (by rw [hI]; exact r1)
      have t1 : tI h 75 (Int32.ofNat k) 0 = some (sI h 75 k 0) := tI_at (by rw [hI]; exact s75) hk (by decide)
      simp only [bX1_run_12, if_neg h1, g1, t1, bd_some, k_succ], hI⟩) (sI (sI h0 74 4 (Int32.ofNat s)) 74 3 0) rfl)
  have e2 := (lpI (F := fun n' k (h : MH) => fX1_run_32 n' h 74 (Int32.ofNat n) (Int32.ofNat k)) (fin := fun h => fX1_run_53 FU h 74 (Int32.ofNat n) 0) (st := fun k h => sI h 76 k (-2)) (b := 5) (I := fun _ h => h.2 = h0.2) (by decide)
    (fun n' h _ => by
      show bX1_run_32 _ h 74 _ (Int32.ofNat 5) = _
      unfold bX1_run_32
      rw [if_pos (show (5 : Int32) ≤ Int32.ofNat 5 from k_rfl 5)])
    (fun n' k h hk hI => ⟨by
      have h1 : ¬ (5 : Int32) ≤ Int32.ofNat k := k_nle (b := 5) hk (by decide)
      show bX1_run_32 _ h 74 _ (Int32.ofNat k) = _
      have g1 : gR h 74 1 2 = some 76 := gR_at (by rw [hI]; exact s74) (by rw [hI]; exact r2)
      have t1 : tI h 76 (Int32.ofNat k) (-2) = some (sI h 76 k (-2)) := tI_at (by rw [hI]; exact s76) hk (by decide)
      simp only [bX1_run_32, if_neg h1, g1, t1, bd_some, k_succ], hI⟩) _ e1.2)
  have d0 : dC (s, 0, fun _ => 0, fun _ => -2) h0 (lp (fun k h => sI h 76 k (-2)) 5 0 (lp (fun k h => sI h 75 k 0) 3 0 (sI (sI h0 74 4 (Int32.ofNat s)) 74 3 0))) := by
    simp only [lp]
    refine ⟨rfl, fun b k q => ?_, hs, ?_, ?_, fun i hi => ?_, fun i hi => ?_⟩
    · iterate 10 rw [sI_ne (by omega)]
    · iterate 9 rw [sI_ne (by omega)]
      exact sI_eq
    · iterate 8 rw [sI_ne (by omega)]
      exact sI_eq
    · iterate 5 rw [sI_ne (by omega)]
      rcases (show i = 0 ∨ i = 1 ∨ i = 2 by omega) with rfl | rfl | rfl
      · rw [sI_ne (by omega), sI_ne (by omega), sI_eq]
      · rw [sI_ne (by omega), sI_eq]
      · rw [sI_eq]
    · rcases (show i = 0 ∨ i = 1 ∨ i = 2 ∨ i = 3 ∨ i = 4 by omega) with rfl | rfl | rfl | rfl | rfl
      · rw [sI_ne (by omega), sI_ne (by omega), sI_ne (by omega), sI_ne (by omega), sI_eq]
      · rw [sI_ne (by omega), sI_ne (by omega), sI_ne (by omega), sI_eq]
      · rw [sI_ne (by omega), sI_ne (by omega), sI_eq]
      · rw [sI_ne (by omega), sI_eq]
      · rw [sI_eq]
  obtain ⟨m, h', e3, hI⟩ := lp_ex0 (F := fun n' k h => fX1_run_53 n' h 74 (Int32.ofNat n) (Int32.ofNat k)) (I := fun k h => dC (drN P c N s k) h0 h) (b := n) (by omega)
    (fun n' k h hk hI => by
      have h1 := k_nle hk (show n ≤ 100000 by omega)
      obtain ⟨h', e, d'⟩ := c_press1 C hW hN h3 h5 h2 hI
      have C1 := hI.cd C
      refine ⟨h', ?_, d'⟩
      show bX1_run_53 _ h 74 _ (Int32.ofNat k) = _
      simp only [bX1_run_53, if_neg h1, C1.draK, e, bd_some, k_succ]) d0
  refine ⟨h', ?_, hI⟩
  rw [e0]
  refine Eq.trans e1.1 (Eq.trans e2.1 (Eq.trans e3 ?_))
  show bX1_run_53 _ h' 74 _ (Int32.ofNat n) = _
  unfold bX1_run_53
  rw [if_pos (k_rfl _)]
theorem m_run (M : MM o P c N h0) (hW : WP P c) (hN : WN c N) (h3 : 0 < c 3) (h5 : 0 < c 5) (h2 : 0 < c 2) {s n : Nat} (hs : s ≤ 65536) (hn : n ≤ 90) : ∃ h', fX13_pressesAll h0 77 (Int32.ofNat s) (Int32.ofNat n) = some h' ∧ dM (drN P c N s n) h0 h' := by
  obtain ⟨pp, S⟩ := M.1
  have s77 := M.s77
  have s87 : h0.2.2.2[87]? = some (15, 3) := S.sh 87 rfl
  have s88 : h0.2.2.2[88]? = some (15, 5) := S.sh 88 rfl
  have r1 : h0.2.2.1 77 28 = some 87 := S.2.2.2.2.2.2.2.2.2.2.2.2.2.2.1
  have r2 : h0.2.2.1 77 29 = some 88 := S.2.2.2.2.2.2.2.2.2.2.2.2.2.2.2
  have e0 : fX13_pressesAll h0 77 (Int32.ofNat s) (Int32.ofNat n) = fX13_pressesAll_12 FU (sI (sI h0 77 26 (Int32.ofNat s)) 77 27 0) 77 (Int32.ofNat n) (Int32.ofNat 0) := by
    simp only [fX13_pressesAll, pI_at s77, pI_at (show (sI h0 77 26 (Int32.ofNat s)).2.2.2[77]? = some (13, 0) from s77), bd_some]; rfl
  have e1 := (lpI (F := fun n' k (h : MH) => fX13_pressesAll_12 n' h 77 (Int32.ofNat n) (Int32.ofNat k)) (fin := fun h => fX13_pressesAll_32 FU h 77 (Int32.ofNat n) 0) (st := fun k h => sI h 87 k 0) (b := 3) (I := fun _ h => h.2 = h0.2) (by decide)
    (fun n' h _ => by
      show bX13_pressesAll_12 _ h 77 _ (Int32.ofNat 3) = _
      unfold bX13_pressesAll_12
      rw [if_pos (show (3 : Int32) ≤ Int32.ofNat 3 from k_rfl 3)])
    (fun n' k h hk hI => ⟨by
      have h1 : ¬ (3 : Int32) ≤ Int32.ofNat k := k_nle (b := 3) hk (by decide)
      show bX13_pressesAll_12 _ h 77 _ (Int32.ofNat k) = _
      have g1 : gR h 77 13 28 = some 87 := gR_at (by rw [hI]; exact s77) (by rw [hI]; exact r1)
      have t1 : tI h 87 (Int32.ofNat k) 0 = some (sI h 87 k 0) := tI_at (by rw [hI]; exact s87) hk (by decide)
      simp only [bX13_pressesAll_12, if_neg h1, g1, t1, bd_some, k_succ], hI⟩) (sI (sI h0 77 26 (Int32.ofNat s)) 77 27 0) rfl)
  have e2 := (lpI (F := fun n' k (h : MH) => fX13_pressesAll_32 n' h 77 (Int32.ofNat n) (Int32.ofNat k)) (fin := fun h => fX13_pressesAll_53 FU h 77 (Int32.ofNat n) 0) (st := fun k h => sI h 88 k (-2)) (b := 5) (I := fun _ h => h.2 = h0.2) (by decide)
    (fun n' h _ => by
      show bX13_pressesAll_32 _ h 77 _ (Int32.ofNat 5) = _
      unfold bX13_pressesAll_32
      rw [if_pos (show (5 : Int32) ≤ Int32.ofNat 5 from k_rfl 5)])
    (fun n' k h hk hI => ⟨by
      have h1 : ¬ (5 : Int32) ≤ Int32.ofNat k := k_nle (b := 5) hk (by decide)
      show bX13_pressesAll_32 _ h 77 _ (Int32.ofNat k) = _
      have g1 : gR h 77 13 29 = some 88 := gR_at (by rw [hI]; exact s77) (by rw [hI]; exact r2)
      have t1 : tI h 88 (Int32.ofNat k) (-2) = some (sI h 88 k (-2)) := tI_at (by rw [hI]; exact s88) hk (by decide)
      simp only [bX13_pressesAll_32, if_neg h1, g1, t1, bd_some, k_succ], hI⟩) _ e1.2)
  have d0 : dM (s, 0, fun _ => 0, fun _ => -2) h0 (lp (fun k h => sI h 88 k (-2)) 5 0 (lp (fun k h => sI h 87 k 0) 3 0 (sI (sI h0 77 26 (Int32.ofNat s)) 77 27 0))) := by
    simp only [lp]
    refine ⟨rfl, fun b k q q2 q3 => ?_, hs, ?_, ?_, fun i hi => ?_, fun i hi => ?_⟩
    · iterate 10 rw [sI_ne (by omega)]
    · iterate 9 rw [sI_ne (by omega)]
      exact sI_eq
    · iterate 8 rw [sI_ne (by omega)]
      exact sI_eq
    · iterate 5 rw [sI_ne (by omega)]
      rcases (show i = 0 ∨ i = 1 ∨ i = 2 by omega) with rfl | rfl | rfl
      · rw [sI_ne (by omega), sI_ne (by omega), sI_eq]
      · rw [sI_ne (by omega), sI_eq]
      · rw [sI_eq]
    · rcases (show i = 0 ∨ i = 1 ∨ i = 2 ∨ i = 3 ∨ i = 4 by omega) with rfl | rfl | rfl | rfl | rfl
      · rw [sI_ne (by omega), sI_ne (by omega), sI_ne (by omega), sI_ne (by omega), sI_eq]
      · rw [sI_ne (by omega), sI_ne (by omega), sI_ne (by omega), sI_eq]
      · rw [sI_ne (by omega), sI_ne (by omega), sI_eq]
      · rw [sI_ne (by omega), sI_eq]
      · rw [sI_eq]
  obtain ⟨m, h', e3, hI⟩ := lp_ex0 (F := fun n' k h => fX13_pressesAll_53 n' h 77 (Int32.ofNat n) (Int32.ofNat k)) (I := fun k h => dM (drN P c N s k) h0 h) (b := n) (by omega)
    (fun n' k h hk hI => m_press1 M hW hN h3 h5 h2 hI hk hn (fX13_pressesAll_53 n')) d0
  refine ⟨h', ?_, hI⟩
  rw [e0]
  refine Eq.trans e1.1 (Eq.trans e2.1 (Eq.trans e3 ?_))
  show bX13_pressesAll_53 _ h' 77 _ (Int32.ofNat n) = _
  unfold bX13_pressesAll_53
  rw [if_pos (k_rfl _)]
end DRA
