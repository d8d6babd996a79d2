/-! ===== kept, keptBy, toFill ===== -/
section KEQ
variable {p : Nat} {P : PT} {c : CT} {N : Nat → Int32} {f a m w : Nat} {h h0 h1 h2 : MH} {t : Int32} {o : Nat} {I0 : Nat → Nat}
theorem iZ_m1 : iZ (-1) = -1 := by decide
theorem Bd_le : ∀ d, d ≤ 5 → Bd d ≤ 500000 := by decide +kernel
theorem m_asInk (M : MM o P c N h) : fX13_asInk h 77 = some (cpO h 86 0 (fun s => N (10 + s)) 4) := by
  have Mk : ∀ k, MM o P c N (cpO h 86 0 (fun s => N (10 + s)) k) := fun k => M.same rfl (fun b j q => cpO_out (by omega))
  have e := lp0 (F := fun n k (_ : Unit) => fX13_asInk_2 n (cpO h 86 0 (fun s => N (10 + s)) k) 77 (Int32.ofNat k)) (fin := fun _ => some (cpO h 86 0 (fun s => N (10 + s)) 4)) (st := fun _ a => a) (b := 4) (by decide)
    (fun n _ => by
      show bX13_asInk_2 _ _ 77 (Int32.ofNat 4) = _
      unfold bX13_asInk_2
      rw [if_pos (show (4 : Int32) ≤ Int32.ofNat 4 from k_rfl 4)])
    (fun n k _ hk => by
      have Mx := Mk k
      have h1 : ¬ (4 : Int32) ≤ Int32.ofNat k := k_nle (b := 4) hk (by decide)
      have t1 : tI (cpO h 86 0 (fun s => N (10 + s)) k) 86 (Int32.ofNat k) (N (10 + k)) = some (cpO h 86 0 (fun s => N (10 + s)) (k + 1)) := by
        rw [tI_at (Mx.sx 86 rfl) hk (by decide)]
        have := cpO_s (h := h) (b := 86) (d := 0) (f := fun s => N (10 + s)) (k := k) rfl
        rw [Nat.zero_add] at this; rw [this]
      show bX13_asInk_2 _ _ 77 (Int32.ofNat k) = _
      simp only [bX13_asInk_2, if_neg h1, Mx.r86, Mx.v, Mx.ink hk, t1, bd_some, k_succ]) ()
  rw [cpO_0] at e
  exact e
theorem m_keeps (M : MM o P c N h) (hW : WP P c) (hN : WN c N) (x : Int32) (hink : ∀ s, s < c 3 → h.1 86 s = Int32.ofNat (inkF N x s)) (h2 : 1 ≤ c 2) :
    ∃ h', fX13_keeps h 77 = some (iZ (ksr P c N x (-1)).1, h') ∧ mKel P c (inkF N x) h (inkF N x) (fun _ => 2) (fun _ => none) 0 (ksr P c N x (-1)) h' := by
  have hp := M.p5
  have hI0 : ∀ s, inkF N x s ≤ 100 := fun s => Nat.le_trans (inkF_le hN x s) (by decide)
  have M1 : ∀ k, MM o P c N (cpO h 84 0 (fun _ => Int32.ofNat 0) k) := fun k => M.same rfl (fun b j q => cpO_out (by omega))
  have M2 : ∀ k, MM o P c N (cpO (cpO h 84 0 (fun _ => Int32.ofNat 0) 4) 85 0 (fun _ => Int32.ofNat 0) k) := fun k => (M1 4).same rfl (fun b j q => cpO_out (by omega))
  have e2 := lp0 (F := fun n k (_ : Unit) => fX13_keeps_38 n (cpO (cpO h 84 0 (fun _ => Int32.ofNat 0) 4) 85 0 (fun _ => Int32.ofNat 0) k) 77 (-1) 0 0 (Int32.ofNat (c 3 * c 5)) (Int32.ofNat k)) (fin := fun _ => fX13_keeps_65 FU (sI (cpO (cpO h 84 0 (fun _ => Int32.ofNat 0) 4) 85 0 (fun _ => Int32.ofNat 0) 3) 82 0 (-1)) 77 (-1) 0 0 (Int32.ofNat (c 3 * c 5))) (st := fun _ a => a) (b := 3) (by decide)
    (fun n _ => by
      have Mx := M2 3
      have t0 : tI (cpO (cpO h 84 0 (fun _ => Int32.ofNat 0) 4) 85 0 (fun _ => Int32.ofNat 0) 3) 82 0 (-1) = some (sI (cpO (cpO h 84 0 (fun _ => Int32.ofNat 0) 4) 85 0 (fun _ => Int32.ofNat 0) 3) 82 0 (-1)) := tI_at (i := 0) (Mx.sx 82 rfl) (by decide) (by decide)
      show bX13_keeps_38 _ _ 77 _ _ _ _ (Int32.ofNat 3) = _
      unfold bX13_keeps_38
      rw [if_pos (show (3 : Int32) ≤ Int32.ofNat 3 from k_rfl 3), Mx.r82, bd_some, t0, bd_some])
    (fun n k _ hk => by
      have Mx := M2 k
      have h1 : ¬ (3 : Int32) ≤ Int32.ofNat k := k_nle (b := 3) hk (by decide)
      have t1 : tI (cpO (cpO h 84 0 (fun _ => Int32.ofNat 0) 4) 85 0 (fun _ => Int32.ofNat 0) k) 85 (Int32.ofNat k) 0 = some (cpO (cpO h 84 0 (fun _ => Int32.ofNat 0) 4) 85 0 (fun _ => Int32.ofNat 0) (k + 1)) := by
        rw [tI_at (Mx.sx 85 rfl) hk (by decide)]
        have := cpO_s (h := cpO h 84 0 (fun _ => Int32.ofNat 0) 4) (b := 85) (d := 0) (f := fun _ => Int32.ofNat 0) (k := k) (x := 0) rfl
        rw [Nat.zero_add] at this; rw [this]
      show bX13_keeps_38 _ _ 77 _ _ _ _ (Int32.ofNat k) = _
      simp only [bX13_keeps_38, if_neg h1, Mx.r85, t1, bd_some, k_succ]) ()
  have e1 := lp0 (F := fun n k (_ : Unit) => fX13_keeps_15 n (cpO h 84 0 (fun _ => Int32.ofNat 0) k) 77 (-1) 0 0 (Int32.ofNat (c 3 * c 5)) (Int32.ofNat k)) (fin := fun _ => fX13_keeps_38 FU (cpO h 84 0 (fun _ => Int32.ofNat 0) 4) 77 (-1) 0 0 (Int32.ofNat (c 3 * c 5)) 0) (st := fun _ a => a) (b := 4) (by decide)
    (fun n _ => by
      show bX13_keeps_15 _ _ 77 _ _ _ _ (Int32.ofNat 4) = _
      unfold bX13_keeps_15
      rw [if_pos (show (4 : Int32) ≤ Int32.ofNat 4 from k_rfl 4)])
    (fun n k _ hk => by
      have Mx := M1 k
      have h1 : ¬ (4 : Int32) ≤ Int32.ofNat k := k_nle (b := 4) hk (by decide)
      have t1 : tI (cpO h 84 0 (fun _ => Int32.ofNat 0) k) 84 (Int32.ofNat k) 0 = some (cpO h 84 0 (fun _ => Int32.ofNat 0) (k + 1)) := by
        rw [tI_at (Mx.sx 84 rfl) hk (by decide)]
        have := cpO_s (h := h) (b := 84) (d := 0) (f := fun _ => Int32.ofNat 0) (k := k) (x := 0) rfl
        rw [Nat.zero_add] at this; rw [this]
      show bX13_keeps_15 _ _ 77 _ _ _ _ (Int32.ofNat k) = _
      simp only [bX13_keeps_15, if_neg h1, Mx.r84, t1, bd_some, k_succ]) ()
  rw [cpO_0] at e1 e2
  have K : mKel P c (inkF N x) h (inkF N x) (fun _ => 2) (fun _ => none) 0 ((-1 : Int), none) (sI (cpO (cpO h 84 0 (fun _ => Int32.ofNat 0) 4) 85 0 (fun _ => Int32.ofNat 0) 3) 82 0 (-1)) := by
    refine ⟨rfl, fun b k q => by rw [sI_ne (by omega), cpO_out (by omega), cpO_out (by omega)], fun s hs => ?_, fun j hj => ?_, fun j hj => by omega, ⟨Int.le_refl _, by decide⟩, fun T' e => by cases e⟩
    · rw [sI_ne (by omega), cpO_out (by omega), Nat.sub_self]
      have := cpO_in (h := h) (b := 84) (d := 0) (f := fun _ => Int32.ofNat 0) (k := 4) (i := s) (by have := M.s4; omega)
      rw [Nat.zero_add] at this; exact this
    · rw [sI_ne (by omega)]
      have := cpO_in (h := cpO h 84 0 (fun _ => Int32.ofNat 0) 4) (b := 85) (d := 0) (f := fun _ => Int32.ofNat 0) (k := 3) (i := j) (by have := M.h3; omega)
      rw [Nat.zero_add] at this; exact this
  obtain ⟨k, h', hk, e3, K'⟩ := m_levs M hW hN hink hI0 (c 2 - 1) 0 0 (inkF N x) (fun _ => 2) (fun _ => none) ((-1 : Int), none) _ (by omega) ⟨fun s => Nat.le_refl _, fun _ => Nat.le_refl 2, Nat.le_refl 0⟩ (fun i q hi => by omega) K sI_eq
  rw [show c 2 - 1 + 1 = c 2 by omega] at e3 K' hk
  have hkb := Nat.le_trans hk (Bd_le (c 2) (by omega))
  obtain ⟨n, hn⟩ : ∃ n, FU = n + 1 + k := ⟨999999999 - k, by unfold FU; omega⟩
  refine ⟨h', ?_, K'⟩
  have ep : fX13_keeps h 77 = fX13_keeps_65 FU (sI (cpO (cpO h 84 0 (fun _ => Int32.ofNat 0) 4) 85 0 (fun _ => Int32.ofNat 0) 3) 82 0 (-1)) 77 (-1) 0 0 (Int32.ofNat (c 3 * c 5)) := by
    simp only [fX13_keeps, M.k13, m_pairsMany M, bd_some, bd2_some]
    exact Eq.trans e1 e2
  rw [ep, hn]
  have e4 := e3 (n + 1)
  rw [show iZ ((-1 : Int), (none : Option KT)).1 = -1 from iZ_m1] at e4
  refine Eq.trans e4 ?_
  show bX13_keeps_65 _ h' 77 _ _ (Int32.ofNat 0 + (-1)) _ = _
  unfold bX13_keeps_65
  rw [if_pos (show Int32.ofNat 0 + (-1) < 0 by decide)]
  rfl
theorem ksr_bd (P : PT) (c : CT) (N : Nat → Int32) (x : Int32) (hp : c 2 ≤ 5) : ∃ M : Int, 0 ≤ M ∧ M ≤ 5 ∧ ∀ z, -1 ≤ z → (ksr P c N x z).1 = if z < M then M else z := by
  obtain ⟨M, a1, a2, a3⟩ := sr_max (ok := okP P c N (inkF N x)) (H := c 5) (nP := c 3 * c 5) (c 2) 0 0 (inkF N x) (fun _ => 2)
  exact ⟨M, a1, by omega, fun z hz => a3 _ (z, none) hz⟩
theorem ink_m1 (hN : WN c N) {s : Nat} (hs : s < 4) : N (10 + s) = Int32.ofNat (inkF N (-1) s) := by
  obtain ⟨i1, i2⟩ := hN.ik hs
  have n1 : ¬ Int32.ofNat s = -1 := fun z => by
    have := k_neg (i := s) (by omega)
    rw [z] at this; exact this (by decide)
  unfold inkF
  rw [if_pos hs, if_neg n1, Nat.add_zero]
  exact i1
/-- the model's start: its ink as it is -/
theorem m_kept0 (M : MM o P c N h) (hW : WP P c) (hN : WN c N) (h2 : 1 ≤ c 2) : ∃ hA h', fX13_asInk h 77 = some hA ∧ MM o P c N hA ∧ fX13_keeps hA 77 = some (iZ (ksr P c N (-1) (-1)).1, h') ∧ MM o P c N h' ∧ h'.2 = h.2 ∧ (∀ b k, b < 82 ∨ 86 < b → h'.1 b k = h.1 b k) ∧ ∀ T', (ksr P c N (-1) (-1)).2 = some T' → ∀ j, j < c 2 → h'.1 83 j = bEnc (T' j) := by
  have hs4 := M.s4
  have e1 := m_asInk M
  have MA : MM o P c N (cpO h 86 0 (fun s => N (10 + s)) 4) := M.same rfl (fun b j q => cpO_out (by omega))
  obtain ⟨h', e2, K⟩ := m_keeps MA hW hN (-1) (fun s hs => by
    have := cpO_in (h := h) (b := 86) (d := 0) (f := fun s => N (10 + s)) (k := 4) (i := s) (by omega)
    rw [Nat.zero_add] at this; rw [this]; exact ink_m1 hN (by omega)) h2
  exact ⟨_, h', e1, MA, e2, K.mm MA, K.1, fun b k q => by rw [K.2.1 b k (by omega), cpO_out (by omega)], K.2.2.2.2.2.2⟩
theorem mOb_fin (hs : h2.2 = h1.2) (e : ∀ b k, b < 82 ∨ 86 < b → h2.1 b k = (sI h1 77 0 0).1 b k) : mOb 0 h1 (sI (sI h2 77 1 0) 77 2 (-1)) :=
  ⟨hs, fun b k q1 q2 => by rw [sI_ne (by omega), sI_ne (by omega), e b k (by omega), sI_ne (by omega)], by rw [sI_ne (by omega), sI_eq], sI_eq⟩
theorem o_kept (R : RR p P c N f a m w h) : OB p P c N f a m w h (fX11_kept h 0) (fun h => fX13_kept h 77) := by
  have C := R.1
  have hW := R.2.1
  have hN := R.2.2.1
  have hk : ∀ t, ck (sI (sI h 0 10 t) 77 0 0) 77 13 = some () := fun t => ck_at (show (sI (sI h 0 10 t) 77 0 0).2.2.2[77]? = some (13, 0) from R.s1 t)
  rcases R.op with ⟨q9, o, M1⟩ | ⟨q9, gz⟩
  rotate_left
  · refine R.ob1 (-1) 1 (by decide) ?_ ?_
    · simp only [fX11_kept, C.desk, C.k5, C.k11, C.plan, C.now, C.k4, C.k7, C.opn, q9, c_refuse C, bd_some, bd2_some, i10, i00, if_false, if_true]
    · simp only [fX13_kept, pI_at (R.s1 1), hk 1, gz 1, btt, m_refused (R.s1 1), bd_some, bd2_some, i10, i00, if_false, if_true]
  have h2c := R.2.2.2.2.2.2.2.2.2.2.1 q9
  obtain ⟨h1, e1, K⟩ := c_mostWants C hN (-1) (z := -1) (Int.le_refl _) (by decide)
  rw [iZ_m1] at e1
  have C1 := K.cd C
  have M : MM o P c N (sI (sI h1 0 10 0) 77 0 0) := (M1 0).same (congrArg Prod.snd K.1) (fun b k q => by rw [sI_ne (by omega), sI_ne (by omega), sI_ne (by omega), sI_ne (by omega)]; exact K.2.1 b k (by omega))
  obtain ⟨hA, h2, a1, MA, a2, M2, a3, a4, a5⟩ := m_kept0 M hW hN h2c
  refine R.ob (t := 0) (iZ (ksr P c N (-1) (-1)).1) (by decide) (h1 := sI h1 0 10 0) (h2 := sI (sI h2 77 1 0) 77 2 (-1)) ?_ ⟨K.1, fun b k q1 q2 => by rw [sI_ne q2]; exact K.2.1 b k (by omega), sI_eq⟩ ?_ (mOb_fin a3 a4)
  · simp only [fX11_kept, C.desk, C.k5, C.k11, C.plan, C.now, C.k4, C.k7, C.opn, q9, C.kee, C.keeK, e1, C1.k11, c_answer C1, bd_some, bd2_some, i10, i00, if_false, if_true]
  · simp only [fX13_kept, pI_at (show (sI h1 0 10 0).2.2.2[77]? = some (13, 0) from C1.1.sh 77 rfl), M.offZ, bft, M.k13, a1, MA.k13, a2, M2.k13, m_goodX M2.s77, bd_some, bd2_some, i10, i00, if_false, if_true]
theorem o_keptBy (R : RR p P c N f a m w h) (x : Int32) : OB p P c N f a m w h (fX11_keptBy h 0 x) (fun h => fX13_keptBy h 77 x) := by
  have C := R.1
  have hW := R.2.1
  have hN := R.2.2.1
  have hq : ∀ t, ∃ p, CS p (sI (sI h 0 10 t) 77 0 0).2.2 := fun t => ⟨p, R.cs⟩
  have hk : ∀ t, ck (sI (sI h 0 10 t) 77 0 0) 77 13 = some () := fun t => ck_at (show (sI (sI h 0 10 t) 77 0 0).2.2.2[77]? = some (13, 0) from R.s1 t)
  by_cases g0 : inB x (c 2) = true
  rotate_left
  · refine R.ob1 (-1) 1 (by decide) ?_ ?_
    · simp only [fX11_keptBy, C.desk, C.k5, C.k11, C.plan, C.now, C.k4, C.k7, c_hasPaperN C g0, c_refuse C, bd_some, bd2_some, i10, i00, if_false, if_true]
    · simp only [fX13_keptBy, pI_at (R.s1 1), hk 1, q_isPaperN (R.q1 1) (hq 1) g0, m_refused (R.s1 1), bd_some, bd2_some, i10, i00, if_false, if_true]
  obtain ⟨i, hi, rfl⟩ := inB_at (C.b31 2 (by decide)) g0
  have hp5 := C.p5
  have h3 := C.h3
  have h4 := C.s4
  have hP : c 3 * c 5 ≤ 4 * 3 := Nat.mul_le_mul h4 h3
  obtain ⟨h1, e1, K⟩ := c_mostWants C hN (-1) (z := -1) (Int.le_refl _) (by decide)
  rw [iZ_m1] at e1
  have C1 := K.cd C
  obtain ⟨o, M1⟩ := R.m1 0 (k := 2) (by omega)
  have M : MM o P c N (sI (sI h1 0 10 0) 77 0 0) := M1.same (congrArg Prod.snd K.1) (fun b k q => by rw [sI_ne (by omega), sI_ne (by omega), sI_ne (by omega), sI_ne (by omega)]; exact K.2.1 b k (by omega))
  obtain ⟨hA, h2, a1, MA, a2, M2, a3, a4, a5⟩ := m_kept0 M hW hN (by omega)
  have hsome := sr_some (ok := okP P c N (inkF N (-1))) (H := c 5) (nP := c 3 * c 5) (c 2) 0 0 (inkF N (-1)) (fun _ => 2) (fun _ => none) ((-1 : Int), none) (Or.inl (by show (-1 : Int) < ((0 : Nat) : Int); omega))
  obtain ⟨T', hT'⟩ := Option.isSome_iff_exists.mp hsome
  have hT2 : (ksr P c N (-1) (-1)).2 = some T' := hT'
  have hok := sr_okKT (ok := okP P c N (inkF N (-1))) (H := c 5) (nP := c 3 * c 5) (Q := c 2) (c 2) 0 0 (inkF N (-1)) (fun _ => 2) (fun _ => none) ((-1 : Int), none) (by omega) (fun i q hi => by omega) (fun T e => by cases e) T' hT'
  have l1 : lI h1 70 (Int32.ofNat i) = some (kEnc (c 5) (T' i)) := by rw [lI_at (C1.1.sh 70 rfl) (show i < 5 by omega) (by decide)]; exact congrArg some (K.2.2.2.2.2.2.2.2.2.2 T' hT2 i hi)
  have l2 : lI h2 83 (Int32.ofNat i) = some (bEnc (T' i)) := by rw [lI_at (M2.sx 83 rfl) (show i < 5 by omega) (by decide), a5 T' hT2 i hi]
  refine R.ob (t := 0) (kEnc (c 5) (T' i)) (by decide) (h1 := sI h1 0 10 0) (h2 := sI (sI h2 77 1 0) 77 2 (-1)) ?_ ⟨K.1, fun b k q1 q2 => by rw [sI_ne q2]; exact K.2.1 b k (by omega), sI_eq⟩ ?_ (mOb_fin a3 a4)
  · simp only [fX11_keptBy, fX3_pairFor, C.desk, C.k5, C.k11, C.plan, C.now, C.k4, C.k7, c_hasPaperY C g0, C.kee, C.keeK, e1, C1.q6, l1, C1.k11, c_answer C1, bd_some, bd2_some, i10, i00, if_false, if_true]
  · simp only [fX13_keptBy, pI_at (show (sI h1 0 10 0).2.2.2[77]? = some (13, 0) from C1.1.sh 77 rfl), M.k13, m_isPaper M, if_pos g0, a1, MA.k13, a2, M2.r83, l2, bd_some, bd2_some, i10, i00, if_false, if_true]
    cases hTi : T' i with
    | none =>
      rw [show bEnc none = -2 from rfl, if_pos rfl]
      simp only [M2.k13, m_goodX M2.s77, bd_some, bd2_some]
      rfl
    | some q =>
      have hqq := hok i q hi hTi
      obtain ⟨q1, q2⟩ := pq_lt hqq
      have n2 : ¬ Int32.ofNat q = -2 := fun z => by
        have := k_neg (i := q) (by omega)
        rw [z] at this; exact this (by decide)
      have nzH := nz_of (n := c 5) (by omega) (by omega)
      have ed := k_div (a := q) (b := c 5) (by omega) (by omega)
      have em := k_mod (a := q) (b := c 5) (by omega) (by omega)
      rw [ed] at em
      rw [show bEnc (some q) = Int32.ofNat q from rfl, if_neg n2]
      simp only [M2.off, M2.c5, nzH, ed, em, M2.k13, m_goodX M2.s77, bd_some, bd2_some]
      rfl
/-- the first stamp by which more are kept -/
def ff (g : Nat → Bool) : Nat → Nat → Option Nat
  | 0, _ => none
  | m + 1, k => if g k = true then some k else ff g m (k + 1)
def gF (P : PT) (c : CT) (N : Nat → Int32) (z : Int) (s : Nat) : Bool := decide (z < (ksr P c N (Int32.ofNat s) (-1)).1)
theorem c_toFill9 (C : CD p P c N h0) (hN : WN c N) {z : Int} (hz1 : 0 ≤ z) (hz2 : z ≤ 5) : ∀ (m k n : Nat) (h : MH), k + m = c 3 → h.2 = h0.2 → (∀ b k, b < 64 ∨ 70 < b → h.1 b k = h0.1 b k) →
    ∃ h', fX3_stampToFill_9 (n + m + 1) h 64 (iZ z) (Int32.ofNat k) = some (oI (ff (gF P c N z) m k), h') ∧ h'.2 = h0.2 ∧ ∀ b k, b < 64 ∨ 70 < b → h'.1 b k = h0.1 b k
  | 0, k, n, h, e, s1, s2 => by
    have C1 : CD p P c N h := C.same2 (by rw [s1]) (fun b k q1 q2 => s2 b k (by omega))
    have hk : k = c 3 := by omega
    subst hk
    refine ⟨h, ?_, s1, s2⟩
    show bX3_stampToFill_9 _ h 64 _ (Int32.ofNat (c 3)) = _
    simp only [bX3_stampToFill_9, C1.keeD, C1.plan, C1.c3, bd_some, if_pos (k_rfl _)]
    rfl
  | m + 1, k, n, h, e, s1, s2 => by
    have C1 : CD p P c N h := C.same2 (by rw [s1]) (fun b k q1 q2 => s2 b k (by omega))
    have hk : k < c 3 := by omega
    have hn := k_nle hk C.b3
    obtain ⟨h1, e1, K⟩ := c_mostWants C1 hN (Int32.ofNat k) (z := z) (by omega) (by omega)
    obtain ⟨Mx, m1, m2, m3⟩ := ksr_bd P c N (Int32.ofNat k) C.p5
    have v1 := m3 z (by omega)
    have v2 := m3 (-1) (Int.le_refl _)
    have hle : (iZ (ksr P c N (Int32.ofNat k) z).1 ≤ iZ z) ↔ ¬ gF P c N z k = true := by
      rw [iZ_le2 (by rw [v1]; split <;> omega) (by rw [v1]; split <;> omega) (by omega) (by omega), v1]
      unfold gF
      rw [v2, decide_eq_true_eq]
      (repeat' split) <;> omega
    have t1 : h1.2 = h0.2 := K.1.trans s1
    have t2 : ∀ b k, b < 64 ∨ 70 < b → h1.1 b k = h0.1 b k := fun b k q => (K.2.1 b k q).trans (s2 b k q)
    show ∃ h', bX3_stampToFill_9 (fX3_stampToFill_9 (n + m + 1)) h 64 _ (Int32.ofNat k) = _ ∧ _
    simp only [bX3_stampToFill_9, C1.keeD, C1.plan, C1.c3, C1.keeK, e1, bd_some, bd2_some, if_neg hn, k_succ, hle]
    unfold ff
    by_cases q : gF P c N z k = true
    · rw [if_neg (fun w => w q), if_pos q]
      exact ⟨h1, rfl, t1, t2⟩
    · rw [if_pos q, if_neg q]
      exact c_toFill9 C hN hz1 hz2 m (k + 1) n h1 (by omega) t1 t2
theorem m_toFill29 (M0 : MM o P c N h0) (hW : WP P c) (hN : WN c N) (h2c : 1 ≤ c 2) {z : Int} (hz1 : 0 ≤ z) (hz2 : z ≤ 5) : ∀ (m k n : Nat) (h : MH), k + m = c 3 → h.2 = h0.2 → (∀ b k, b < 82 ∨ 86 < b → h.1 b k = h0.1 b k) →
    ∃ h', fX13_toFill_29 (n + m + 1) h 77 (iZ z) (Int32.ofNat k) = some (oI (ff (gF P c N z) m k), sI (sI h' 77 1 0) 77 2 (-1)) ∧ h'.2 = h0.2 ∧ ∀ b k, b < 82 ∨ 86 < b → h'.1 b k = h0.1 b k
  | 0, k, n, h, e, s1, s2 => by
    have M1 : MM o P c N h := M0.same (by rw [s1]) (fun b k q => s2 b k (by omega))
    have hk : k = c 3 := by omega
    subst hk
    refine ⟨h, ?_, s1, s2⟩
    show bX13_toFill_29 _ h 77 _ (Int32.ofNat (c 3)) = _
    simp only [bX13_toFill_29, M1.off, M1.c3, M1.k13, m_goodX M1.s77, bd_some, bd2_some, if_pos (k_rfl _)]
    rfl
  | m + 1, k, n, h, e, s1, s2 => by
    have M1 : MM o P c N h := M0.same (by rw [s1]) (fun b k q => s2 b k (by omega))
    have hs4 := M0.s4
    have hk : k < c 3 := by omega
    have hn := k_nle hk M0.b3
    have e1 := m_asInk M1
    have MA : MM o P c N (cpO h 86 0 (fun s => N (10 + s)) 4) := M1.same rfl (fun b j q => cpO_out (by omega))
    have v86 : ∀ s, s < 4 → (cpO h 86 0 (fun s => N (10 + s)) 4).1 86 s = N (10 + s) := fun s hs => by
      have := cpO_in (h := h) (b := 86) (d := 0) (f := fun s => N (10 + s)) (k := 4) hs
      rw [Nat.zero_add] at this; exact this
    have l1 : lI (cpO h 86 0 (fun s => N (10 + s)) 4) 86 (Int32.ofNat k) = some (N (10 + k)) := by rw [lI_at (MA.sx 86 rfl) (show k < 4 by omega) (by decide), v86 k (by omega)]
    have t1 : tI (cpO h 86 0 (fun s => N (10 + s)) 4) 86 (Int32.ofNat k) (N (10 + k) + 1) = some (sI (cpO h 86 0 (fun s => N (10 + s)) 4) 86 k (N (10 + k) + 1)) := tI_at (MA.sx 86 rfl) (show k < 4 by omega) (by decide)
    have MB : MM o P c N (sI (cpO h 86 0 (fun s => N (10 + s)) 4) 86 k (N (10 + k) + 1)) := MA.wr (by decide) (by decide)
    obtain ⟨h1, e2, K⟩ := m_keeps MB hW hN (Int32.ofNat k) (fun s hs => by
      obtain ⟨i1, i2⟩ := hN.ik (show s < 4 by omega)
      by_cases q : s = k
      · subst q
        rw [sI_eq]; unfold inkF
        rw [if_pos (show s < 4 by omega), if_pos rfl, ← k_succ, ← i1]
      · have q' : ¬ Int32.ofNat s = Int32.ofNat k := fun z => q ((k_eq (by omega) (by omega)).mp z)
        rw [sI_ne (by omega), v86 s (by omega)]; unfold inkF
        rw [if_pos (show s < 4 by omega), if_neg q', Nat.add_zero]; exact i1) h2c
    have M2 := K.mm MB
    obtain ⟨Mx, m1, m2, m3⟩ := ksr_bd P c N (Int32.ofNat k) M0.p5
    have v2 := m3 (-1) (Int.le_refl _)
    have hle : (iZ (ksr P c N (Int32.ofNat k) (-1)).1 ≤ iZ z) ↔ ¬ gF P c N z k = true := by
      rw [iZ_le2 (by rw [v2]; split <;> omega) (by rw [v2]; split <;> omega) (by omega) (by omega)]
      unfold gF
      rw [decide_eq_true_eq]
      omega
    have t2 : h1.2 = h0.2 := K.1.trans s1
    have t3 : ∀ b k, b < 82 ∨ 86 < b → h1.1 b k = h0.1 b k := fun b j q => by rw [K.2.1 b j (by omega), sI_ne (by omega), cpO_out (by omega)]; exact s2 b j q
    show ∃ h', bX13_toFill_29 (fX13_toFill_29 (n + m + 1)) h 77 _ (Int32.ofNat k) = _ ∧ _
    simp only [bX13_toFill_29, M1.off, M1.c3, M1.k13, e1, MA.r86, l1, t1, MB.k13, e2, M2.k13, m_goodX M2.s77, bd_some, bd2_some, if_neg hn, k_succ, hle]
    unfold ff
    by_cases q : gF P c N z k = true
    · rw [if_neg (fun w => w q), if_pos q]
      exact ⟨h1, rfl, t2, t3⟩
    · rw [if_pos q, if_neg q]
      exact m_toFill29 M0 hW hN h2c hz1 hz2 m (k + 1) n h1 (by omega) t2 t3
theorem o_toFill (R : RR p P c N f a m w h) : OB p P c N f a m w h (fX11_toFill h 0) (fun h => fX13_toFill h 77) := by
  have C := R.1
  have hW := R.2.1
  have hN := R.2.2.1
  have hk : ∀ t, ck (sI (sI h 0 10 t) 77 0 0) 77 13 = some () := fun t => ck_at (show (sI (sI h 0 10 t) 77 0 0).2.2.2[77]? = some (13, 0) from R.s1 t)
  rcases R.op with ⟨q9, o, M1⟩ | ⟨q9, gz⟩
  rotate_left
  · refine R.ob1 (-1) 1 (by decide) ?_ ?_
    · simp only [fX11_toFill, C.desk, C.k5, C.k11, C.plan, C.now, C.k4, C.k7, C.opn, q9, c_refuse C, bd_some, bd2_some, i10, i00, if_false, if_true]
    · simp only [fX13_toFill, pI_at (R.s1 1), hk 1, gz 1, btt, m_refused (R.s1 1), bd_some, bd2_some, i10, i00, if_false, if_true]
  have h2c := R.2.2.2.2.2.2.2.2.2.2.1 q9
  have hs4 := C.s4
  obtain ⟨Mx, m1, m2, m3⟩ := ksr_bd P c N (-1) C.p5
  have v2 := m3 (-1) (Int.le_refl _)
  have hz1 : 0 ≤ (ksr P c N (-1) (-1)).1 := by rw [v2]; split <;> omega
  have hz2 : (ksr P c N (-1) (-1)).1 ≤ 5 := by rw [v2]; split <;> omega
  obtain ⟨h1, e1, K⟩ := c_mostWants C hN (-1) (z := -1) (Int.le_refl _) (by decide)
  rw [iZ_m1] at e1
  obtain ⟨n, hn⟩ := FU_at (c 3) (by omega)
  obtain ⟨h2, e2, s1, s2⟩ := c_toFill9 C hN hz1 hz2 (c 3) 0 n h1 (by omega) K.1 K.2.1
  rw [← hn] at e2
  have C2 : CD p P c N h2 := C.same2 (by rw [s1]) (fun b k q1 q2 => s2 b k (by omega))
  have M : MM o P c N (sI (sI h2 0 10 0) 77 0 0) := (M1 0).same (congrArg Prod.snd s1) (fun b k q => by rw [sI_ne (by omega), sI_ne (by omega), sI_ne (by omega), sI_ne (by omega)]; exact s2 b k (by omega))
  obtain ⟨hA, h3, a1, MA, a2, M2, a3, a4, a5⟩ := m_kept0 M hW hN h2c
  obtain ⟨h4, e4, s3, s4⟩ := m_toFill29 M hW hN h2c hz1 hz2 (c 3) 0 n h3 (by omega) a3 a4
  rw [← hn] at e4
  have e2' : fX3_stampToFill_9 FU h1 64 (iZ (ksr P c N (-1) (-1)).1) 0 = _ := e2
  have e4' : fX13_toFill_29 FU h3 77 (iZ (ksr P c N (-1) (-1)).1) 0 = _ := e4
  refine R.ob (t := 0) (oI (ff (gF P c N (ksr P c N (-1) (-1)).1) (c 3) 0)) (by decide) (h1 := sI h2 0 10 0) (h2 := sI (sI h4 77 1 0) 77 2 (-1)) ?_ ⟨s1, fun b k q1 q2 => by rw [sI_ne q2]; exact s2 b k (by omega), sI_eq⟩ ?_ (mOb_fin s3 s4)
  · simp only [fX11_toFill, fX3_stampToFill, C.desk, C.k5, C.k11, C.plan, C.now, C.k4, C.k7, C.opn, q9, C.kee, C.keeK, e1, e2', C2.k11, c_answer C2, bd_some, bd2_some, i10, i00, if_false, if_true]
  · simp only [fX13_toFill, pI_at (show (sI h2 0 10 0).2.2.2[77]? = some (13, 0) from C2.1.sh 77 rfl), M.offZ, bft, M.k13, a1, MA.k13, a2, e4', bd_some, bd2_some, i10, i00, if_false, if_true]
end KEQ
