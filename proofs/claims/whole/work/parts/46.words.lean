/-! ===== words: loops of both sides over stamps, rules and sets of marks ===== -/
/-- how many bits, of numbers below 32 -/
def pcN (k : Nat) : Nat := k % 2 + k / 2 % 2 + k / 4 % 2 + k / 8 % 2 + k / 16 % 2
def pc6 (x0 : Int32) : Int32 :=
  let v1 := (x0 - (((x0.toUInt32 >>> ((1 : Int32).toUInt32 &&& Int32.toUInt32 31)).toInt32) &&& 1431655765))
  let v2 := ((v1 &&& 858993459) + (((v1.toUInt32 >>> ((2 : Int32).toUInt32 &&& Int32.toUInt32 31)).toInt32) &&& 858993459))
  let v3 := ((v2 + ((v2.toUInt32 >>> ((4 : Int32).toUInt32 &&& Int32.toUInt32 31)).toInt32)) &&& 252645135)
  let v4 := (v3 + ((v3.toUInt32 >>> ((8 : Int32).toUInt32 &&& Int32.toUInt32 31)).toInt32))
  let v5 := (v4 + ((v4.toUInt32 >>> ((16 : Int32).toUInt32 &&& Int32.toUInt32 31)).toInt32))
  v5 &&& 63
theorem j_bits (h : MH) (x : Int32) : fJ6_bitCount_0f7a4 h x = some (pc6 x, h) := rfl
theorem pc6_32 : ∀ k, k < 32 → pc6 (Int32.ofNat k) = Int32.ofNat (pcN k) := by decide +kernel
theorem pcN_le (k : Nat) : pcN k ≤ 5 := by unfold pcN; omega
def btF : Nat → Int32 → Int32 → Option Int32
  | 0, _, _ => none
  | n + 1, a, x => if x = 0 then some a else btF n (a + 1) (x &&& (x - 1))
theorem bt_eq {h : MH} : ∀ (n : Nat) (a x v : Int32), btF n a x = some v → ∀ m, fX13_bits_4 (m + n) h a x = some (v, h)
  | 0, a, x, v, e, m => by cases e
  | n + 1, a, x, v, e, m => by
    show bX13_bits_4 (fX13_bits_4 (m + n)) h a x = _
    unfold btF at e
    unfold bX13_bits_4
    split at e
    · rename_i q; cases e; rw [if_pos q]
    · rename_i q; rw [if_neg q]; exact bt_eq n _ _ v e m
theorem bt_32 : ∀ k, k < 32 → btF 6 0 (Int32.ofNat k) = some (Int32.ofNat (pcN k)) := by decide +kernel
theorem m_bits {h : MH} {k : Nat} (hk : k < 32) : fX13_bits h (Int32.ofNat k) = some (Int32.ofNat (pcN k), h) := by
  have e := bt_eq (h := h) 6 0 _ _ (bt_32 k hk) 999999994
  exact e
def alB (b : Nat → Bool) : Nat → Nat → Bool
  | 0, _ => true
  | m + 1, k => b k && alB b m (k + 1)
theorem lx_al {b : Nat → Bool} : ∀ m k, lx (fun k (_ : Unit) => if b k = true then (.inr () : Unit ⊕ Unit) else .inl ()) m k () = if alB b m k = true then .inr () else .inl ()
  | 0, k => rfl
  | m + 1, k => by
    unfold lx alB
    cases hb : b k with
    | false => simp
    | true => simp only [if_true, Bool.true_and]; exact lx_al m (k + 1)
theorem alB_iff {b : Nat → Bool} : ∀ m k, alB b m k = true ↔ ∀ j, k ≤ j → j < k + m → b j = true
  | 0, k => by simp only [alB, true_iff]; intro j h1 h2; omega
  | m + 1, k => by
    unfold alB
    rw [Bool.and_eq_true, alB_iff m (k + 1)]
    constructor
    · intro ⟨h1, h2⟩ j q1 q2
      rcases Nat.lt_or_ge k j with q | q
      · exact h2 j (by omega) (by omega)
      · have : j = k := by omega
        subst this; exact h1
    · intro h1
      exact ⟨h1 k (by omega) (by omega), fun j q1 q2 => h1 j (by omega) (by omega)⟩
/-- bits set by a test -/
def stB (b : Nat → Bool) (s : Nat) (a : Int32) : Int32 := if b s = true then a ||| (1 <<< (Int32.ofNat s &&& 31)) else a
def stC (b : Nat → Bool) (s : Nat) (a : Int32) : Int32 := if b s = true then a + 1 else a
theorem bits_all {n : Nat} (hn : n ≤ 4) (b : Nat → Bool) : (lp (stB b) n 0 0 = (1 <<< (Int32.ofNat n &&& 31)) - 1) ↔ alB b n 0 = true := by
  rcases (show n = 0 ∨ n = 1 ∨ n = 2 ∨ n = 3 ∨ n = 4 by omega) with rfl | rfl | rfl | rfl | rfl <;> simp only [lp, stB, alB]
  · decide
  · cases b 0 <;> decide
  · cases b 0 <;> cases b 1 <;> decide
  · cases b 0 <;> cases b 1 <;> cases b 2 <;> decide
  · cases b 0 <;> cases b 1 <;> cases b 2 <;> cases b 3 <;> decide
theorem bits_pc {n : Nat} (hn : n ≤ 4) (b : Nat → Bool) : pc6 (lp (stB b) n 0 0) = lp (stC b) n 0 0 := by
  rcases (show n = 0 ∨ n = 1 ∨ n = 2 ∨ n = 3 ∨ n = 4 by omega) with rfl | rfl | rfl | rfl | rfl <;> simp only [lp, stB, stC]
  · decide
  · cases b 0 <;> decide
  · cases b 0 <;> cases b 1 <;> decide
  · cases b 0 <;> cases b 1 <;> cases b 2 <;> decide
  · cases b 0 <;> cases b 1 <;> cases b 2 <;> cases b 3 <;> decide
section WOR
variable {p o : Nat} {P : PT} {c : CT} {N : Nat → Int32} {h hf : MH}
/-- stamps that say a verdict -/
def bSay (P : PT) (c : CT) (N : Nat → Int32) (marks v : Int32) (s : Nat) : Bool := decide (say P c N s marks = v)
def bRul (P : PT) (s : Int32) (k : Nat) : Bool := decide (P 4 k = s)
theorem oI_lt {s marks : Int32} (hc : c 4 ≤ 10) : (oI (frO P c s marks) < 0) ↔ (oI (frO P c s marks) = -2) := by
  cases hf : frO P c s marks with
  | none => decide
  | some k =>
    have hk := frO_lt hf
    have h1 : ¬ oI (some k) < 0 := k_neg (by omega)
    constructor
    · intro q; exact absurd q h1
    · intro q
      exfalso
      apply h1
      rw [q]; decide
theorem c_rulesOf (C : CD p P c N h) (s : Int32) : fX7_rulesOf h p s = some ((lp (stC (bRul P s)) (c 4) 0 (0)), h) :=
  lp0 (F := fun n k a => fX7_rulesOf_4 n h p s a (Int32.ofNat k)) (fin := fun a => some (a, h)) (st := stC (bRul P s)) (b := c 4) (C.b4)
    (fun n a => by
      show bX7_rulesOf_4 _ h p s a (Int32.ofNat (c 4)) = _
      simp only [bX7_rulesOf_4, C.c4, bd_some, bd2_some, if_pos (k_rfl _)])
    (fun n k a hk => by
      have h1 := k_nle hk (C.b4)
      show bX7_rulesOf_4 _ h p s a (Int32.ofNat k) = _
      simp only [bX7_rulesOf_4, C.c4, C.t4, C.a4 hk, bd_some, bd2_some, if_neg h1, k_succ, stC, bRul, decide_eq_true_eq]
      by_cases q : P 4 k = s
      · simp only [if_pos q]
      · simp only [if_neg q]) (0)
theorem m_stampL (M : MM o P c N h) (s x : Int32) : fX13_stamp_33 FU h 77 s x (0) (Int32.ofNat 0) = bX13_stamp_33 (fun _ _ _ _ _ _ => none) h 77 s x (lp (stC (bRul P s)) (c 4) 0 (0)) (Int32.ofNat (c 4)) :=
  lp0 (F := fun n k a => fX13_stamp_33 n h 77 s x a (Int32.ofNat k)) (fin := fun a => bX13_stamp_33 (fun _ _ _ _ _ _ => none) h 77 s x a (Int32.ofNat (c 4))) (st := stC (bRul P s)) (b := c 4) (M.b4)
    (fun n a => by
      show bX13_stamp_33 _ h 77 s x a (Int32.ofNat (c 4)) = _
      simp only [bX13_stamp_33, M.off, M.c4, bd_some, bd2_some, if_pos (k_rfl _)])
    (fun n k a hk => by
      have h1 := k_nle hk (M.b4)
      show bX13_stamp_33 _ h 77 s x a (Int32.ofNat k) = _
      simp only [bX13_stamp_33, M.off, M.c4, M.t4, M.a4 hk, Int32.add_zero, bd_some, bd2_some, if_neg h1, k_succ, stC, bRul, decide_eq_true_eq]
      by_cases q : P 4 k = s
      · simp only [if_pos q]
      · simp only [if_neg q]) (0)
theorem c_stamps (C : CD p P c N h) (marks v : Int32) : fX5_stampsThatSay h 26 marks v = some ((lp (stB (bSay P c N marks v)) (c 3) 0 (0)), h) :=
  lp0 (F := fun n k a => fX5_stampsThatSay_5 n h 26 marks v a (Int32.ofNat k)) (fin := fun a => some (a, h)) (st := stB (bSay P c N marks v)) (b := c 3) (C.b3)
    (fun n a => by
      show bX5_stampsThatSay_5 _ h 26 marks v a (Int32.ofNat (c 3)) = _
      simp only [bX5_stampsThatSay_5, C.plan, C.c3, bd_some, bd2_some, if_pos (k_rfl _)])
    (fun n k a hk => by
      have h1 := k_nle hk (C.b3)
      show bX5_stampsThatSay_5 _ h 26 marks v a (Int32.ofNat k) = _
      simp only [bX5_stampsThatSay_5, C.plan, C.c3, C.k5, c_sayOf C hk, bd_some, bd2_some, if_neg h1, k_succ, stB, bSay, decide_eq_true_eq]
      by_cases q : say P c N k marks = v
      · simp only [if_pos q]
      · simp only [if_neg q]) (0)
theorem m_sayersL (M : MM o P c N h) (hW : WP P c) (hg : ∀ v, fX13_good1 h 77 v = some (v, hf)) {i : Nat} (hi : i < c 2) (v : Int32) : fX13_sayers_37 FU h 77 (Int32.ofNat i) v (0) (Int32.ofNat 0) = some ((lp (stB (bSay P c N (N i) v)) (c 3) 0 (0)), hf) :=
  lp0 (F := fun n k a => fX13_sayers_37 n h 77 (Int32.ofNat i) v a (Int32.ofNat k)) (fin := fun a => some (a, hf)) (st := stB (bSay P c N (N i) v)) (b := c 3) (M.b3)
    (fun n a => by
      show bX13_sayers_37 _ h 77 (Int32.ofNat i) v a (Int32.ofNat (c 3)) = _
      simp only [bX13_sayers_37, M.off, M.c3, M.k13, hg, bd_some, bd2_some, if_pos (k_rfl _)])
    (fun n k a hk => by
      have h1 := k_nle hk (M.b3)
      show bX13_sayers_37 _ h 77 (Int32.ofNat i) v a (Int32.ofNat k) = _
      simp only [bX13_sayers_37, M.off, M.c3, M.k13, m_saysNow M hW hk hi, Int32.or_zero, bd_some, bd2_some, if_neg h1, k_succ, stB, bSay, sayN, decide_eq_true_eq]
      by_cases q : say P c N k (N i) = v
      · simp only [if_pos q]
      · simp only [if_neg q]) (0)
def stI (P : PT) (c : CT) (s : Int32) (marks : Nat) (a : Int32) : Int32 := if oI (frO P c s (Int32.ofNat marks)) = -2 then a else a &&& ((1 <<< (oI (frO P c s (Int32.ofNat marks)) &&& 31)) ^^^ (-1))
theorem MM.s32 (M : MM o P c N h) : 2 ^ c 1 ≤ 100000 := Nat.le_trans (x_sets M.m5) (by decide)
theorem CD.s32 (C : CD p P c N h) : 2 ^ c 1 ≤ 100000 := Nat.le_trans (x_sets C.m5) (by decide)
theorem c_idle2 (C : CD p P c N h) (s a0 : Int32) : fX5_rulesNeverFirst_42 FU h 26 s (a0) (Int32.ofNat 0) = some ((lp (stI P c s) (2 ^ c 1) 0 (a0)), h) :=
  lp0 (F := fun n k a => fX5_rulesNeverFirst_42 n h 26 s a (Int32.ofNat k)) (fin := fun a => some (a, h)) (st := stI P c s) (b := 2 ^ c 1) (C.s32)
    (fun n a => by
      show bX5_rulesNeverFirst_42 _ h 26 s a (Int32.ofNat (2 ^ c 1)) = _
      simp only [bX5_rulesNeverFirst_42, C.plan, C.k7, c_markSets C, bd_some, bd2_some, if_pos (k_rfl _)])
    (fun n k a hk => by
      have h1 := k_nle hk (C.s32)
      show bX5_rulesNeverFirst_42 _ h 26 s a (Int32.ofNat k) = _
      simp only [bX5_rulesNeverFirst_42, C.plan, C.k7, c_markSets C, C.k5, c_firstRule C, oI_lt C.r10, bd_some, bd2_some, if_neg h1, k_succ, stI]
      by_cases q : oI (frO P c s (Int32.ofNat k)) = -2
      · simp only [if_pos q]
      · simp only [if_neg q]) (a0)
theorem c_idle (C : CD p P c N h) (s : Int32) : fX5_rulesNeverFirst h 26 s = some (lp (stI P c s) (2 ^ c 1) 0 (lp (stB (bRul P s)) (c 4) 0 (0)), h) :=
  lp0 (F := fun n k a => fX5_rulesNeverFirst_4 n h 26 s a (Int32.ofNat k)) (fin := fun a => some (lp (stI P c s) (2 ^ c 1) 0 a, h)) (st := stB (bRul P s)) (b := c 4) (C.b4)
    (fun n a => by
      show bX5_rulesNeverFirst_4 _ h 26 s a (Int32.ofNat (c 4)) = _
      simp only [bX5_rulesNeverFirst_4, C.plan, C.c4, show (0 : Int32) = Int32.ofNat 0 from rfl, c_idle2 C s, bd_some, bd2_some, if_pos (k_rfl _)])
    (fun n k a hk => by
      have h1 := k_nle hk (C.b4)
      show bX5_rulesNeverFirst_4 _ h 26 s a (Int32.ofNat k) = _
      simp only [bX5_rulesNeverFirst_4, C.plan, C.c4, C.t4, C.a4 hk, bd_some, bd2_some, if_neg h1, k_succ, stB, bRul, decide_eq_true_eq]
      by_cases q : P 4 k = s
      · simp only [if_pos q]
      · simp only [if_neg q]) (0)
theorem m_idle2 (M : MM o P c N h) (hW : WP P c) (hg : ∀ v, fX13_good1 h 77 v = some (v, hf)) (s a0 : Int32) : fX13_idleRules_65 FU h 77 s (a0) (Int32.ofNat 0) = some ((lp (stI P c s) (2 ^ c 1) 0 (a0)), hf) :=
  lp0 (F := fun n k a => fX13_idleRules_65 n h 77 s a (Int32.ofNat k)) (fin := fun a => some (a, hf)) (st := stI P c s) (b := 2 ^ c 1) (M.s32)
    (fun n a => by
      show bX13_idleRules_65 _ h 77 s a (Int32.ofNat (2 ^ c 1)) = _
      simp only [bX13_idleRules_65, M.k13, m_allMarks M, hg, bd_some, bd2_some, if_pos (k_rfl _)])
    (fun n k a hk => by
      have h1 := k_nle hk (M.s32)
      show bX13_idleRules_65 _ h 77 s a (Int32.ofNat k) = _
      simp only [bX13_idleRules_65, M.k13, m_allMarks M, m_ruleFor M hW, bd_some, bd2_some, if_neg h1, k_succ, stI]
      by_cases q : oI (frO P c s (Int32.ofNat k)) = -2
      · simp only [if_pos q]
      · simp only [if_neg q]) (a0)
theorem m_idle (M : MM o P c N h) (hW : WP P c) (hg : ∀ v, fX13_good1 h 77 v = some (v, hf)) (s : Int32) : fX13_idleRules_23 FU h 77 s (0) (Int32.ofNat 0) = some (lp (stI P c s) (2 ^ c 1) 0 (lp (stB (bRul P s)) (c 4) 0 (0)), hf) :=
  lp0 (F := fun n k a => fX13_idleRules_23 n h 77 s a (Int32.ofNat k)) (fin := fun a => some (lp (stI P c s) (2 ^ c 1) 0 a, hf)) (st := stB (bRul P s)) (b := c 4) (M.b4)
    (fun n a => by
      show bX13_idleRules_23 _ h 77 s a (Int32.ofNat (c 4)) = _
      simp only [bX13_idleRules_23, M.off, M.c4, show (0 : Int32) = Int32.ofNat 0 from rfl, m_idle2 M hW hg s, bd_some, bd2_some, if_pos (k_rfl _)])
    (fun n k a hk => by
      have h1 := k_nle hk (M.b4)
      show bX13_idleRules_23 _ h 77 s a (Int32.ofNat k) = _
      simp only [bX13_idleRules_23, M.off, M.c4, M.t4, M.a4 hk, Int32.or_zero, bd_some, bd2_some, if_neg h1, k_succ, stB, bRul, decide_eq_true_eq]
      by_cases q : P 4 k = s
      · simp only [if_pos q]
      · simp only [if_neg q]) (0)
def stD (P : PT) (c : CT) (N : Nat → Int32) (s s' marks : Nat) (a : Int32) : Int32 := if say P c N s (Int32.ofNat marks) = say P c N s' (Int32.ofNat marks) then a else a + 1
theorem c_differ (C : CD p P c N h) {i j : Nat} (hi : i < c 3) (hj : j < c 3) : fX5_setsSaidUnlike h 26 (Int32.ofNat i) (Int32.ofNat j) = some ((lp (stD P c N i j) (2 ^ c 1) 0 (0)), h) :=
  lp0 (F := fun n k a => fX5_setsSaidUnlike_5 n h 26 (Int32.ofNat i) (Int32.ofNat j) a (Int32.ofNat k)) (fin := fun a => some (a, h)) (st := stD P c N i j) (b := 2 ^ c 1) (C.s32)
    (fun n a => by
      show bX5_setsSaidUnlike_5 _ h 26 (Int32.ofNat i) (Int32.ofNat j) a (Int32.ofNat (2 ^ c 1)) = _
      simp only [bX5_setsSaidUnlike_5, C.plan, C.k7, c_markSets C, bd_some, bd2_some, if_pos (k_rfl _)])
    (fun n k a hk => by
      have h1 := k_nle hk (C.s32)
      show bX5_setsSaidUnlike_5 _ h 26 (Int32.ofNat i) (Int32.ofNat j) a (Int32.ofNat k) = _
      simp only [bX5_setsSaidUnlike_5, C.plan, C.k7, c_markSets C, C.k5, c_sayOf C hi, c_sayOf C hj, bd_some, bd2_some, if_neg h1, k_succ, stD]
      by_cases q : say P c N i (Int32.ofNat k) = say P c N j (Int32.ofNat k)
      · simp only [if_pos q]
      · simp only [if_neg q]) (0)
theorem m_differL (M : MM o P c N h) (hW : WP P c) (hg : ∀ v, fX13_good1 h 77 v = some (v, hf)) {i j : Nat} (hi : i < c 3) (hj : j < c 3) : fX13_differ_37 FU h 77 (Int32.ofNat i) (Int32.ofNat j) (0) (Int32.ofNat 0) = some ((lp (stD P c N i j) (2 ^ c 1) 0 (0)), hf) :=
  lp0 (F := fun n k a => fX13_differ_37 n h 77 (Int32.ofNat i) (Int32.ofNat j) a (Int32.ofNat k)) (fin := fun a => some (a, hf)) (st := stD P c N i j) (b := 2 ^ c 1) (M.s32)
    (fun n a => by
      show bX13_differ_37 _ h 77 (Int32.ofNat i) (Int32.ofNat j) a (Int32.ofNat (2 ^ c 1)) = _
      simp only [bX13_differ_37, M.k13, m_allMarks M, hg, bd_some, bd2_some, if_pos (k_rfl _)])
    (fun n k a hk => by
      have h1 := k_nle hk (M.s32)
      show bX13_differ_37 _ h 77 (Int32.ofNat i) (Int32.ofNat j) a (Int32.ofNat k) = _
      simp only [bX13_differ_37, M.k13, m_allMarks M, m_saysBy M hW hi, m_saysBy M hW hj, Int32.add_zero, bd_some, bd2_some, if_neg h1, k_succ, stD]
      by_cases q : say P c N i (Int32.ofNat k) = say P c N j (Int32.ofNat k)
      · simp only [if_pos q]
      · simp only [if_neg q]) (0)
/-- the fewest, the first such -/
def fewer (k : Nat) (a : Option Nat) : Bool := match a with
  | none => true
  | some j => decide (pcN k < pcN j)
def stW (ok : Nat → Bool) (k : Nat) (a : Option Nat) : Option Nat := if ok k = true ∧ fewer k a = true then some k else a
def lt32 (a : Option Nat) : Prop := ∀ j, a = some j → j < 32
theorem stW_32 {ok : Nat → Bool} {k : Nat} {a : Option Nat} (hk : k < 32) (ha : lt32 a) : lt32 (stW ok k a) := by
  intro j e
  unfold stW at e
  split at e
  · cases e; exact hk
  · exact ha j e
theorem c_isFewer {k : Nat} {a : Option Nat} (hk : k < 32) (ha : lt32 a) : fX5_isFewer h (Int32.ofNat k) (oI a) = some (if fewer k a = true then 1 else 0, h) := by
  unfold fX5_isFewer
  cases a with
  | none =>
    have e : oI none < 0 := by decide
    rw [if_pos e]; rfl
  | some j =>
    have hj := ha j rfl
    have e : ¬ oI (some j) < 0 := k_neg (by omega)
    rw [if_neg e, j_bits, bd2_some, show oI (some j) = Int32.ofNat j from rfl, j_bits, bd2_some, pc6_32 k hk, pc6_32 j hj]
    have h1 := pcN_le k
    have h2 := pcN_le j
    by_cases q : pcN k < pcN j
    · have q1 : ¬ Int32.ofNat (pcN j) ≤ Int32.ofNat (pcN k) := fun w => by have := (k_le (by omega) (by omega)).mp w; omega
      simp [fewer, q, q1]
    · have q1 : Int32.ofNat (pcN j) ≤ Int32.ofNat (pcN k) := (k_le (by omega) (by omega)).mpr (by omega)
      simp [fewer, q, q1]
/-- the model's way to say so: k is put in a's place -/
theorem m_fewer {ρ : Type} {k : Nat} {a : Option Nat} (hk : k < 32) (ha : lt32 a) (X Y : Option ρ) :
    (if oI a = -2 then X else bd2 (fX13_bits h (Int32.ofNat k)) fun v1 h1 => bd2 (fX13_bits h1 (oI a)) fun v2 _ => if v2 ≤ v1 then Y else X) = if fewer k a = true then X else Y := by
  cases a with
  | none => rfl
  | some j =>
    have hj := ha j rfl
    have e : ¬ oI (some j) = -2 := fun q => by
      have := k_neg (i := j) (by omega)
      rw [show Int32.ofNat j = -2 from q] at this
      exact this (by decide)
    rw [if_neg e, m_bits hk, bd2_some, show oI (some j) = Int32.ofNat j from rfl, m_bits hj, bd2_some]
    have h1 := pcN_le k
    have h2 := pcN_le j
    by_cases q : pcN k < pcN j
    · have q1 : ¬ Int32.ofNat (pcN j) ≤ Int32.ofNat (pcN k) := fun w => by have := (k_le (by omega) (by omega)).mp w; omega
      simp [fewer, q, q1]
    · have q1 : Int32.ofNat (pcN j) ≤ Int32.ofNat (pcN k) := (k_le (by omega) (by omega)).mpr (by omega)
      simp [fewer, q, q1]
def okW (P : PT) (c : CT) (N : Nat → Int32) (k : Nat) : Bool := alB (bSay P c N (Int32.ofNat k) 1) (c 3) 0
theorem c_worded (C : CD p P c N h) : fX5_fewestMarksForYes h 26 = some (oI (lp (stW (okW P c N)) (2 ^ c 1) 0 none), h) := by
  have hs := x_sets C.m5
  have e : fX5_fewestMarksForYes h 26 = fX5_fewestMarksForYes_17 FU h 26 ((1 <<< (Int32.ofNat (c 3) &&& 31)) - 1) (oI none) (Int32.ofNat 0) := by
    simp only [fX5_fewestMarksForYes, C.plan, C.c3, bd_some]; rfl
  rw [e]
  refine (lpI (F := fun n k a => fX5_fewestMarksForYes_17 n h 26 ((1 <<< (Int32.ofNat (c 3) &&& 31)) - 1) (oI a) (Int32.ofNat k)) (fin := fun a => some (oI a, h)) (st := stW (okW P c N)) (b := 2 ^ c 1) (I := fun _ a => lt32 a) C.s32 (fun n a _ => ?_) (fun n k a hk ha => ⟨?_, stW_32 (by omega) ha⟩) none (fun j e => by cases e)).1
  · show bX5_fewestMarksForYes_17 _ h 26 _ (oI a) (Int32.ofNat (2 ^ c 1)) = _
    simp only [bX5_fewestMarksForYes_17, C.plan, C.k7, c_markSets C, bd_some, bd2_some, if_pos (k_rfl _)]
  · have h1 := k_nle hk C.s32
    show bX5_fewestMarksForYes_17 _ h 26 _ (oI a) (Int32.ofNat k) = _
    have hall := bits_all C.s4 (bSay P c N (Int32.ofNat k) 1)
    simp only [bX5_fewestMarksForYes_17, C.plan, C.k7, C.k5, c_markSets C, c_isFewer (show k < 32 by omega) ha, c_stamps C, hall, bd_some, bd2_some, if_neg h1, k_succ, stW, okW]
    by_cases q1 : fewer k a = true
    · by_cases q2 : alB (bSay P c N (Int32.ofNat k) 1) (c 3) 0 = true
      · simp [q1, q2, oI]
      · simp [q1, q2]
    · simp [q1]
theorem m_allSay (M : MM o P c N h) (hW : WP P c) (k : Nat) : fX13_allSay h 77 (Int32.ofNat k) = some (if okW P c N k = true then 1 else 0, h) := by
  have e := lx0 (F := fun n s (_ : Unit) => fX13_allSay_2 n h 77 (Int32.ofNat k) (Int32.ofNat s)) (fin := fun q => match q with | .inl _ => some ((0 : Int32), h) | .inr _ => some (1, h)) (st := fun s (_ : Unit) => if bSay P c N (Int32.ofNat k) 1 s = true then (.inr () : Unit ⊕ Unit) else .inl ()) (b := c 3) M.b3
    (fun n a => by
      show bX13_allSay_2 _ h 77 _ (Int32.ofNat (c 3)) = _
      simp only [bX13_allSay_2, M.off, M.c3, bd_some, if_pos (k_rfl _)])
    (fun n s a hs => by
      have h1 := k_nle hs M.b3
      show bX13_allSay_2 _ h 77 _ (Int32.ofNat s) = _
      simp only [bX13_allSay_2, M.off, M.c3, M.k13, m_saysBy M hW hs, bd_some, bd2_some, if_neg h1, k_succ, bSay, decide_eq_true_eq]
      by_cases q : say P c N s (Int32.ofNat k) = 1
      · simp only [if_pos q]
      · simp only [if_neg q]) ()
  rw [lx_al] at e
  refine Eq.trans e ?_
  unfold okW
  cases alB (bSay P c N (Int32.ofNat k) 1) (c 3) 0 <;> rfl
theorem m_wordedL (M : MM o P c N h) (hW : WP P c) (hg : ∀ v, fX13_good1 h 77 v = some (v, hf)) : fX13_worded_23 FU h 77 (-2) (Int32.ofNat 0) = some (oI (lp (stW (okW P c N)) (2 ^ c 1) 0 none), hf) := by
  have hs := x_sets M.m5
  refine (lpI (F := fun n k a => fX13_worded_23 n h 77 (oI a) (Int32.ofNat k)) (fin := fun a => some (oI a, hf)) (st := stW (okW P c N)) (b := 2 ^ c 1) (I := fun _ a => lt32 a) M.s32 (fun n a _ => ?_) (fun n k a hk ha => ⟨?_, stW_32 (by omega) ha⟩) none (fun j e => by cases e)).1
  · show bX13_worded_23 _ h 77 (oI a) (Int32.ofNat (2 ^ c 1)) = _
    simp only [bX13_worded_23, M.k13, m_allMarks M, hg, bd_some, bd2_some, if_pos (k_rfl _)]
  · have h1 := k_nle hk M.s32
    show bX13_worded_23 (fX13_worded_23 n) h 77 (oI a) (Int32.ofNat k) = _
    simp only [bX13_worded_23, M.k13, m_allMarks M, m_allSay M hW, bd_some, bd2_some, if_neg h1, k_succ, stW]
    by_cases q2 : okW P c N k = true
    · have e := m_fewer (h := h) (show k < 32 by omega) ha (fX13_worded_23 n h 77 (Int32.ofNat k) (Int32.ofNat (k + 1))) (fX13_worded_23 n h 77 (oI a) (Int32.ofNat (k + 1)))
      simp only [m_bits (show k < 32 by omega), bd2_some] at e ⊢
      rw [if_pos q2, if_neg (by decide)]
      cases a with
      | none => simp [fewer, q2, oI]
      | some j =>
        have hj := ha j rfl
        simp only [show oI (some j) = Int32.ofNat j from rfl, m_bits hj, bd2_some] at e ⊢
        rw [e]
        by_cases q1 : fewer k (some j) = true
        · simp [q1, q2, oI]
        · simp [q1, oI]
    · simp [q2]
def okRw (P : PT) (c : CT) (N : Nat → Int32) (i s : Nat) (v : Int32) (k : Nat) : Bool := decide (say P c N s (N i ^^^ Int32.ofNat k) = v)
theorem c_reword (C : CD p P c N h) {i s : Nat} (hi : i < c 2) (hs : s < c 3) (v : Int32) : fX5_fewestChanges h 26 (Int32.ofNat i) (Int32.ofNat s) v = some (oI (lp (stW (okRw P c N i s v)) (2 ^ c 1) 0 none), h) := by
  have h32 := x_sets C.m5
  have hp := C.p5
  refine (lpI (F := fun n k a => fX5_fewestChanges_7 n h 26 (Int32.ofNat i) (Int32.ofNat s) v (oI a) (Int32.ofNat k)) (fin := fun a => some (oI a, h)) (st := stW (okRw P c N i s v)) (b := 2 ^ c 1) (I := fun _ a => lt32 a) C.s32 (fun n a _ => ?_) (fun n k a hk ha => ⟨?_, stW_32 (by omega) ha⟩) none (fun j e => by cases e)).1
  · show bX5_fewestChanges_7 _ h 26 _ _ v (oI a) (Int32.ofNat (2 ^ c 1)) = _
    simp only [bX5_fewestChanges_7, C.plan, C.k7, c_markSets C, bd_some, bd2_some, if_pos (k_rfl _)]
  · have h1 := k_nle hk C.s32
    show bX5_fewestChanges_7 _ h 26 _ _ v (oI a) (Int32.ofNat k) = _
    simp only [bX5_fewestChanges_7, C.plan, C.now, C.k4, C.k7, C.k5, c_markSets C, c_isFewer (show k < 32 by omega) ha, c_marksOf C (show i < 5 by omega), c_sayOf C hs, bd_some, bd2_some, if_neg h1, k_succ, stW, okRw, decide_eq_true_eq]
    by_cases q1 : fewer k a = true
    · by_cases q2 : say P c N s (N i ^^^ Int32.ofNat k) = v
      · simp [q1, q2, oI]
      · simp [q1, q2]
    · simp [q1]
theorem m_rewordL (M : MM o P c N h) (hW : WP P c) (hg : ∀ v, fX13_good1 h 77 v = some (v, hf)) {i s : Nat} (hi : i < c 2) (hs : s < c 3) (v : Int32) : fX13_reword_47 FU h 77 (Int32.ofNat i) (Int32.ofNat s) v (-2) (Int32.ofNat 0) = some (oI (lp (stW (okRw P c N i s v)) (2 ^ c 1) 0 none), hf) := by
  have h32 := x_sets M.m5
  have hp := M.p5
  refine (lpI (F := fun n k a => fX13_reword_47 n h 77 (Int32.ofNat i) (Int32.ofNat s) v (oI a) (Int32.ofNat k)) (fin := fun a => some (oI a, hf)) (st := stW (okRw P c N i s v)) (b := 2 ^ c 1) (I := fun _ a => lt32 a) M.s32 (fun n a _ => ?_) (fun n k a hk ha => ⟨?_, stW_32 (by omega) ha⟩) none (fun j e => by cases e)).1
  · show bX13_reword_47 _ h 77 _ _ v (oI a) (Int32.ofNat (2 ^ c 1)) = _
    simp only [bX13_reword_47, M.k13, m_allMarks M, hg, bd_some, bd2_some, if_pos (k_rfl _)]
  · have h1 := k_nle hk M.s32
    show bX13_reword_47 (fX13_reword_47 n) h 77 _ _ v (oI a) (Int32.ofNat k) = _
    simp only [bX13_reword_47, M.k13, M.v, M.marks (show i < 5 by omega), m_allMarks M, m_saysBy M hW hs, bd_some, bd2_some, if_neg h1, k_succ, stW, okRw, decide_eq_true_eq]
    by_cases q2 : say P c N s (N i ^^^ Int32.ofNat k) = v
    · have e := m_fewer (h := h) (show k < 32 by omega) ha (fX13_reword_47 n h 77 (Int32.ofNat i) (Int32.ofNat s) v (Int32.ofNat k) (Int32.ofNat (k + 1))) (fX13_reword_47 n h 77 (Int32.ofNat i) (Int32.ofNat s) v (oI a) (Int32.ofNat (k + 1)))
      simp only [m_bits (show k < 32 by omega), bd2_some] at e ⊢
      rw [if_pos q2]
      cases a with
      | none => simp [fewer, q2, oI]
      | some j =>
        have hj := ha j rfl
        simp only [show oI (some j) = Int32.ofNat j from rfl, m_bits hj, bd2_some] at e ⊢
        rw [e]
        by_cases q1 : fewer k (some j) = true
        · simp [q1, q2, oI]
        · simp [q1, oI]
    · simp [q2]
theorem m_yesSaid (M : MM o P c N h) (hW : WP P c) (marks : Int32) : fX13_yesSaid h 77 marks = some ((lp (stC (bSay P c N marks 1)) (c 3) 0 (0)), h) :=
  lp0 (F := fun n k a => fX13_yesSaid_4 n h 77 marks a (Int32.ofNat k)) (fin := fun a => some (a, h)) (st := stC (bSay P c N marks 1)) (b := c 3) (M.b3)
    (fun n a => by
      show bX13_yesSaid_4 _ h 77 marks a (Int32.ofNat (c 3)) = _
      simp only [bX13_yesSaid_4, M.off, M.c3, bd_some, bd2_some, if_pos (k_rfl _)])
    (fun n k a hk => by
      have h1 := k_nle hk (M.b3)
      show bX13_yesSaid_4 _ h 77 marks a (Int32.ofNat k) = _
      simp only [bX13_yesSaid_4, M.off, M.c3, M.k13, m_saysBy M hW hk, Int32.add_zero, bd_some, bd2_some, if_neg h1, k_succ, stC, bSay, decide_eq_true_eq]
      by_cases q : say P c N k marks = 1
      · simp only [if_pos q]
      · simp only [if_neg q]) (0)
/-- yes is said by so many -/
def yS (P : PT) (c : CT) (N : Nat → Int32) (marks : Int32) : Int32 := lp (stC (bSay P c N marks 1)) (c 3) 0 0
def stM (P : PT) (c : CT) (N : Nat → Int32) (i k : Nat) (a : Int32 × Int32) : Int32 × Int32 :=
  if yS P c N (N i ^^^ (1 <<< (Int32.ofNat k &&& 31))) ≤ a.2 then a else (Int32.ofNat k, yS P c N (N i ^^^ (1 <<< (Int32.ofNat k &&& 31))))
theorem c_best (C : CD p P c N h) {i : Nat} (hi : i < c 2) : fX5_markForMostYes h 26 (Int32.ofNat i) = some ((lp (stM P c N i) (c 1) 0 (-2, yS P c N (N i))).1, h) := by
  have hp := C.p5
  have hb : ∀ marks, pc6 (lp (stB (bSay P c N marks 1)) (c 3) 0 0) = yS P c N marks := fun marks => bits_pc C.s4 _
  have e : fX5_markForMostYes h 26 (Int32.ofNat i) = fX5_markForMostYes_23 FU h 26 (Int32.ofNat i) (-2) (yS P c N (N i)) (Int32.ofNat 0) := by
    simp only [fX5_markForMostYes, C.now, C.k4, C.k5, c_marksOf C (show i < 5 by omega), c_stamps C, j_bits, hb, bd_some, bd2_some]; rfl
  rw [e]
  exact lp0 (F := fun n k (a : Int32 × Int32) => fX5_markForMostYes_23 n h 26 (Int32.ofNat i) a.1 a.2 (Int32.ofNat k)) (fin := fun a => some (a.1, h)) (st := stM P c N i) (b := c 1) C.b1
    (fun n a => by
      show bX5_markForMostYes_23 _ h 26 _ a.1 a.2 (Int32.ofNat (c 1)) = _
      simp only [bX5_markForMostYes_23, C.plan, C.c1, bd_some, if_pos (k_rfl _)])
    (fun n k a hk => by
      have h1 := k_nle hk C.b1
      show bX5_markForMostYes_23 _ h 26 _ a.1 a.2 (Int32.ofNat k) = _
      simp only [bX5_markForMostYes_23, C.plan, C.c1, C.now, C.k4, C.k5, c_marksOf C (show i < 5 by omega), c_stamps C, j_bits, hb, bd_some, bd2_some, if_neg h1, k_succ, stM]
      by_cases q : yS P c N (N i ^^^ (1 <<< (Int32.ofNat k &&& 31))) ≤ a.2
      · simp only [if_pos q]
      · simp only [if_neg q]) (-2, yS P c N (N i))
theorem m_bestL (M : MM o P c N h) (hW : WP P c) (hg : ∀ v, fX13_good1 h 77 v = some (v, hf)) {i : Nat} (hi : i < c 2) (y : Int32) : fX13_bestMark_39 FU h 77 (Int32.ofNat i) y (-2) (Int32.ofNat 0) = some ((lp (stM P c N i) (c 1) 0 (-2, y)).1, hf) := by
  have hp := M.p5
  exact lp0 (F := fun n k (a : Int32 × Int32) => fX13_bestMark_39 n h 77 (Int32.ofNat i) a.2 a.1 (Int32.ofNat k)) (fin := fun a => some (a.1, hf)) (st := stM P c N i) (b := c 1) M.b1
    (fun n a => by
      show bX13_bestMark_39 _ h 77 _ a.2 a.1 (Int32.ofNat (c 1)) = _
      simp only [bX13_bestMark_39, M.off, M.c1, M.k13, hg, bd_some, bd2_some, if_pos (k_rfl _)])
    (fun n k a hk => by
      have h1 := k_nle hk M.b1
      show bX13_bestMark_39 _ h 77 _ a.2 a.1 (Int32.ofNat k) = _
      simp only [bX13_bestMark_39, M.off, M.c1, M.v, M.k13, M.marks (show i < 5 by omega), m_yesSaid M hW, bd_some, bd2_some, if_neg h1, k_succ, stM]
      by_cases q : yS P c N (N i ^^^ (1 <<< (Int32.ofNat k &&& 31))) ≤ a.2
      · have q' : ¬ a.2 < yS P c N (N i ^^^ (1 <<< (Int32.ofNat k &&& 31))) := Int32.not_lt.mpr q
        simp only [if_pos q]
        exact if_neg q'
      · have q' : a.2 < yS P c N (N i ^^^ (1 <<< (Int32.ofNat k &&& 31))) := Int32.not_le.mp q
        simp only [if_neg q]
        exact if_pos q') (-2, y)
end WOR
