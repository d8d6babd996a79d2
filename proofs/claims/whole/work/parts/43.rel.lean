/-! ===== THE RELATION between the class's cells and the model's ===== -/
/-- the model's office: o, or none yet -/
def MQ2 (P : PT) (c : CT) (N : Nat → Int32) (h : MH) : Prop := (h.1 0 9 = 1 ∧ ∃ o, MM o P c N h) ∨ (h.1 0 9 = 0 ∧ h.2.2.1 77 3 = none ∧ (∀ t, c t = 0) ∧ N 28 + N 29 + N 30 = 0)
/-- acts and images: f the ring's next row, a acts, m images -/
def RP (c : CT) (f a m : Nat) (h : MH) : Prop := f < 16 ∧ a ≤ 16 ∧ m ≤ 3 ∧ h.1 42 2 = Int32.ofNat f ∧ h.1 42 3 = Int32.ofNat a ∧ h.1 42 4 = Int32.ofNat m ∧ h.1 77 18 = Int32.ofNat a ∧ h.1 77 19 = Int32.ofNat m ∧
  (∀ j, j < a → vRow (fun i => h.1 80 (31 * j + i)) (h.1 (44 + (f + 16 - a + j) % 16)) ∧ WN c (h.1 (44 + (f + 16 - a + j) % 16))) ∧
  ∀ j, j < m → vRow (fun i => h.1 81 (31 * j + i)) (h.1 (61 + j)) ∧ WN c (h.1 (61 + j))
/-- the tape -/
def bR (x : Int32) : Prop := -128 ≤ x.toInt ∧ x.toInt < 128
def RT (w : Nat) (h : MH) : Prop := w ≤ 900 ∧ h.1 1 1 = Int32.ofNat w ∧ h.1 77 6 = Int32.ofNat w ∧ ∀ i, i < 900 → h.1 2 i = h.1 78 i ∧ bR (h.1 2 i)
/-- the words that the reader knows -/
def wT4 : List Int64 := [509813861, 427595, 16826546, 20579760, 611717, 263620, 755156, 17376724, 14836]
def wT5 : List Int64 := [2410643, 24627848, 9675, 176741, 14138521]
def wT6 : List Int64 := [463, 25779, 6333908]
def wT7 : List Int64 := [674915196180, 370116, 20584014, 3751539]
def RW (J : Nat → Nat → Int64) : Prop := (∀ i x, wT4[i]? = some x → J 4 i = x) ∧ (∀ i x, wT5[i]? = some x → J 5 i = x) ∧ (∀ i x, wT6[i]? = some x → J 6 i = x) ∧ ∀ i x, wT7[i]? = some x → J 7 i = x
def RR (p : Nat) (P : PT) (c : CT) (N : Nat → Int32) (f a m w : Nat) (h : MH) : Prop := CD p P c N h ∧ WP P c ∧ WN c N ∧ MQ2 P c N h ∧ (h.1 0 9 = 0 → a = 0 ∧ m = 0) ∧ RP c f a m h ∧ RT w h ∧
  h.1 77 1 = h.1 0 10 ∧ h.1 77 2 = (if h.1 0 10 = 4 then h.1 0 12 else -1) ∧ h.1 77 12 = h.1 0 11 ∧ (h.1 0 9 = 1 → 1 ≤ c 2) ∧ RW h.2.1
/-- a question leaves the class's cells but for the trouble and its working rows, the model's likewise -/
def cOb (t : Int32) (h h' : MH) : Prop := h'.2 = h.2 ∧ (∀ b k, (b < 64 ∨ 77 ≤ b) → ¬ (b = 0 ∧ k = 10) → h'.1 b k = h.1 b k) ∧ h'.1 0 10 = t
def mOb (t : Int32) (h h' : MH) : Prop := h'.2 = h.2 ∧ (∀ b k, (b < 82 ∨ 89 ≤ b) → ¬ (b = 77 ∧ (k ≤ 2 ∨ k = 25 ∨ k = 26 ∨ k = 27)) → h'.1 b k = h.1 b k) ∧ h'.1 77 1 = t ∧ h'.1 77 2 = -1
section RRS
variable {p : Nat} {P : PT} {c : CT} {N : Nat → Int32} {f a m w : Nat} {h h1 h2 : MH} {t : Int32}
theorem CD.same (C : CD p P c N h) (e2 : h1.2.2 = h.2.2) (e : ∀ b k, 0 < b → b < 64 → h1.1 b k = h.1 b k) : CD p P c N h1 := by
  obtain ⟨c1, c2, c3, c4, c5⟩ := C
  have hp := c1.1
  refine ⟨by rw [e2]; exact c1, c2, fun t ht => ?_, fun t i ht hi => ?_, fun i hi => ?_⟩
  · rw [e p _ (by omega) (by omega)]; exact c3 t ht
  · rw [e (p + 1 + t) _ (by omega) (by omega)]; exact c4 t i ht hi
  · rw [e 28 _ (by omega) (by omega)]; exact c5 i hi
theorem MM.same {o : Nat} (C : MM o P c N h) (e2 : h1.2.2 = h.2.2) (e : ∀ b k, (b = 79 ∨ 90 ≤ b) → h1.1 b k = h.1 b k) : MM o P c N h1 := by
  obtain ⟨c1, c2, c3, c4, c5, c6, c7⟩ := C
  have ho := c2.1
  have e79 : h1.1 79 = h.1 79 := funext fun k => e 79 k (Or.inl rfl)
  refine ⟨by rw [e2]; exact c1, by rw [e2]; exact c2, by rw [e2]; exact c3, c4, fun t ht => ?_, fun t i ht hi => ?_, by rw [e79]; exact c7⟩
  · rw [e o _ (by omega)]; exact c5 t ht
  · rw [e _ _ (Or.inr (by omega))]; exact c6 t i ht hi
/-- a question was answered, or refused with t -/
theorem RR.obs (R : RR p P c N f a m w h) (hc : cOb t h h1) (hm : mOb t h1 h2) (ht : t ≠ 4) : RR p P c N f a m w h2 := by
  obtain ⟨r1, r2, r3, r4, r5, r6, r7, r8, r9, r10, r11, r12⟩ := R
  obtain ⟨a1, a2, a3⟩ := hc
  obtain ⟨b1, b2, b3, b4⟩ := hm
  have e22 : h2.2.2 = h.2.2 := by rw [b1, a1]
  have e : ∀ b k, (b < 64 ∨ (77 ≤ b ∧ b < 82) ∨ 89 ≤ b) → ¬ (b = 0 ∧ k = 10) → ¬ (b = 77 ∧ (k ≤ 2 ∨ k = 25 ∨ k = 26 ∨ k = 27)) → h2.1 b k = h.1 b k := fun b k q1 q2 q3 => by
    rw [b2 b k (by omega) q3, a2 b k (by omega) q2]
  have e0 : ∀ b, 0 < b → (b < 64 ∨ (77 < b ∧ b < 82) ∨ 89 ≤ b) → h2.1 b = h.1 b := fun b q0 q1 => funext fun k => e b k (by omega) (by omega) (by omega)
  have t0 : h2.1 0 10 = t := by rw [b2 0 10 (by omega) (by omega)]; exact a3
  have t9 : h2.1 0 9 = h.1 0 9 := e 0 9 (by omega) (by omega) (by omega)
  refine ⟨r1.same e22 (fun b k q1 q2 => by rw [e0 b q1 (by omega)]), r2, r3, ?_, ?_, ?_, ?_, ?_, ?_, ?_, by rw [t9]; exact r11, by rw [b1, a1]; exact r12⟩
  · rcases r4 with ⟨q1, o, q2⟩ | ⟨q1, q2, q3, q4⟩
    · exact Or.inl ⟨t9.trans q1, o, q2.same e22 (fun b k q => by rw [e0 b (by omega) (by omega)])⟩
    · exact Or.inr ⟨t9.trans q1, by rw [e22]; exact q2, q3, q4⟩
  · rw [t9]; exact r5
  · obtain ⟨p1, p2, p3, p4, p5, p6, p7, p8, p9, p10⟩ := r6
    refine ⟨p1, p2, p3, by rw [e0 42 (by omega) (by omega)]; exact p4, by rw [e0 42 (by omega) (by omega)]; exact p5, by rw [e0 42 (by omega) (by omega)]; exact p6,
      by rw [e 77 18 (by omega) (by omega) (by omega)]; exact p7, by rw [e 77 19 (by omega) (by omega) (by omega)]; exact p8, fun j hj => ?_, fun j hj => ?_⟩
    · rw [e0 80 (by omega) (by omega), e0 (44 + (f + 16 - a + j) % 16) (by omega) (by omega)]; exact p9 j hj
    · rw [e0 81 (by omega) (by omega), e0 (61 + j) (by omega) (by omega)]; exact p10 j hj
  · obtain ⟨p1, p2, p3, p4⟩ := r7
    refine ⟨p1, by rw [e0 1 (by omega) (by omega)]; exact p2, by rw [e 77 6 (by omega) (by omega) (by omega)]; exact p3, fun i hi => ?_⟩
    rw [e0 2 (by omega) (by omega), e0 78 (by omega) (by omega)]; exact p4 i hi
  · rw [t0, b3]
  · rw [t0, if_neg ht, b4]
  · rw [e 77 12 (by omega) (by omega) (by omega), e 0 11 (by omega) (by omega) (by omega)]; exact r10
end RRS
