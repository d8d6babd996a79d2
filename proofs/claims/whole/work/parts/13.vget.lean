/-! ===== the heap's primitives ===== -/
def isK (h : MH) (a ci : Nat) : Bool := match h.2.2.2[a]? with
  | some q => q.1 == ci
  | none => false
def inA (h : MH) (a kd : Nat) (i : Int32) : Bool := match h.2.2.2[a]? with
  | some q => q.1 == kd && (decide (¬ i < 0) && decide (i.toNatClampNeg < q.2))
  | none => false
def up2 {α : Type} (f : Nat → Nat → α) (a k : Nat) (x : α) : Nat → Nat → α := fun b j => if b = a ∧ j = k then x else f b j
def sI (h : MH) (a k : Nat) (x : Int32) : MH := (up2 h.1 a k x, h.2)
def sJ (h : MH) (a k : Nat) (x : Int64) : MH := (h.1, up2 h.2.1 a k x, h.2.2)
def sR (h : MH) (a k : Nat) (x : Option Nat) : MH := (h.1, h.2.1, up2 h.2.2.1 a k x, h.2.2.2)
/-- fields: int, long, a reference that isn't null, is it null -/
def gI (h : MH) (a ci k : Nat) : Option Int32 := if isK h a ci = true then some (h.1 a k) else none
def gJ (h : MH) (a ci k : Nat) : Option Int64 := if isK h a ci = true then some (h.2.1 a k) else none
def gR (h : MH) (a ci k : Nat) : Option Nat := if isK h a ci = true then h.2.2.1 a k else none
def gZ (h : MH) (a ci k : Nat) : Option Bool := if isK h a ci = true then some (h.2.2.1 a k).isNone else none
def pI (h : MH) (a ci k : Nat) (x : Int32) : Option MH := if isK h a ci = true then some (sI h a k x) else none
def pB (h : MH) (a ci k : Nat) (x : Int32) : Option MH := if isK h a ci = true ∧ (x = 0 ∨ x = 1) then some (sI h a k x) else none
def pJ (h : MH) (a ci k : Nat) (x : Int64) : Option MH := if isK h a ci = true then some (sJ h a k x) else none
def pR (h : MH) (a ci k : Nat) (x : Nat) : Option MH := if isK h a ci = true then some (sR h a k (some x)) else none
/-- arrays -/
def lI (h : MH) (a : Nat) (i : Int32) : Option Int32 := if inA h a 15 i = true then some (h.1 a i.toNatClampNeg) else none
def lB (h : MH) (a : Nat) (i : Int32) : Option Int32 := if inA h a 14 i = true then some (h.1 a i.toNatClampNeg) else none
def lJ (h : MH) (a : Nat) (i : Int32) : Option Int64 := if inA h a 16 i = true then some (h.2.1 a i.toNatClampNeg) else none
def lR (h : MH) (a : Nat) (i : Int32) : Option Nat := if inA h a 17 i = true then h.2.2.1 a i.toNatClampNeg else none
def tI (h : MH) (a : Nat) (i x : Int32) : Option MH := if inA h a 15 i = true then some (sI h a i.toNatClampNeg x) else none
def tB (h : MH) (a : Nat) (i x : Int32) : Option MH := if inA h a 14 i = true then some (sI h a i.toNatClampNeg (vp_nar .byte x)) else none
def tJ (h : MH) (a : Nat) (i : Int32) (x : Int64) : Option MH := if inA h a 16 i = true then some (sJ h a i.toNatClampNeg x) else none
def nA (h : MH) (a : Nat) : Option Int32 := match h.2.2.2[a]? with
  | some q => if 14 ≤ q.1 ∧ q.1 ≤ 17 then some (Int32.ofNat q.2) else none
  | none => none
theorem some_if {α : Type} {c : Prop} [Decidable c] {x y : α} (h : (if c then some x else none) = some y) : c ∧ x = y := by
  by_cases hc : c
  · rw [if_pos hc] at h; exact ⟨hc, Option.some.inj h⟩
  · rw [if_neg hc] at h; cases h
theorem some_if' {α : Type} {c : Prop} [Decidable c] {x : Option α} {y : α} (h : (if c then x else none) = some y) : c ∧ x = some y := by
  by_cases hc : c
  · rw [if_pos hc] at h; exact ⟨hc, h⟩
  · rw [if_neg hc] at h; cases h
theorem isK_at {h : MH} {a ci : Nat} (hk : isK h a ci = true) : ∃ n, h.2.2.2[a]? = some (ci, n) ∧ a < h.2.2.2.length := by
  unfold isK at hk
  cases hq : h.2.2.2[a]? with
  | none => simp [hq] at hk
  | some q =>
    simp only [hq, beq_iff_eq] at hk
    obtain ⟨q1, q2⟩ := q
    cases hk
    exact ⟨q2, rfl, (List.getElem?_eq_some_iff.mp hq).1⟩
theorem inA_at {h : MH} {a kd : Nat} {i : Int32} (hk : inA h a kd i = true) : ∃ n, h.2.2.2[a]? = some (kd, n) ∧ a < h.2.2.2.length ∧ vp_in i n ∧ i.toNatClampNeg < n := by
  unfold inA at hk
  cases hq : h.2.2.2[a]? with
  | none => simp [hq] at hk
  | some q =>
    simp only [hq, Bool.and_eq_true, beq_iff_eq, decide_eq_true_eq] at hk
    obtain ⟨q1, q2⟩ := q
    obtain ⟨e1, e2, e3⟩ := hk
    cases e1
    refine ⟨q2, rfl, (List.getElem?_eq_some_iff.mp hq).1, ?_, e3⟩
    rintro (h1 | h1)
    · exact e2 h1
    · exact absurd h1 (Nat.not_le.mpr e3)
theorem mEn_obj {g : GE} {h : MH} {a ci n : Nat} (hs : h.2.2.2[a]? = some (ci, n)) (hci : ci < 14) : mEn g h a = .inr (ci, mFs g.1 h a ci) := by
  unfold mEn; rw [hs]; simp [hci]
theorem mEn_b {g : GE} {h : MH} {a n : Nat} (hs : h.2.2.2[a]? = some (14, n)) : mEn g h a = .inl (g.2.2.1.1, n, .inl (h.1 a)) := by
  unfold mEn; rw [hs]; simp
theorem mEn_i {g : GE} {h : MH} {a n : Nat} (hs : h.2.2.2[a]? = some (15, n)) : mEn g h a = .inl (g.2.2.1.2.1, n, .inl (h.1 a)) := by
  unfold mEn; rw [hs]; simp
theorem mEn_j {g : GE} {h : MH} {a n : Nat} (hs : h.2.2.2[a]? = some (16, n)) : mEn g h a = .inl (g.2.2.1.2.2.1, n, .inr (.inl (h.2.1 a))) := by
  unfold mEn; rw [hs]; simp
theorem mEn_r {g : GE} {h : MH} {a n : Nat} (hs : h.2.2.2[a]? = some (17, n)) : mEn g h a = .inl (g.2.2.1.2.2.2, n, .inr (.inr (.inr (.inr (fun i => gRf g.1 (h.2.2.1 a i)))))) := by
  unfold mEn; rw [hs]; simp
theorem mFs_get {a0 : Nat} {h : MH} {a ci k : Nat} (hk : k < mN ci) : (mFs a0 h a ci)[k]? = some (mFv a0 h a ci k) := by
  unfold mFs; rw [List.getElem?_map, List.getElem?_range hk]; rfl
theorem mFs_len {a0 : Nat} {h : MH} {a ci : Nat} : (mFs a0 h a ci).length = mN ci := by simp [mFs]
/-- the kinds' fields are among the words -/
theorem vw_N {ci : Nat} {C : String} {T : u_T} {N : Nat} (h : vwCl[ci]? = some (C, T, N)) : mN ci = N ∧ ci < 14 := by
  rcases ci with _|_|_|_|_|_|_|_|_|_|_|_|_|_|n
  all_goals first | (cases h; exact ⟨rfl, by decide⟩) | (simp [vwCl] at h)
theorem vw_ty {ci : Nat} {C : String} {T : u_T} {N : Nat} (h : vwCl[ci]? = some (C, T, N)) : ∀ k, k < N → parseFieldDescriptor (T k).2.2.1 = some (mTy ci k) := by
  rcases ci with _|_|_|_|_|_|_|_|_|_|_|_|_|_|n
  all_goals first | (cases h; intro k hk; first | exact tyX0_ok k hk | exact tyX1_ok k hk | exact tyX2_ok k hk | exact tyX3_ok k hk | exact tyX4_ok k hk | exact tyX5_ok k hk | exact tyX6_ok k hk | exact tyX7_ok k hk | exact tyX8_ok k hk | exact tyX9_ok k hk | exact tyX10_ok k hk | exact tyX11_ok k hk | exact tyX12_ok k hk | exact tyX13_ok k hk) | (simp [vwCl] at h)
theorem vw_nm {ci : Nat} {C : String} {T : u_T} {N : Nat} (h : vwCl[ci]? = some (C, T, N)) : ∀ a, a < N → ∀ b, b < N → a ≠ b → (T a).2.1 ≠ (T b).2.1 := by
  rcases ci with _|_|_|_|_|_|_|_|_|_|_|_|_|_|n
  all_goals first | (cases h; first | exact nmX0 | exact nmX1 | exact nmX2 | exact nmX3 | exact nmX4 | exact nmX5 | exact nmX6 | exact nmX7 | exact nmX8 | exact nmX9 | exact nmX10 | exact nmX11 | exact nmX12 | exact nmX13) | (simp [vwCl] at h)
theorem in_of_all (ws : List Cond) (h : ws.all (fun w => decide (w ∈ tables_1) && goodWord w) = true) : ∀ w ∈ ws, w ∈ TB := fun w hw => by
  have h1 := List.all_eq_true.mp h w hw
  simp only [Bool.and_eq_true, decide_eq_true_eq] at h1
  exact TB_in (List.mem_append_right _ h1.1) h1.2
theorem inT0 : ∀ w ∈ u_ws RX0 TX0 1, w ∈ TB := in_of_all _ (by decide +kernel)
theorem inT1 : ∀ w ∈ u_ws RX1 TX1 5, w ∈ TB := in_of_all _ (by decide +kernel)
theorem inT2 : ∀ w ∈ u_ws RX2 TX2 1, w ∈ TB := in_of_all _ (by decide +kernel)
theorem inT3 : ∀ w ∈ u_ws RX3 TX3 9, w ∈ TB := in_of_all _ (by decide +kernel)
theorem inT4 : ∀ w ∈ u_ws RX4 TX4 1, w ∈ TB := in_of_all _ (by decide +kernel)
theorem inT5 : ∀ w ∈ u_ws RX5 TX5 2, w ∈ TB := in_of_all _ (by decide +kernel)
theorem inT6 : ∀ w ∈ u_ws RX6 TX6 5, w ∈ TB := in_of_all _ (by decide +kernel)
theorem inT7 : ∀ w ∈ u_ws RX7 TX7 20, w ∈ TB := in_of_all _ (by decide +kernel)
theorem inT8 : ∀ w ∈ u_ws RX8 TX8 14, w ∈ TB := in_of_all _ (by decide +kernel)
theorem inT9 : ∀ w ∈ u_ws RX9 TX9 1, w ∈ TB := in_of_all _ (by decide +kernel)
theorem inT10 : ∀ w ∈ u_ws RX10 TX10 7, w ∈ TB := in_of_all _ (by decide +kernel)
theorem inT11 : ∀ w ∈ u_ws RX11 TX11 13, w ∈ TB := in_of_all _ (by decide +kernel)
theorem inT12 : ∀ w ∈ u_ws RX12 TX12 27, w ∈ TB := in_of_all _ (by decide +kernel)
theorem inT13 : ∀ w ∈ u_ws RX13 TX13 30, w ∈ TB := in_of_all _ (by decide +kernel)
theorem vw_in {ci : Nat} {C : String} {T : u_T} {N : Nat} (h : vwCl[ci]? = some (C, T, N)) : ∀ w ∈ u_ws C T N, w ∈ TB := by
  rcases ci with _|_|_|_|_|_|_|_|_|_|_|_|_|_|n
  all_goals first | (cases h; first | exact inT0 | exact inT1 | exact inT2 | exact inT3 | exact inT4 | exact inT5 | exact inT6 | exact inT7 | exact inT8 | exact inT9 | exact inT10 | exact inT11 | exact inT12 | exact inT13) | (simp [vwCl] at h)
