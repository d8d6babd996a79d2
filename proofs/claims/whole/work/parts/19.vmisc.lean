/-! ===== V: switches; the functions' own binds; loops ===== -/
theorem i32_of_toInt {x : Int32} {k : Nat} (hk : k < 2147483648) (h : x.toInt = (k : Int)) : x = Int32.ofNat k := by
  apply Int32.toInt_inj.mp
  rw [h, Int32.toInt_ofNat_of_lt hk]
theorem tsw_out {x : Int32} {lo n : Nat} (h : ∀ k, lo ≤ k → k ≤ n → x ≠ Int32.ofNat k) (hn : n < 2147483648) : x.toInt < (lo : Int) ∨ (n : Int) < x.toInt := by
  by_cases h1 : x.toInt < (lo : Int)
  · exact Or.inl h1
  · by_cases h2 : (n : Int) < x.toInt
    · exact Or.inr h2
    · exfalso
      have e : x.toInt = ((x.toInt.toNat : Nat) : Int) := by omega
      exact h x.toInt.toNat (by omega) (by omega) (i32_of_toInt (by omega) e)
section VSW
variable {P : GE → Launch → Prop} {M : MD} {d : Nat} {r : Option Value} {h' h : MH} {pc q : Nat} {L st : List Value}
theorem V.lookup {dflt : Int} {ps : Array (Int × Int)} {len : Nat} {x : Int32} {off : Int} (hd : decode M.2.1 pc = .ok (.lookupswitch dflt ps, len)) (hp : (ps.toList.zip (ps.toList.drop 1)).all (fun (a, next) => a.1 < next.1) = true) (ho : Op.lookupswitch.offset ps.toList dflt x.toInt = off) (ht : (pc : Int) + off = (q : Int)) (k : V P M d r h' h q L st) : V P M d r h' h pc L (.int x :: st) :=
  V.step (fun g p l e R s m args below meth c Q H locs cells slots ls _ C hL hR w => lv_lookup C.1 C.2.1 hd hp ho ht w) k
end VSW
/-- a bind, and one of a pair -/
def bd {α β : Type} (o : Option α) (f : α → Option β) : Option β := match o with
  | none => none
  | some a => f a
def bd2 {α β γ : Type} (o : Option (α × β)) (f : α → β → Option γ) : Option γ := match o with
  | none => none
  | some p => f p.1 p.2
theorem bd_ex {α β : Type} {o : Option α} {f : α → Option β} {c : β} (h : bd o f = some c) : ∃ a, o = some a ∧ f a = some c := by
  cases o with
  | none => cases h
  | some a => exact ⟨a, rfl, h⟩
theorem bd2_ex {α β γ : Type} {o : Option (α × β)} {f : α → β → Option γ} {c : γ} (h : bd2 o f = some c) : ∃ a b, o = some (a, b) ∧ f a b = some c := by
  cases o with
  | none => cases h
  | some p => exact ⟨p.1, p.2, rfl, h⟩
theorem bd_some {α β : Type} (a : α) (f : α → Option β) : bd (some a) f = f a := rfl
theorem bd2_some {α β γ : Type} (a : α) (b : β) (f : α → β → Option γ) : bd2 (some (a, b)) f = f a b := rfl
theorem ret_inj {α β : Type} {a c : α} {b e : β} (h : some (a, b) = some (c, e)) : a = c ∧ b = e := by cases h; exact ⟨rfl, rfl⟩
def ck (h : MH) (a ci : Nat) : Option Unit := if isK h a ci = true then some () else none
theorem ck_is {h : MH} {a ci : Nat} {u : Unit} (h1 : ck h a ci = some u) : isK h a ci = true := (some_if h1).1
/-- a divisor that isn't 0 -/
def nz (x : Int32) : Option Unit := if x = 0 then none else some ()
def nzJ (x : Int64) : Option Unit := if x = 0 then none else some ()
theorem nz_is {x : Int32} {u : Unit} (h : nz x = some u) : ¬ x = 0 := fun e => by rw [nz, if_pos e] at h; cases h
theorem nzJ_is {x : Int64} {u : Unit} (h : nzJ x = some u) : ¬ x = 0 := fun e => by rw [nzJ, if_pos e] at h; cases h
def rB (x : Int32) (h : MH) : Option (Int32 × MH) := if x = 0 ∨ x = 1 then some (x, h) else none
theorem rB_inj {x r : Int32} {h h' : MH} (e : rB x h = some (r, h')) : (x = 0 ∨ x = 1) ∧ x = r ∧ h = h' := by
  obtain ⟨h1, h2⟩ := some_if e
  cases h2
  exact ⟨h1, rfl, rfl⟩
/-- as many turns as any loop here may take -/
def FU : Nat := 1000000000
/-- words by their place -/
theorem mTb {w : Cond} (i : Nat) (h : lw_tbl[i]? = some w) (hg : goodWord w = true) : w ∈ TB := TB_in (List.mem_of_getElem? h) hg
theorem mT1 {w : Cond} (i : Nat) (hi : tables_1_1[i]? = some w) (hg : goodWord w = true) : w ∈ TB := by
  have h : w ∈ tables_1_1 := List.mem_of_getElem? hi
  exact TB_in (List.mem_append_right _ (show w ∈ tables_1 from List.mem_append_left _ h)) hg
theorem mT2 {w : Cond} (i : Nat) (hi : tables_1_2[i]? = some w) (hg : goodWord w = true) : w ∈ TB := by
  have h : w ∈ tables_1_2 := List.mem_of_getElem? hi
  exact TB_in (List.mem_append_right _ (show w ∈ tables_1 from List.mem_append_right _ (List.mem_append_left _ h))) hg
theorem mT3 {w : Cond} (i : Nat) (hi : tables_1_3[i]? = some w) (hg : goodWord w = true) : w ∈ TB := by
  have h : w ∈ tables_1_3 := List.mem_of_getElem? hi
  exact TB_in (List.mem_append_right _ (show w ∈ tables_1 from List.mem_append_right _ (List.mem_append_right _ (List.mem_append_left _ h)))) hg
theorem mT4 {w : Cond} (i : Nat) (hi : tables_1_4[i]? = some w) (hg : goodWord w = true) : w ∈ TB := by
  have h : w ∈ tables_1_4 := List.mem_of_getElem? hi
  exact TB_in (List.mem_append_right _ (show w ∈ tables_1 from List.mem_append_right _ (List.mem_append_right _ (List.mem_append_right _ (List.mem_append_left _ h))))) hg
theorem mT5 {w : Cond} (i : Nat) (hi : tables_1_5[i]? = some w) (hg : goodWord w = true) : w ∈ TB := by
  have h : w ∈ tables_1_5 := List.mem_of_getElem? hi
  exact TB_in (List.mem_append_right _ (show w ∈ tables_1 from List.mem_append_right _ (List.mem_append_right _ (List.mem_append_right _ (List.mem_append_right _ (List.mem_append_left _ h)))))) hg
theorem mT6 {w : Cond} (i : Nat) (hi : tables_1_6[i]? = some w) (hg : goodWord w = true) : w ∈ TB := by
  have h : w ∈ tables_1_6 := List.mem_of_getElem? hi
  exact TB_in (List.mem_append_right _ (show w ∈ tables_1 from List.mem_append_right _ (List.mem_append_right _ (List.mem_append_right _ (List.mem_append_right _ (List.mem_append_right _ (List.mem_append_left _ h))))))) hg
theorem mT7 {w : Cond} (i : Nat) (hi : tables_1_7[i]? = some w) (hg : goodWord w = true) : w ∈ TB := by
  have h : w ∈ tables_1_7 := List.mem_of_getElem? hi
  exact TB_in (List.mem_append_right _ (show w ∈ tables_1 from List.mem_append_right _ (List.mem_append_right _ (List.mem_append_right _ (List.mem_append_right _ (List.mem_append_right _ (List.mem_append_right _ (List.mem_append_left _ h)))))))) hg
theorem mT8 {w : Cond} (i : Nat) (hi : tables_1_8[i]? = some w) (hg : goodWord w = true) : w ∈ TB := by
  have h : w ∈ tables_1_8 := List.mem_of_getElem? hi
  exact TB_in (List.mem_append_right _ (show w ∈ tables_1 from List.mem_append_right _ (List.mem_append_right _ (List.mem_append_right _ (List.mem_append_right _ (List.mem_append_right _ (List.mem_append_right _ (List.mem_append_right _ (List.mem_append_left _ h))))))))) hg
theorem mT9 {w : Cond} (i : Nat) (hi : tables_1_9[i]? = some w) (hg : goodWord w = true) : w ∈ TB := by
  have h : w ∈ tables_1_9 := List.mem_of_getElem? hi
  exact TB_in (List.mem_append_right _ (show w ∈ tables_1 from List.mem_append_right _ (List.mem_append_right _ (List.mem_append_right _ (List.mem_append_right _ (List.mem_append_right _ (List.mem_append_right _ (List.mem_append_right _ (List.mem_append_right _ (h)))))))))) hg
theorem mNw {w : Cond} (i : Nat) (h : nestW[i]? = some w) : w ∈ nestW := List.mem_of_getElem? h
