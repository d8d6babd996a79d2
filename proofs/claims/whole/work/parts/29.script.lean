/-! ===== the law's script ===== -/
abbrev mL_law : MD := (yL_law, cL_law, 7, some .boolean)
def PL (Ls : Nat) (xs : Nat → Int32) : GE → Launch → Prop := fun g l => g.2.2.2.2.2.1 = Ls ∧ g.2.2.2.2.2.2 = xs ∧ l.stackTraces = false
theorem PL_st {Ls : Nat} {xs : Nat → Int32} : ∀ (g : GE) (l : Launch), PL Ls xs g l → l.stackTraces = false := fun _ _ h => h.2.2
theorem PL_sc {Ls : Nat} {xs : Nat → Int32} : ∀ (g : GE) (l : Launch), PL Ls xs g l → g.2.2.2.2.2.1 = Ls ∧ g.2.2.2.2.2.2 = xs := fun _ _ h => ⟨h.1, h.2.1⟩
theorem tk_1000 : ∀ (g : GE) (s : State), JD g s → ∃ b, g.2.2.2.1 1000 = some b := fun g s hj => by
  obtain ⟨b, h, -⟩ := hj.2.2.1
  exact ⟨b, h⟩
def sld (Ls : Nat) (xs : Nat → Int32) (i : Int32) : Option Int32 := if ¬ (i < 0) ∧ i.toNatClampNeg < Ls then some (xs i.toNatClampNeg) else none
section VSC
variable {P : GE → Launch → Prop} {M : MD} {d : Nat} {r : Option Value} {h' h : MH} {pc q : Nat} {L st : List Value} {Ls : Nat} {xs : Nat → Int32}
theorem V.sld {i x : Int32} (hsc : ∀ (g : GE) (l : Launch), P g l → g.2.2.2.2.2.1 = Ls ∧ g.2.2.2.2.2.2 = xs) (hg : sld Ls xs i = some x) (hd : decode M.2.1 pc = .ok (.iaload, 1)) (hq : pc + 1 = q) (kk : V P M d r h' h q L (.int x :: st)) : V P M d r h' h pc L (.int i :: .retAddr 1000 :: st) := by
  subst hq
  obtain ⟨⟨hi, hlt⟩, hx⟩ := some_if hg
  refine V.step (fun g p l e R s m args below meth c Q H locs cells slots ls hPg C hL hR w => ?_) kk
  obtain ⟨b, hb, hbl, scr, h1, h2, h3, h4, h5⟩ := C.jd.2.2.1
  obtain ⟨e1, e2⟩ := hsc g l hPg
  rw [List.map_cons, List.map_cons, enc_tok hb]
  have w2 := w
  rw [List.map_cons, hx.symm] at w2
  rw [e1] at h4 h5
  rw [e2] at h5
  refine W.iald (v := .int (xs i.toNatClampNeg)) C.1 C.2.1 (by rw [hR.2.2 b hbl]; exact h1) h2 h3 (by rw [h4]; exact fun q => q.elim hi (fun q => Nat.not_lt.mpr q hlt)) (h5 _ hlt) rfl rfl hd ?_
  exact w2
theorem V.sln (hsc : ∀ (g : GE) (l : Launch), P g l → g.2.2.2.2.2.1 = Ls ∧ g.2.2.2.2.2.2 = xs) (hd : decode M.2.1 pc = .ok (.arraylength, 1)) (hq : pc + 1 = q) (kk : V P M d r h' h q L (.int (Int32.ofNat Ls) :: st)) : V P M d r h' h pc L (.retAddr 1000 :: st) := by
  subst hq
  refine V.step (fun g p l e R s m args below meth c Q H locs cells slots ls hPg C hL hR w => ?_) kk
  obtain ⟨b, hb, hbl, scr, h1, h2, h3, h4, h5⟩ := C.jd.2.2.1
  obtain ⟨e1, e2⟩ := hsc g l hPg
  rw [List.map_cons, enc_tok hb]
  rw [e1] at h4
  exact W.alen (n := Int32.ofNat Ls) C.1 C.2.1 (by rw [hR.2.2 b hbl]; exact h1) h2 (by rw [h4] <;> rfl) rfl rfl hd w
end VSC
