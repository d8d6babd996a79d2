/-! ===== V: arrays, new cells ===== -/
section VAR
variable {P : GE → Launch → Prop} {M : MD} {d : Nat} {r : Option Value} {h' h h2 : MH} {pc q : Nat} {L st : List Value} {a : Nat} {i : Int32}
theorem V.iald {x : Int32} (hg : lI h a i = some x) (hd : decode M.2.1 pc = .ok (.iaload, 1)) (hq : pc + 1 = q) (kk : V P M d r h' h q L (.int x :: st)) : V P M d r h' h pc L (.int i :: .ref a :: st) := by
  subst hq
  obtain ⟨hk, hx⟩ := some_if hg
  obtain ⟨n, hs, hlt, hin, -⟩ := inA_at hk
  refine V.step (fun g p l e R s m args below meth c Q H locs cells slots ls _ C hL hR w => va_iald C.1 C.2.1 C.K (hR.one hs (by decide) (mEn_i hs)) 0 1 rfl rfl hin hd ?_) kk
  rw [hx]
  exact w
theorem V.bald {x : Int32} (hg : lB h a i = some x) (hd : decode M.2.1 pc = .ok (.baload, 1)) (hq : pc + 1 = q) (kk : V P M d r h' h q L (.int x :: st)) : V P M d r h' h pc L (.int i :: .ref a :: st) := by
  subst hq
  obtain ⟨hk, hx⟩ := some_if hg
  obtain ⟨n, hs, hlt, hin, -⟩ := inA_at hk
  refine V.step (fun g p l e R s m args below meth c Q H locs cells slots ls _ C hL hR w => va_bald C.1 C.2.1 C.K (hR.one hs (by decide) (mEn_b hs)) 0 0 rfl rfl hin hd ?_) kk
  rw [hx]
  exact w
theorem V.lald {x : Int64} (hg : lJ h a i = some x) (hd : decode M.2.1 pc = .ok (.laload, 1)) (hq : pc + 1 = q) (kk : V P M d r h' h q L (.long x :: st)) : V P M d r h' h pc L (.int i :: .ref a :: st) := by
  subst hq
  obtain ⟨hk, hx⟩ := some_if hg
  obtain ⟨n, hs, hlt, hin, -⟩ := inA_at hk
  refine V.step (fun g p l e R s m args below meth c Q H locs cells slots ls _ C hL hR w => va_lald C.1 C.2.1 C.K (hR.one hs (by decide) (mEn_j hs)) 0 2 rfl rfl hin hd ?_) kk
  rw [hx]
  exact w
theorem V.aald {x : Nat} (hg : lR h a i = some x) (hd : decode M.2.1 pc = .ok (.aaload, 1)) (hq : pc + 1 = q) (kk : V P M d r h' h q L (.ref x :: st)) : V P M d r h' h pc L (.int i :: .ref a :: st) := by
  subst hq
  obtain ⟨hk, hx⟩ := some_if' hg
  obtain ⟨n, hs, hlt, hin, hin2⟩ := inA_at hk
  refine V.step (fun g p l e R s m args below meth c Q H locs cells slots ls _ C hL hR w => ?_) kk
  have hP := hR.one hs (by decide) (mEn_r hs) 0 _ rfl
  have hP2 : H[g.1 + a]? = some (arrV g.2.2.1.2.2.2 n (fun j => va_rf (gRf g.1 (h.2.2.1 a j)))) := hP
  have hv : (arrV g.2.2.1.2.2.2 n (fun j => va_rf (gRf g.1 (h.2.2.1 a j)))).slots[i.toNatClampNeg]? = some (.ref (g.1 + x)) := by
    show (Array.ofFn (n := n) fun j => va_rf (gRf g.1 (h.2.2.1 a j.val)))[i.toNatClampNeg]? = _
    rw [Array.getElem?_ofFn]
    simp only [hin2, dif_pos, hx]
    rfl
  exact W.aald C.1 C.2.1 hP2 ((C.K.2 3 _ rfl).1 n _) rfl (fun q => by cases q) (by rw [arrV_size]; exact hin) hv rfl rfl hd w
theorem V.alen {x : Int32} (hg : nA h a = some x) (hd : decode M.2.1 pc = .ok (.arraylength, 1)) (hq : pc + 1 = q) (kk : V P M d r h' h q L (.int x :: st)) : V P M d r h' h pc L (.ref a :: st) := by
  subst hq
  unfold nA at hg
  cases hs : h.2.2.2[a]? with
  | none => rw [hs] at hg; cases hg
  | some z =>
    obtain ⟨kd, n⟩ := z
    rw [hs] at hg
    obtain ⟨⟨h1, h2⟩, hx⟩ := some_if hg
    refine V.step (fun g p l e R s m args below meth c Q H locs cells slots ls _ C hL hR w => ?_) kk
    have hkd : kd = 14 ∨ kd = 15 ∨ kd = 16 ∨ kd = 17 := by simp only at h1 h2; omega
    rcases hkd with rfl | rfl | rfl | rfl
    · exact va_alen C.1 C.2.1 C.K (hR.one hs (by decide) (mEn_b hs)) 0 0 rfl rfl hx hd w
    · exact va_alen C.1 C.2.1 C.K (hR.one hs (by decide) (mEn_i hs)) 0 1 rfl rfl hx hd w
    · exact va_alen C.1 C.2.1 C.K (hR.one hs (by decide) (mEn_j hs)) 0 2 rfl rfl hx hd w
    · exact va_alen C.1 C.2.1 C.K (hR.one hs (by decide) (mEn_r hs)) 0 3 rfl rfl hx hd w
/-- a write into one cell, at the machine -/
theorem V.stepH {st' : List Value} (hs : h2.2.2.2 = h.2.2.2)
    (hw : ∀ (g : GE) (p : Program) (l : Launch) (e : Env) (R : Room) (s : State) (m : MethodId) (args : Array Value) (below : List Frame) (meth : Method) (c : Code) (Q : State → Prop) (H : Heap) (locs : List Loc) (cells slots : Nat) (ls : Array Slot),
      CX M d g p R s m args meth c → Rep g h H → (∀ (H' : Heap) (sl : Nat), Rep g h2 H' → W p l e R s m args below meth c H' (locs ++ [⟨g.1 + a, sl⟩]) cells slots Q (F0 m q ls (st'.map (enc g)))) → W p l e R s m args below meth c H locs cells slots Q (F0 m pc ls (st.map (enc g))))
    (kk : V P M d r h' h2 q L st') : V P M d r h' h pc L st := by
  have e1 : mLen h2 = mLen h := by unfold mLen; rw [hs]
  have e2 : mSl h2 = mSl h := by unfold mSl; rw [hs]
  refine ⟨⟨by rw [← e1]; exact kk.1.1, by rw [← e2]; exact kk.1.2⟩, fun g p l e R s m args below meth c Q o1 o2 hPg C hc hsl hr H locs cells slots ls f1 f2 hR hl hL => ?_⟩
  refine hw g p l e R s m args below meth c Q H locs cells slots ls C hR (fun H' sl hR' => ?_)
  refine kk.2 g p l e R s m args below meth c Q o1 o2 hPg C hc hsl hr H' _ cells slots ls (by rw [e1]; exact f1) (by rw [e2]; exact f2) hR' ?_ hL
  intro x hx
  rcases List.mem_append.mp hx with hx | hx
  · exact hl x hx
  · rw [List.mem_singleton.mp hx]; exact Nat.le_add_right _ _
theorem V.iast {x : Int32} (ht : tI h a i x = some h2) (hd : decode M.2.1 pc = .ok (.iastore, 1)) (hq : pc + 1 = q) (kk : V P M d r h' h2 q L st) : V P M d r h' h pc L (.int x :: .int i :: .ref a :: st) := by
  subst hq
  obtain ⟨hk, rfl⟩ := some_if ht
  obtain ⟨n, hs, hlt, hin, -⟩ := inA_at hk
  refine V.stepH (a := a) (h2 := sI h a i.toNatClampNeg x) rfl (fun g p l e R s m args below meth c Q H locs cells slots ls C hR w => ?_) kk
  have hP := hR.one hs (by decide) (mEn_i hs) 0 _ rfl
  refine W.iast C.1 C.2.1 hP ((C.K.2 1 _ rfl).1 n (fun j => .int (h.1 a j))) (fun q => by cases q) (by show ¬ (i < 0 ∨ (arrV _ _ _).slots.size ≤ _); rw [arrV_size]; exact hin) rfl rfl hd fun H1 e z oq => ?_
  refine w H1 _ (hR.put (h2 := sI h a i.toNatClampNeg x) rfl (fun b hb => mEn_sI hb) ?_ z oq)
  rw [mEn_i (h := sI h a i.toNatClampNeg x) hs]
  show H1[g.1 + a]? = some (vp_cell _ _)
  rw [e, vp_cell_i, vp_cell_i, arrV_store]
  congr 2
  funext j
  by_cases hj : j = i.toNatClampNeg
  · subst hj; simp [updV, sI, up2]
  · simp [updV, sI, up2, hj]
theorem V.bast {x : Int32} (ht : tB h a i x = some h2) (hd : decode M.2.1 pc = .ok (.bastore, 1)) (hq : pc + 1 = q) (kk : V P M d r h' h2 q L st) : V P M d r h' h pc L (.int x :: .int i :: .ref a :: st) := by
  subst hq
  obtain ⟨hk, rfl⟩ := some_if ht
  obtain ⟨n, hs, hlt, hin, -⟩ := inA_at hk
  refine V.stepH (a := a) (h2 := sI h a i.toNatClampNeg (vp_nar .byte x)) rfl (fun g p l e R s m args below meth c Q H locs cells slots ls C hR w => ?_) kk
  have hP := hR.one hs (by decide) (mEn_b hs) 0 _ rfl
  refine W.bast C.1 C.2.1 hP ((C.K.2 0 _ rfl).1 n (fun j => .int (h.1 a j))) (fun q => by cases q) (by show ¬ (i < 0 ∨ (arrV _ _ _).slots.size ≤ _); rw [arrV_size]; exact hin) rfl rfl hd fun H1 e z oq => ?_
  refine w H1 _ (hR.put (h2 := sI h a i.toNatClampNeg (vp_nar .byte x)) rfl (fun b hb => mEn_sI hb) ?_ z oq)
  rw [mEn_b (h := sI h a i.toNatClampNeg (vp_nar .byte x)) hs]
  show H1[g.1 + a]? = some (vp_cell _ _)
  rw [e, vp_cell_i, vp_cell_i, arrV_store]
  congr 2
  funext j
  by_cases hj : j = i.toNatClampNeg
  · subst hj
    simp [updV, sI, up2, vp_nar]
    try rfl
  · simp [updV, sI, up2, hj]
theorem V.last {x : Int64} (ht : tJ h a i x = some h2) (hd : decode M.2.1 pc = .ok (.lastore, 1)) (hq : pc + 1 = q) (kk : V P M d r h' h2 q L st) : V P M d r h' h pc L (.long x :: .int i :: .ref a :: st) := by
  subst hq
  obtain ⟨hk, rfl⟩ := some_if ht
  obtain ⟨n, hs, hlt, hin, -⟩ := inA_at hk
  refine V.stepH (a := a) (h2 := sJ h a i.toNatClampNeg x) rfl (fun g p l e R s m args below meth c Q H locs cells slots ls C hR w => ?_) kk
  have hP := hR.one hs (by decide) (mEn_j hs) 0 _ rfl
  refine W.last C.1 C.2.1 hP ((C.K.2 2 _ rfl).1 n (fun j => .long (h.2.1 a j))) (fun q => by cases q) (by show ¬ (i < 0 ∨ (arrV _ _ _).slots.size ≤ _); rw [arrV_size]; exact hin) rfl rfl hd fun H1 e z oq => ?_
  refine w H1 _ (hR.put (h2 := sJ h a i.toNatClampNeg x) rfl (fun b hb => mEn_sJ hb) ?_ z oq)
  rw [mEn_j (h := sJ h a i.toNatClampNeg x) hs]
  show H1[g.1 + a]? = some (vp_cell _ _)
  rw [e, vp_cell_l, vp_cell_l, arrV_store]
  congr 2
  funext j
  by_cases hj : j = i.toNatClampNeg
  · subst hj; simp [updV, sJ, up2]
  · simp [updV, sJ, up2, hj]
end VAR
/-- a new cell: all its places are 0, or null -/
def nC (h : MH) (kd n : Nat) : MH := (fun b j => if b = h.2.2.2.length then 0 else h.1 b j, fun b j => if b = h.2.2.2.length then 0 else h.2.1 b j, fun b j => if b = h.2.2.2.length then none else h.2.2.1 b j, h.2.2.2 ++ [(kd, n)])
theorem nC_len {h : MH} {kd n : Nat} : mLen (nC h kd n) = mLen h + 1 := by simp [mLen, nC]
theorem nC_sl {h : MH} {kd n : Nat} : mSl (nC h kd n) = mSl h + mSz (kd, n) := by simp [mSl, nC]
theorem mEn_nC {g : GE} {h : MH} {kd n b : Nat} (hb : b < h.2.2.2.length) : mEn g (nC h kd n) b = mEn g h b := by
  have hne : b ≠ h.2.2.2.length := Nat.ne_of_lt hb
  have e0 : (nC h kd n).2.2.2[b]? = h.2.2.2[b]? := by show (h.2.2.2 ++ [(kd, n)])[b]? = _; rw [List.getElem?_append_left hb]
  have e1 : (nC h kd n).1 b = h.1 b := funext fun j => if_neg hne
  have e2 : (nC h kd n).2.1 b = h.2.1 b := funext fun j => if_neg hne
  have e3 : (nC h kd n).2.2.1 b = h.2.2.1 b := funext fun j => if_neg hne
  unfold mEn
  rw [e0]
  cases hq : h.2.2.2[b]? with
  | none => rfl
  | some z =>
    have hm : mFs g.1 (nC h kd n) b z.1 = mFs g.1 h b z.1 := by
      unfold mFs
      apply List.map_congr_left
      intro j _
      unfold mFv
      simp only [e1, e2, e3]
    simp only [hm, e1, e2, e3]
/-- the heap grows by a cell -/
theorem Rep.push {g : GE} {h : MH} {H H' : Heap} {kd n : Nat} (hR : Rep g h H) (hz : H'.size = H.size + 1) (hold : ∀ q, q < H.size → H'[q]? = H[q]?) (hat : kd < 18 → va_at g.2.1 vwCl (g.1 + h.2.2.2.length, mEn g (nC h kd n) h.2.2.2.length) H') : Rep g (nC h kd n) H' := by
  refine ⟨by rw [hz, hR.1]; show _ = g.1 + (h.2.2.2 ++ [(kd, n)]).length; simp; omega, fun k kd1 n1 hk hkd => ?_, fun q hq => by rw [hold q (by have := hR.1; omega)]; exact hR.2.2 q hq⟩
  by_cases e : k < h.2.2.2.length
  · rw [mEn_nC e]
    have hk2 : h.2.2.2[k]? = some (kd1, n1) := by rw [← hk]; show _ = (h.2.2.2 ++ [(kd, n)])[k]?; rw [List.getElem?_append_left e]
    exact va_at.kept (hR.2.1 k kd1 n1 hk2 hkd) (hold _ (by have := hR.1; show g.1 + k < _; omega))
  · have hk3 : (h.2.2.2 ++ [(kd, n)])[k]? = some (kd1, n1) := hk
    rw [List.getElem?_append_right (by omega)] at hk3
    have h0 : k - h.2.2.2.length < 1 := (List.getElem?_eq_some_iff.mp hk3).1
    have hk4 : k = h.2.2.2.length := by omega
    subst hk4
    rw [show h.2.2.2.length - h.2.2.2.length = 0 by omega] at hk3
    cases hk3
    exact hat hkd
section VNEW
variable {P : GE → Launch → Prop} {M : MD} {d : Nat} {r : Option Value} {h' h : MH} {pc q : Nat} {L st : List Value}
/-- a row that makes a cell, at the machine -/
theorem V.stepN {kd n : Nat} {st' : List Value}
    (hw : ∀ (g : GE) (p : Program) (l : Launch) (e : Env) (R : Room) (s : State) (m : MethodId) (args : Array Value) (below : List Frame) (meth : Method) (c : Code) (Q : State → Prop) (H : Heap) (locs : List Loc) (cells slots : Nat) (ls : Array Slot),
      CX M d g p R s m args meth c → Rep g h H → cells + 1 ≤ R.cells → slots + mSz (kd, n) ≤ R.slots → (∀ H' : Heap, Rep g (nC h kd n) H' → W p l e R s m args below meth c H' locs (cells + 1) (slots + mSz (kd, n)) Q (F0 m q ls (.ref (g.1 + h.2.2.2.length) :: st'.map (enc g)))) → W p l e R s m args below meth c H locs cells slots Q (F0 m pc ls (st.map (enc g))))
    (kk : V P M d r h' (nC h kd n) q L (.ref h.2.2.2.length :: st')) : V P M d r h' h pc L st := by
  have k1 := kk.1.1
  have k2 := kk.1.2
  rw [nC_len] at k1
  rw [nC_sl] at k2
  refine ⟨⟨by omega, by omega⟩, fun g p l e R s m args below meth c Q o1 o2 hPg C hc hsl hr H locs cells slots ls f1 f2 hR hl hL => ?_⟩
  refine hw g p l e R s m args below meth c Q H locs cells slots ls C hR (by omega) (by omega) (fun H' hR' => ?_)
  exact kk.2 g p l e R s m args below meth c Q o1 o2 hPg C hc hsl hr H' locs (cells + 1) _ ls (by rw [nC_len]; omega) (by rw [nC_sl]; omega) hR' hl hL
end VNEW
