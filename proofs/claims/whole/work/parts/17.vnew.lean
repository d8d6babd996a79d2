/-! ===== V: new ===== -/
theorem nC_at {h : MH} {kd n : Nat} : (nC h kd n).2.2.2[h.2.2.2.length]? = some (kd, n) := by show (h.2.2.2 ++ [(kd, n)])[h.2.2.2.length]? = _; simp
theorem nC_I {h : MH} {kd n j : Nat} : (nC h kd n).1 h.2.2.2.length j = 0 := if_pos rfl
theorem nC_J {h : MH} {kd n j : Nat} : (nC h kd n).2.1 h.2.2.2.length j = 0 := if_pos rfl
theorem nC_R {h : MH} {kd n j : Nat} : (nC h kd n).2.2.1 h.2.2.2.length j = none := if_pos rfl
def okT : FieldType → Bool
  | .float => false
  | .double => false
  | _ => true
theorem okT_all : (List.range 14).all (fun ci => (List.range (mN ci)).all (fun j => okT (mTy ci j))) = true := by decide +kernel
theorem okT_at {ci j : Nat} (hc : ci < 14) (hj : j < mN ci) : okT (mTy ci j) = true :=
  List.all_eq_true.mp (List.all_eq_true.mp okT_all ci (List.mem_range.mpr hc)) j (List.mem_range.mpr hj)
theorem mFv_new {a0 : Nat} {h : MH} {kd n ci j : Nat} (ht : okT (mTy ci j) = true) : mFv a0 (nC h kd n) h.2.2.2.length ci j = defaultValue (mTy ci j) := by
  unfold mFv
  rw [nC_I, nC_J, nC_R]
  cases hq : mTy ci j <;> first | rfl | (rw [hq] at ht; cases ht)
/-- a pool entry that names a kind to be made -/
def nLk (own : String) (idx ci : Nat) : Prop := ∃ C T N, vwCl[ci]? = some (C, T, N) ∧ Cond.classLink own idx C ∈ TB ∧ Cond.instantiable C N ∈ TB ∧ Cond.initialized C ∈ TB
section VNW2
variable {P : GE → Launch → Prop} {M : MD} {d : Nat} {r : Option Value} {h' h : MH} {pc q : Nat} {L st : List Value}
theorem V.new {idx ci : Nat} (hn : nLk M.1.cls idx ci) (hd : decode M.2.1 pc = .ok (.new idx, 3)) (hq : pc + 3 = q) (kk : V P M d r h' (nC h ci 0) q L (.ref h.2.2.2.length :: st)) : V P M d r h' h pc L st := by
  subst hq
  obtain ⟨Cn, T, N, hc, h1, h2, h3⟩ := hn
  obtain ⟨hN, hci⟩ := vw_N hc
  refine V.stepN (fun g p l e R s m args below meth c Q H locs cells slots ls C hR hcl hsl w => ?_) kk
  have hsz : mSz (ci, 0) = N := by unfold mSz; rw [if_pos hci]; exact hN
  rw [hsz] at hsl w
  have hKn := C.K.1 ci _ hc
  refine W.newcK C.1 C.2.1 C.own (C.hts _ h1) (C.hts _ h2) (C.hts _ h3) rfl hd hcl hsl hKn.2.1 hR.1 fun H1 kC hkC e1 z1 o1 => ?_
  refine w H1 (hR.push (by rw [z1, hR.1]) (fun q hq => o1 q (by rw [← hR.1]; exact hq)) (fun _ => ?_))
  rw [mEn_obj nC_at hci]
  refine ⟨_, hc, (u_born (mTy ci) C.hts (vw_in hc) hKn hkC e1 (vw_ty hc)).to (fun j hj => ?_)⟩
  have hj2 : j < mN ci := by rw [hN]; exact hj
  show _ = (mFs g.1 (nC h ci 0) h.2.2.2.length ci).getD j .null
  rw [List.getD_eq_getElem?_getD, mFs_get hj2, mFv_new (okT_at hci hj2)]
  rfl
theorem V.newB {n : Int32} {N : Nat} (hn : ¬ n < 0) (hN : n.toNatClampNeg = N) (hb : N ≤ 5000) (hd : decode M.2.1 pc = .ok (.newarray .byte, 2)) (hq : pc + 2 = q) (kk : V P M d r h' (nC h 14 N) q L (.ref h.2.2.2.length :: st)) : V P M d r h' h pc L (.int n :: st) := by
  subst hq
  refine V.stepN (fun g p l e R s m args below meth c Q H locs cells slots ls C hR hcl hsl w => ?_) kk
  have hsz : mSz (14, N) = N := rfl
  rw [hsz] at hsl w
  refine va_newaK C.1 C.2.1 (C.hts _ (in_of_all [.arrayClass .byte] (by decide +kernel) _ List.mem_cons_self)) rfl hd rfl hn hN (by show N * 1 ≤ _; omega) hcl hsl hR.1 fun H1 cA e1 z1 o1 _ hNm => ?_
  refine w H1 (hR.push (by rw [z1, hR.1]) (fun q hq => o1 q (by rw [← hR.1]; exact hq)) (fun _ => ?_))
  rw [mEn_b nC_at]
  have ec : some cA = some g.2.2.1.1 := hNm.symm.trans (C.K.2 0 _ rfl).2
  cases ec
  have ef : (nC h 14 N).1 h.2.2.2.length = fun _ => 0 := funext fun j => nC_I
  rw [ef]
  exact e1
theorem V.newI {n : Int32} {N : Nat} (hn : ¬ n < 0) (hN : n.toNatClampNeg = N) (hb : N ≤ 5000) (hd : decode M.2.1 pc = .ok (.newarray .int, 2)) (hq : pc + 2 = q) (kk : V P M d r h' (nC h 15 N) q L (.ref h.2.2.2.length :: st)) : V P M d r h' h pc L (.int n :: st) := by
  subst hq
  refine V.stepN (fun g p l e R s m args below meth c Q H locs cells slots ls C hR hcl hsl w => ?_) kk
  have hsz : mSz (15, N) = N := rfl
  rw [hsz] at hsl w
  refine va_newaK C.1 C.2.1 (C.hts _ (in_of_all [.arrayClass .int] (by decide +kernel) _ List.mem_cons_self)) rfl hd rfl hn hN (by show N * 4 ≤ _; omega) hcl hsl hR.1 fun H1 cA e1 z1 o1 _ hNm => ?_
  refine w H1 (hR.push (by rw [z1, hR.1]) (fun q hq => o1 q (by rw [← hR.1]; exact hq)) (fun _ => ?_))
  rw [mEn_i nC_at]
  have ec : some cA = some g.2.2.1.2.1 := hNm.symm.trans (C.K.2 1 _ rfl).2
  cases ec
  have ef : (nC h 15 N).1 h.2.2.2.length = fun _ => 0 := funext fun j => nC_I
  rw [ef]
  exact e1
theorem V.newJ {n : Int32} {N : Nat} (hn : ¬ n < 0) (hN : n.toNatClampNeg = N) (hb : N ≤ 5000) (hd : decode M.2.1 pc = .ok (.newarray .long, 2)) (hq : pc + 2 = q) (kk : V P M d r h' (nC h 16 N) q L (.ref h.2.2.2.length :: st)) : V P M d r h' h pc L (.int n :: st) := by
  subst hq
  refine V.stepN (fun g p l e R s m args below meth c Q H locs cells slots ls C hR hcl hsl w => ?_) kk
  have hsz : mSz (16, N) = N := rfl
  rw [hsz] at hsl w
  refine va_newaK C.1 C.2.1 (C.hts _ (in_of_all [.arrayClass .long] (by decide +kernel) _ List.mem_cons_self)) rfl hd rfl hn hN (by show N * 8 ≤ _; omega) hcl hsl hR.1 fun H1 cA e1 z1 o1 _ hNm => ?_
  refine w H1 (hR.push (by rw [z1, hR.1]) (fun q hq => o1 q (by rw [← hR.1]; exact hq)) (fun _ => ?_))
  rw [mEn_j nC_at]
  have ec : some cA = some g.2.2.1.2.2.1 := hNm.symm.trans (C.K.2 2 _ rfl).2
  cases ec
  have ef : (nC h 16 N).2.1 h.2.2.2.length = fun _ => 0 := funext fun j => nC_J
  rw [ef]
  exact e1
/-- Object.<init> -/
theorem V.objInit {idx a : Nat} (hl : Cond.methodLink M.1.cls idx objectInit ∈ TB) (hdp : 1 ≤ d) (hst : ((st.map fun v => v.category).sum) ≤ 8) (hd : decode M.2.1 pc = .ok (.invokespecial idx, 3)) (hq : pc + 3 = q) (kk : V P M d r h' h q L st) : V P M d r h' h pc L (.ref a :: st) := by
  subst hq
  refine V.step (fun g p l e R s m args below meth c Q H locs cells slots ls _ C hL hR w => ?_) kk
  have hsum : ((st.map (enc g)).map fun v => v.category).sum ≤ 8 := by
    rw [List.map_map]
    have : ((fun v => v.category) ∘ enc g) = fun v => Value.category v := funext fun v => enc_cat g v
    rw [this]; exact hst
  refine W.objInit C.1 C.2.1 C.own (C.hts _ hl) (C.hts _ (in_of_all [.instanceMethod objectInit] (by decide +kernel) _ List.mem_cons_self)) (C.hts _ (in_of_all [.code objectInit ⟨#[0xb1]⟩ 1 none] (by decide +kernel) _ List.mem_cons_self)) rfl (by rw [C.2.2.2.1]; exact hL.1) rfl hd (Nat.le_trans hdp C.2.2.2.2.2.2.2.2.2.1) ?_ w
  have h2 := C.2.2.2.2.2.2.2.2.2.2
  show 2 * 0 + _ + 12 ≤ _
  omega
end VNW2
