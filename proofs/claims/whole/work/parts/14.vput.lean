section VCX
variable {P : GE → Launch → Prop} {M : MD} {d : Nat} {g : GE} {p : Program} {R : Room} {s : State} {m : MethodId} {args : Array Value} {meth : Method} {c : Code}
theorem CX.own (C : CX M d g p R s m args meth c) : s.vm.findClass M.1.cls = some m.cls := C.2.2.2.2.1
theorem CX.hts (C : CX M d g p R s m args meth c) : ∀ w ∈ TB, w.before args s = true := C.2.2.2.2.2.2.2.1
theorem CX.gx (C : CX M d g p R s m args meth c) : CxG g s := C.2.2.2.2.2.2.2.2.1
theorem CX.K (C : CX M d g p R s m args meth c) : va_K g.2.1 vwCl [(g.2.2.1.1, .byte), (g.2.2.1.2.1, .int), (g.2.2.1.2.2.1, .long), (g.2.2.1.2.2.2, .array .int)] s := C.2.2.2.2.2.2.2.2.1.1
theorem CX.nest (C : CX M d g p R s m args meth c) : ∀ w ∈ nestW, va_Nw w s := C.2.2.2.2.2.2.2.2.1.2.1
theorem CX.jd (C : CX M d g p R s m args meth c) : JD g s := C.2.2.2.2.2.2.2.2.1.2.2
end VCX
/-- a pool entry that names a field: to be read; to be written -/
def fLk (own : String) (idx ci k : Nat) : Prop := ∃ C T N, vwCl[ci]? = some (C, T, N) ∧ k < N ∧ (Cond.fieldLink own idx (T k).1 (T k).2.1 (T k).2.2.1 ∈ TB ∨ ∃ host, Cond.fieldLinkNest own idx (T k).1 (T k).2.1 (T k).2.2.1 host ∈ nestW)
def fPk (M : MD) (idx ci k : Nat) : Prop := ∃ C T N, vwCl[ci]? = some (C, T, N) ∧ k < N ∧ ((Cond.fieldLink M.1.cls idx (T k).1 (T k).2.1 (T k).2.2.1 ∈ TB ∧ (T k).2.2.2 = false) ∨ (∃ host, Cond.fieldLinkNest M.1.cls idx (T k).1 (T k).2.1 (T k).2.2.1 host ∈ nestW ∧ (T k).2.2.2 = false) ∨ (Cond.fieldLink M.1.cls idx (T k).1 (T k).2.1 (T k).2.2.1 ∈ TB ∧ (T k).2.2.2 = true ∧ M.1.name = "<init>" ∧ (T k).1 = M.1.cls))
theorem Rep.one {g : GE} {h : MH} {H : Heap} {a : Nat} {e : va_E} {kd n : Nat} (hR : Rep g h H) (hlt : h.2.2.2[a]? = some (kd, n)) (hkd : kd < 18) (he : mEn g h a = e) : va_P g.2.1 vwCl [(g.1 + a, e)] H := fun i q hq => by
  rcases i with _ | i
  · cases hq; rw [← he]; exact hR.2.1 a kd n hlt hkd
  · simp at hq
/-- one cell changes, the shapes don't -/
theorem Rep.put {g : GE} {h h2 : MH} {H H' : Heap} {a : Nat} (hR : Rep g h H) (hs : h2.2.2.2 = h.2.2.2) (hne : ∀ b, b ≠ a → mEn g h2 b = mEn g h b) (hat : va_at g.2.1 vwCl (g.1 + a, mEn g h2 a) H') (hz : H'.size = H.size) (ho : ∀ q, q ≠ g.1 + a → H'[q]? = H[q]?) : Rep g h2 H' := by
  refine ⟨by rw [hz, hs]; exact hR.1, fun k kd n hk hkd => ?_, fun q hq => by rw [ho q (by omega)]; exact hR.2.2 q hq⟩
  by_cases e : k = a
  · subst e; exact hat
  · rw [hne k e]
    exact va_at.kept (hR.2.1 k kd n (by rw [← hs]; exact hk) hkd) (ho _ (by show g.1 + k ≠ g.1 + a; omega))
section VGP
variable {P : GE → Launch → Prop} {M : MD} {d : Nat} {g : GE} {p : Program} {l : Launch} {e : Env} {R : Room} {s : State} {m : MethodId} {args : Array Value} {below : List Frame} {meth : Method} {c : Code} {H : Heap} {locs : List Loc} {cells slots : Nat} {Q : State → Prop} {h : MH} {pc a idx ci k : Nat} {ls : Array Slot} {rest : List Value}
theorem mGet (C : CX M d g p R s m args meth c) (hR : Rep g h H) (hf : fLk M.1.cls idx ci k) (hk : isK h a ci = true) (hd : decode M.2.1 pc = .ok (.getfield idx, 3))
    (w : W p l e R s m args below meth c H locs cells slots Q (F0 m (pc + 3) ls (mFv g.1 h a ci k :: rest))) : W p l e R s m args below meth c H locs cells slots Q (F0 m pc ls (.ref (g.1 + a) :: rest)) := by
  obtain ⟨Cn, T, N, hv, hkN, hl⟩ := hf
  obtain ⟨n, hs, hlt⟩ := isK_at hk
  have hP := hR.one hs (Nat.lt_trans (vw_N hv).2 (by decide)) (mEn_obj hs (vw_N hv).2)
  have hg : (mFs g.1 h a ci)[k]? = some (mFv g.1 h a ci k) := mFs_get (by rw [(vw_N hv).1]; exact hkN)
  rcases hl with hl | ⟨host, hl⟩
  · exact va_get C.1 C.2.1 C.hts (vw_in hv) C.own C.K hP 0 rfl hv k hkN (C.hts _ hl) (fun _ h => h) hg hd w
  · exact va_getN C.1 C.2.1 C.hts (vw_in hv) C.own C.K hP 0 rfl hv k hkN (va_Nw.use rfl (C.nest _ hl)) (fun _ h => h) hg hd w
theorem mPut (C : CX M d g p R s m args meth c) (hR : Rep g h H) (hf : fPk M idx ci k) (hk : isK h a ci = true) {v : Value} (hn : narrow (mTy ci k) v = v) (hfit : fits (mTy ci k) v = true) (hd : decode M.2.1 pc = .ok (.putfield idx, 3))
    (w : ∀ (H' : Heap) (sl : Nat), va_at g.2.1 vwCl (g.1 + a, .inr (ci, (mFs g.1 h a ci).set k v)) H' → H'.size = H.size → (∀ q, q ≠ g.1 + a → H'[q]? = H[q]?) → W p l e R s m args below meth c H' (locs ++ [⟨g.1 + a, sl⟩]) cells slots Q (F0 m (pc + 3) ls rest)) :
    W p l e R s m args below meth c H locs cells slots Q (F0 m pc ls (v :: .ref (g.1 + a) :: rest)) := by
  obtain ⟨Cn, T, N, hc, hkN, hl⟩ := hf
  obtain ⟨n, hs, hlt⟩ := isK_at hk
  have hP := hR.one hs (Nat.lt_trans (vw_N hc).2 (by decide)) (mEn_obj hs (vw_N hc).2)
  have hts := C.hts
  have hin := vw_in hc
  have hK := C.K
  have hap := va_apart (own := M.1.cls) hts hin (mTy ci) (vw_ty hc) (vw_nm hc) hK hc
  obtain ⟨r, h1, cell, q1, q2, q3, q4⟩ := hP 0 _ rfl
  have hr : r = (Cn, T, N) := Option.some.inj (h1.symm.trans hc)
  subst hr
  obtain ⟨hS, hfc, kC, hkC, hkind⟩ := hK.1 ci _ hc
  obtain ⟨cf, kf, fi, f, hi, hsl⟩ := hS k hkN
  have hlay := hts _ (hin _ (u_in_lay hkN))
  unfold u_lay at hlay
  have hst := (u_facts hfc hkC (u_lays hts hin hkN) hi).1
  have hll : k < (mFs g.1 h a ci).length := by rw [mFs_len, (vw_N hc).1]; exact hkN
  have fin : ∀ H' : Heap, H'[g.1 + a]? = some (cell.setSlot (g.2.1.2 ci k) v) → va_at g.2.1 vwCl (g.1 + a, .inr (ci, (mFs g.1 h a ci).set k v)) H' := fun H' e1 =>
    ⟨_, hc, t_OB.to (V := updV (vp_V (mFs g.1 h a ci)) k v) ⟨_, e1, q2, q3, t_set q4 hap hkN v⟩ (fun j _ => vp_updV_set hll v j)⟩
  rcases hl with ⟨hl, hfin⟩ | ⟨host, hl, hfin⟩ | ⟨hl, hfin, hin2, hdecl⟩
  · rw [if_neg (by rw [hfin]; decide)] at hlay
    have h6 := u_store hfc hkC hkind hlay hi (vw_ty hc k hkN) hn hfit
    refine W.putK C.1 C.2.1 (f := f) ⟨C.own, hts _ hl, ⟨_, _, _, hi⟩, hst⟩ (by rw [q2]; exact h6) q1 q3 (by rw [hsl]; exact k2_hasslot (q4 k hkN)) rfl rfl hd fun H' e1 e2 e3 => ?_
    rw [hsl] at e1 ⊢
    exact w H' _ (fin H' e1) e2 e3
  · rw [if_neg (by rw [hfin]; decide)] at hlay
    have h6 := u_store hfc hkC hkind hlay hi (vw_ty hc k hkN) hn hfit
    refine va_WputK C.1 C.2.1 (f := f) C.own (va_Nw.use rfl (C.nest _ hl)) hi hst (by rw [q2]; exact h6) q1 q3 (by rw [hsl]; exact k2_hasslot (q4 k hkN)) rfl rfl hd fun H' e1 e2 e3 => ?_
    rw [hsl] at e1 ⊢
    exact w H' _ (fin H' e1) e2 e3
  · rw [if_pos hfin] at hlay
    have hcf : m.cls = cf := by
      obtain ⟨_, _, c', _, _, _, -, -, hf', -, -, -, hown2, -⟩ := Cond.laysFinal_spec hlay
      have e1 : c' = cf := by have := hi.symm.trans hf'; simp at this; exact this.1.symm
      rw [hdecl] at hown2
      rw [← e1]; exact Option.some.inj (C.own.symm.trans hown2)
    have h6 := u_fits hfc hkC hkind (Or.inr hlay) hi (vw_ty hc k hkN) hn hfit
    refine W.putFinK C.1 C.2.1 C.own (hts _ hl) hi hst hcf (C.2.2.2.2.2.2.1 hin2) (by rw [q2]; exact h6) q1 q3 (by rw [hsl]; exact k2_hasslot (q4 k hkN)) rfl rfl hd fun H' e1 e2 e3 => ?_
    rw [hsl] at e1 ⊢
    exact w H' _ (fin H' e1) e2 e3
end VGP
