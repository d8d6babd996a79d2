/-! ===== StampViewsLaw.led ===== -/
abbrev mL_led : MD := (yL_led, cL_led, 4, some .int)
def nsee : String := "java/util/NoSuchElementException"
theorem ledWs : (Cond.classLink "StampViews" 389 nsee :: Cond.initialized nsee :: mx_atS "StampViews" 393 nsee "java/lang/RuntimeException" 13 prog_30_method_4_code ["java/lang/Exception"]).all (fun w => vx_ot w && (decide (w ∈ tables_1) || decide (w ∈ k2_sels lw_privs)) && (goodWord w || decide (w ∈ nestW))) = true := by decide +kernel
theorem ledW {w : Cond} (hw : w ∈ Cond.classLink "StampViews" 389 nsee :: Cond.initialized nsee :: mx_atS "StampViews" 393 nsee "java/lang/RuntimeException" 13 prog_30_method_4_code ["java/lang/Exception"]) : vx_ot w = true ∧ (w ∈ TB ∨ w ∈ nestW) := by
  have h := List.all_eq_true.mp ledWs w hw
  simp only [Bool.and_eq_true, Bool.or_eq_true, decide_eq_true_eq] at h
  obtain ⟨⟨h1, h2⟩, h3⟩ := h
  refine ⟨h1, h3.elim (fun q => Or.inl (TB_in ?_ q)) Or.inr⟩
  exact h2.elim (fun q => List.mem_append_right _ q) (fun q => List.mem_append_left _ q)
theorem nestW_tab {w : Cond} (hw : w ∈ nestW) : w.onTables = true := by
  have h1 := (List.mem_filter.mp hw).2
  cases w <;> first | (simp at h1; done) | rfl
set_option maxHeartbeats 4000000 in
theorem led_vx {h h1 : MH} {a0 : Nat} {x1 : Int32} (hx : fX11_ledx h a0 x1 = some h1) (g : GE) (l : Launch) (hl : l.stackTraces = false) :
    vx_Met l yX11_led (wsM mX11_led) (mRm 8 (nC h1 18 6) h) (mPc g h [.ref a0, .int x1]) (fun _ _ _ _ => False) (fun E _ t => E = nsee ∧ Rep g (nC h1 18 6) t.heap) (mLen (nC h1 18 6) - mLen h) (mSl (nC h1 18 6) - mSl h) (gA g) := by
  refine vx_ofW (cc := cX11_led) (maxL := 4) (ret := some .int) (by decide +kernel) rfl ?_
  intro p e s m args below meth c s₁ B hml ht hv
  obtain ⟨rfl, hR, hG⟩ := hv
  rw [lg_entry_eq]
  have hV := tX11_ledx hx
  have hle := hV.1
  have l1 : mLen (nC h1 18 6) = mLen h1 + 1 := nC_len
  have l2 : mSl (nC h1 18 6) = mSl h1 + 6 := nC_sl
  have hle1 := hle.1
  have hle2 := hle.2
  have C : CX mX11_led 1 g p (headSpec (wsM mX11_led) (mRm 8 (nC h1 18 6) h)).room s m ([.ref a0, .int x1].map (enc g)).toArray meth c :=
    ⟨B.exec, B.bytes, B.returns, hml, findClass_of_methodNamed B.named, B.notSynchronized, fun hi => by rw [(name_of_methodNamed B.named B.method).1]; exact hi, fun w hw => atoms_spec (ws := wsM mX11_led) B.pre w (List.mem_cons_of_mem _ hw), hG, (by show 1 ≤ 8; decide), (by show 40 * 1 ≤ 40 * 8; decide)⟩
  have hj := C.jd
  refine hV.2 g p l e _ s m _ below meth c _ (mLen h) (mSl h) trivial C (by show mLen h1 ≤ mLen (nC h1 18 6) - mLen h + mLen h; omega) (by show mSl h1 ≤ mSl (nC h1 18 6) - mSl h + mSl h; omega) ⟨fun H1 locs1 cells1 slots1 pc1 ls1 _ _ _ _ hok => hok.elim, fun x hxx => ?_⟩ s.heap [] 0 0 _ (by omega) (by omega) hR (fun q hq => by cases hq) (LR.entry (M := mX11_led) (vs := [.ref a0, .int x1]) g (Nat.le_of_ble_eq_true rfl))
  cases hxx
  intro H1 locs1 cells1 slots1 ls1 hR1 hl1 e1 e2 hsz
  obtain ⟨b, v, f1, -, hK, -⟩ := hj.2.2.2.1 4 _ rfl
  have hS : va_S (gA g) s.heap H1 locs1 := by
    refine ⟨by rw [hR.1, hR1.1]; have := hle.1; unfold mLen at this; omega, fun q hq hA => ?_, hl1⟩
    have hq2 : q < g.1 := Nat.not_le.mp hA
    rw [hR1.2.2 q hq2, hR.2.2 q hq2]
  have ws : ∀ w, (w ∈ TB ∨ w ∈ nestW) → w.before ([.ref a0, .int x1].map (enc g)).toArray s = true := fun w hw => hw.elim (fun q => C.hts w q) (fun q => va_Nw.use (nestW_tab q) (C.nest w q))
  refine mx_throwSW (cc := cX11_led) (A := gA g) (own := "StampViews") (cls := nsee) (up := "java/lang/RuntimeException") (names := ["java/lang/Exception"]) (iu := 13) (bs := prog_30_method_4_code) (text := "no such paper") (ik := 389) (is := 391) (ic := 393) (sa := b) B.exec B.bytes hl (by decide +kernel) (by decide +kernel) (by decide +kernel) (by decide +kernel) C.own (by decide +kernel) (by decide +kernel) (by decide +kernel)
    (ws _ (ledW List.mem_cons_self).2) (ws _ (ledW (List.mem_cons_of_mem _ List.mem_cons_self)).2) hK (fun w hw => ws w (ledW (List.mem_cons_of_mem _ (List.mem_cons_of_mem _ hw))).2) (fun w hw => (ledW hw).1)
    (hj.2.2.2.2.2.2.1.kept (hR.old hj)) (hj.2.2.2.2.2.2.2.kept (hR.old hj)) hS (by rw [hsz]; exact hml.symm) dX11_led_49 dX11_led_52 dX11_led_53 dX11_led_56 dX11_led_59 ?_ (by show 1 + 4 < 8; decide) (by show 0 + (13 * (1 + 2) + 43) ≤ 40 * 8; decide) (by show cells1 + 1 ≤ mLen (nC h1 18 6) - mLen h; omega) (by show slots1 + 6 ≤ mSl (nC h1 18 6) - mSl h; omega) B.notSynchronized ?_ hl1 (by omega) (by omega)
  · intro x hxm
    exact (ht x hxm).elim
  · intro t hts hto
    refine ⟨rfl, hR1.push hts hto (fun q => absurd q (by decide))⟩
/-- a body with handlers that returns -/
theorem metH {l : Launch} {y : MethodName} {ws ws' : List Cond} {rm : Room} {Pc : Array Value → State → Prop} {Qc : Array Value → State → Outcome → State → Prop} {mc ms : Nat} {free : Addr → Prop} {cc : ByteArray} {maxL : Nat} {ret : Option FieldType} {hh : List (Nat × Nat × Nat × Nat)}
    (hy : plainName y.cls = true) (hw : ws = Cond.codeWith y cc maxL ret hh :: ws')
    (body : ∀ p e s m args below meth c s₁, BodyLoose p l y (headSpec ws rm) cc maxL ret e s m args below meth c s₁ → c.maxLocals = maxL → Pc args s →
      W p l e (headSpec ws rm).room s m args below meth c s.heap [] 0 0 (MQ below Qc args s mc ms free) (entryFrame m args maxL)) : Met l y ws rm Pc Qc mc ms free := by
  refine MetFree.of_bodyS (code := cc) (maxLocals := maxL) (ret := ret) hy ?_ ?_
  · intro args s m h hn
    obtain ⟨m9, meth, c, hn9, h1, h2, h3, h4, -, h5, h6, -⟩ := Cond.codeWith_spec (atoms_spec (ws := ws) h _ (by rw [hw]; exact List.mem_cons_self))
    cases hn.symm.trans hn9
    exact ⟨meth, c, h1, h2, h3, h4, h5, h6⟩
  · intro p e s m args below meth c s₁ B hml hP _
    have hh0 : s₁.heap = s.heap := by rw [B.state]; rfl
    obtain ⟨t, a1, o, b1, b2, b3⟩ := body p e s m args below meth c s₁ B hml hP s₁ hh0 (Stand.of_body B)
    exact ⟨t, o, a1, b1, b2, ⟨b3.1, b3.2⟩⟩
theorem clL_13 : Cond.classLink RL 13 nsee ∈ TB := mT6 61 rfl rfl
