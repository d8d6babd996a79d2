/-! ===== V: calls ===== -/
def mArgs : List Value → List Value
  | [] => []
  | v :: vs => if v.category = 2 then v :: Jk :: mArgs vs else v :: mArgs vs
def mL0 (M : MD) (vs : List Value) : List Value := mArgs vs ++ List.replicate (M.2.2.1 - (mArgs vs).length) Jk
/-- the method M, called with vs in the heap h, returns r and leaves h' -/
def VM (M : MD) (d : Nat) (r : Option Value) (h' h : MH) (vs : List Value) : Prop := V TT M d r h' h 0 (mL0 M vs) []
def mPc (g : GE) (h : MH) (vs : List Value) : Array Value → State → Prop := fun v U => v = (vs.map (enc g)).toArray ∧ Rep g h U.heap ∧ CxG g U
def mQc (g : GE) (h' : MH) (r : Option Value) : Array Value → State → Outcome → State → Prop := fun _ _ o t => o = .returned (r.map (enc g)) ∧ Rep g h' t.heap
def mRm (d : Nat) (h' h : MH) : Room := { frames := d, cells := mLen h' - mLen h, slots := mSl h' - mSl h, locals := 40 * d }
theorem mArgs_len (g : GE) : ∀ vs : List Value, (lg_sl (vs.map (enc g))).length = (mArgs vs).length
  | [] => rfl
  | v :: vs => by
    have ih := mArgs_len g vs
    have hc := enc_cat g v
    have e : lg_sl ((v :: vs).map (enc g)) = (if (enc g v).category = 2 then [.val (enc g v), .second] else [.val (enc g v)]) ++ lg_sl (vs.map (enc g)) := by simp [lg_sl]
    rw [e, List.length_append, ih]
    have e2 : mArgs (v :: vs) = if v.category = 2 then v :: Jk :: mArgs vs else v :: mArgs vs := rfl
    rw [e2]
    by_cases h2 : v.category = 2
    · rw [if_pos (hc.trans h2), if_pos h2]; simp; omega
    · rw [if_neg (by rw [hc]; exact h2), if_neg h2]; simp; omega
theorem mArgs_mem (g : GE) : ∀ (vs : List Value) (k i : Nat) (v : Value), (mArgs vs)[i]? = some v → v ≠ Jk → (k + i, enc g v) ∈ lv_args k (vs.map (enc g))
  | [], k, i, v, h, _ => by simp [mArgs] at h
  | w :: vs, k, i, v, h, hn => by
    have hc := enc_cat g w
    simp only [List.map_cons, mArgs, lv_args] at h ⊢
    by_cases h2 : w.category = 2
    · rw [if_pos h2] at h
      rcases i with _ | _ | i
      · simp only [List.getElem?_cons_zero, Option.some.injEq] at h
        subst h
        exact List.mem_cons_self
      · simp only [List.getElem?_cons_succ, List.getElem?_cons_zero, Option.some.injEq] at h
        exact absurd h.symm hn
      · simp only [List.getElem?_cons_succ] at h
        have := mArgs_mem g vs (k + 2) i v h hn
        refine List.mem_cons_of_mem _ ?_
        rw [hc, h2]
        rw [show k + (i + 1 + 1) = k + 2 + i by omega]
        exact this
    · have h1 : w.category = 1 := by cases w <;> first | rfl | exact absurd rfl h2
      rw [if_neg h2] at h
      rcases i with _ | i
      · simp only [List.getElem?_cons_zero, Option.some.injEq] at h
        subst h
        exact List.mem_cons_self
      · simp only [List.getElem?_cons_succ] at h
        have := mArgs_mem g vs (k + 1) i v h hn
        refine List.mem_cons_of_mem _ ?_
        rw [hc, h1]
        rw [show k + (i + 1) = k + 1 + i by omega]
        exact this
theorem LR.entry (g : GE) {M : MD} {vs : List Value} (hl : (mArgs vs).length ≤ M.2.2.1) : LR g ((lg_sl (vs.map (enc g)) ++ List.replicate (M.2.2.1 - (lg_sl (vs.map (enc g))).length) Slot.unset).toArray) M.2.2.1 (mL0 M vs) := by
  have h := lv_entry (vs.map (enc g)) (n := M.2.2.1) (by rw [mArgs_len]; exact hl)
  refine ⟨h.1, h.2.1, fun i v hv hn => ?_⟩
  by_cases hi : i < (mArgs vs).length
  · unfold mL0 at hv
    rw [List.getElem?_append_left hi] at hv
    have := h.2.2 _ (mArgs_mem g vs 0 i v hv hn)
    simpa using this
  · unfold mL0 at hv
    rw [List.getElem?_append_right (by omega), List.getElem?_replicate] at hv
    split at hv
    · exact absurd (Option.some.inj hv).symm hn
    · cases hv
def okR : Option Value → Bool
  | some (.retAddr _) => false
  | _ => true
theorem VM.met {M : MD} {d : Nat} {r : Option Value} {h' h : MH} {vs : List Value} (hV : VM M d r h' h vs) (hnr : okR r = true) (hp : plainName M.1.cls = true) (hl : (mArgs vs).length ≤ M.2.2.1) (g : GE) (l : Launch) :
    Met l M.1 (wsM M) (mRm d h' h) (mPc g h vs) (mQc g h' r) (mLen h' - mLen h) (mSl h' - mSl h) (gA g) := by
  refine Met.ofW (cc := M.2.1) (maxL := M.2.2.1) (ret := M.2.2.2) hp rfl ?_
  intro p e s m args below meth c s₁ B hml hv
  obtain ⟨rfl, hR, hG⟩ := hv
  rw [lg_entry_eq]
  have C : CX M d g p (headSpec (wsM M) (mRm d h' h)).room s m (vs.map (enc g)).toArray meth c :=
    ⟨B.exec, B.bytes, B.returns, hml, findClass_of_methodNamed B.named, B.notSynchronized, fun hi => by rw [(name_of_methodNamed B.named B.method).1]; exact hi, fun w hw => atoms_spec (ws := wsM M) B.pre w (List.mem_cons_of_mem _ hw), hG, Nat.le_refl _, Nat.le_refl _⟩
  have hle := hV.1
  refine hV.2 g p l e _ s m _ below meth c _ (mLen h) (mSl h) trivial C (by show mLen h' ≤ mLen h' - mLen h + mLen h; omega) (by show mSl h' ≤ mSl h' - mSl h + mSl h; omega) ?_ s.heap [] 0 0 _ (by omega) (by omega) hR (fun q hq => by cases hq) (LR.entry g hl)
  refine ⟨?_, fun x hx => by rw [hx] at hnr; cases hnr⟩
  intro H1 locs1 cells1 slots1 pc1 ls1 hR1 hl1 e1 e2 hok hd
  have e1 : cells1 = mLen h' - mLen h := by have := hle.1; omega
  have e2 : slots1 = mSl h' - mSl h := by have := hle.2; omega
  subst e1; subst e2
  have hq : ∀ t : State, t.heap = H1 → s.WarmedH t.vm → mQc g h' r (vs.map (enc g)).toArray s (.returned (r.map (enc g))) t := fun t ht _ => ⟨rfl, by rw [ht]; exact hR1⟩
  have hr := B.returns
  have hlk := B.notSynchronized
  generalize hrt : M.2.2.2 = rt at hok hr
  match rt, r, hok, hd, hq with
  | none, none, _, hd, hq => exact W.vret B.exec B.bytes hr hq hl1 hd hlk
  | some .int, some (.int v), _, hd, hq => exact W.iret B.exec B.bytes hr hq hl1 hd hlk
  | some .long, some (.long v), _, hd, hq => exact W.lret B.exec B.bytes hr hq hl1 hd hlk
  | some .boolean, some (.int v), hok, hd, hq => exact W.zret B.exec B.bytes hr (by rcases hok with rfl | rfl <;> rfl) hq hl1 hd hlk
  | some .byte, some (.int v), hok, hd, hq => exact W.zret B.exec B.bytes hr hok hq hl1 hd hlk
  | some .char, some (.int v), hok, hd, hq => exact W.zret B.exec B.bytes hr hok hq hl1 hd hlk
/-- what a callee's name and code say, whoever calls it -/
def mOK (M : MD) (n : Nat) : Prop := plainName M.1.cls = true ∧ M.2.2.1 ≤ 20 ∧ Cond.code M.1 M.2.1 M.2.2.1 M.2.2.2 ∈ TB ∧ Cond.initialized M.1.cls ∈ TB ∧ (M.1.cls ≠ "java/lang/invoke/MethodHandle" ∧ M.1.cls ≠ "java/lang/invoke/VarHandle" ∧ (parseMethodDescriptor M.1.desc).map (fun d => d.parameters.length) = some n)
theorem wsM_good {M : MD} (h : Cond.code M.1 M.2.1 M.2.2.1 M.2.2.2 ∈ TB) : GoodIn TB (wsM M) := fun w hw => by
  rcases List.mem_cons.mp hw with rfl | hw
  · exact ⟨h, good_of_word (TB_good h)⟩
  · exact ⟨hw, good_of_word (TB_good hw)⟩
theorem mPc_blind (g : GE) (h : MH) (vs : List Value) : FrameBlind (mPc g h vs) := fun a U j mk hq => ⟨hq.1, hq.2.1, CxG.same (s := U) rfl hq.2.2⟩
theorem enc_stack (g : GE) (vs st : List Value) : (vs.reverse ++ st).map (enc g) = (vs.map (enc g)).reverse ++ st.map (enc g) := by simp
theorem enc_ret (g : GE) (r : Option Value) (st : List Value) : (r.toList ++ st).map (enc g) = (r.map (enc g)).toList ++ st.map (enc g) := by cases r <;> simp
theorem enc_cats (g : GE) (st : List Value) : ((st.map (enc g)).map fun v => v.category) = st.map fun v => v.category := by
  rw [List.map_map]
  exact List.map_congr_left fun v _ => enc_cat g v
section VCL
variable {P : GE → Launch → Prop} {M M2 : MD} {d d2 : Nat} {r r2 : Option Value} {h' h h2 : MH} {pc q : Nat} {L st S S2 vs : List Value} {idx n : Nat}
/-- behind any call: what came back -/
theorem V.afterRun (hV : VM M2 d2 r2 h2 h vs) (kk : V P M d r h' h2 q L (r2.toList ++ st)) (hq : pc + 3 = q)
    (hw : ∀ (g : GE) (p : Program) (l : Launch) (e : Env) (R : Room) (s : State) (m : MethodId) (args : Array Value) (below : List Frame) (meth : Method) (c : Code) (H : Heap) (locs : List Loc) (cells slots : Nat) (ls : Array Slot),
      CX M d g p R s m args meth c → LR g ls M.2.2.1 L → Rep g h H → cells + (mLen h2 - mLen h) ≤ R.cells → slots + (mSl h2 - mSl h) ≤ R.slots →
      va_Run p l e R s m args below meth c H locs cells slots (mLen h2 - mLen h) (mSl h2 - mSl h) (F0 m pc ls (S.map (enc g))) (st.map (enc g)) (mQc g h2 r2 (vs.map (enc g)).toArray) (gA g)) : V P M d r h' h pc L S := by
  subst hq
  have l1 := hV.1
  have l2 := kk.1
  refine ⟨l1.trans l2, fun g p l e R s m args below meth c Q o1 o2 hPg C hc hs hr H locs cells slots ls f1 f2 hR hl hL => ?_⟩
  have hrun := hw g p l e R s m args below meth c H locs cells slots ls C hL hR (by have := l1.1; have := l2.1; omega) (by have := l1.2; have := l2.2; omega)
  intro T hT X
  obtain ⟨v, st₀, t, T', Lx, h0, X', hLx, eh, evm, ⟨eo, hR2⟩, go⟩ := hrun T hT X
  have ev : v = r2.map (enc g) := Outcome.returned.inj eo
  subst ev
  have w := kk.2 g p l e R s m args below meth c Q o1 o2 hPg C hc hs hr T'.heap (locs ++ Lx) (cells + (mLen h2 - mLen h)) (slots + (mSl h2 - mSl h)) ls (by have := l1.1; omega) (by have := l1.2; omega) (by rw [eh]; exact hR2)
    (fun x hx => by rcases List.mem_append.mp hx with hx | hx; exact hl x hx; exact hLx x hx) hL
  rw [enc_ret] at w
  obtain ⟨tt, a1, b1⟩ := w T' rfl X'
  exact ⟨tt, go tt a1, b1⟩
theorem mRoom {R : Room} {h2 h : MH} (hd : d2 + 1 ≤ d) (hm : M2.2.2.1 ≤ 20) (h1 : d ≤ R.frames) (h3 : 40 * d ≤ R.locals) : (mRm d2 h2 h).frames + 1 ≤ R.frames ∧ 8 + (M2.2.2.1 + 11) + (mRm d2 h2 h).locals ≤ R.locals := by
  refine ⟨Nat.le_trans hd h1, ?_⟩
  show 8 + (M2.2.2.1 + 11) + 40 * d2 ≤ _
  omega
theorem V.callV {a ci : Nat} {T : u_T} {N : Nat} (ok : mOK M2 n) (hi : Cond.instanceMethod M2.1 ∈ TB) (hsel : Cond.selects M2.1.cls M2.1 M2.1 ∈ TB) (hvw : vwCl[ci]? = some (M2.1.cls, T, N)) (hlink : Cond.methodLink M.1.cls idx M2.1 ∈ TB)
    (hV : VM M2 d2 r2 h2 h (.ref a :: vs)) (hnr : okR r2 = true) (hk : isK h a ci = true) (hdd : d2 + 1 ≤ d) (hS : vs.reverse ++ .ref a :: st = S) (hst : (st.map fun v => v.category).sum ≤ 8) (hlen : (mArgs (.ref a :: vs)).length ≤ M2.2.2.1) (hn : vs.length = n) (hd : decode M.2.1 pc = .ok (.invokevirtual idx, 3)) (hq : pc + 3 = q) (hS2 : r2.toList ++ st = S2) (kk : V P M d r h' h2 q L S2) : V P M d r h' h pc L S := by
  subst hS2
  subst hS
  obtain ⟨ok1, ok2, ok3, ok4, ok5⟩ := ok
  obtain ⟨n0, hs, hlt⟩ := isK_at hk
  refine V.afterRun hV kk hq (fun g p l e R s m args below meth c H locs cells slots ls C hL hR hf1 hf2 => ?_)
  rw [enc_stack]
  refine va_runV (As := vs.map (enc g)) (b := g.1 + a) ⟨C.1, C.2.1, C.2.2.2.1, C.own, C.hts⟩ (hV.met hnr ok1 hlen g l) ⟨callB_of n C.hts (wsM_good ok3) rfl rfl rfl (C.hts _ ok4) (C.hts _ hlink) ok5 (mRoom hdd ok2 C.2.2.2.2.2.2.2.2.2.1 C.2.2.2.2.2.2.2.2.2.2), C.hts _ hi, C.hts _ hsel⟩
    ⟨mPc_blind _ _ _, va_recv C.K (hR.one hs (Nat.lt_trans (vw_N hvw).2 (by decide)) (mEn_obj hs (vw_N hvw).2)) hvw (q0 := 0) rfl, fun U hU hW => ⟨rfl, by rw [hU]; exact hR, C.gx.warm hW⟩⟩ rfl (by rw [List.length_map]; exact hn) hL.1 rfl (lv_room (by rw [enc_cats]; exact hst)) hd ⟨hf1, hf2⟩
theorem V.callS (ok : mOK M2 n) (hi : Cond.static M2.1 ∈ TB) (hlink : Cond.methodLink M.1.cls idx M2.1 ∈ TB)
    (hV : VM M2 d2 r2 h2 h vs) (hnr : okR r2 = true) (hdd : d2 + 1 ≤ d) (hS : vs.reverse ++ st = S) (hst : (st.map fun v => v.category).sum ≤ 8) (hlen : (mArgs vs).length ≤ M2.2.2.1) (hn : vs.length = n) (hd : decode M.2.1 pc = .ok (.invokestatic idx, 3)) (hq : pc + 3 = q) (hS2 : r2.toList ++ st = S2) (kk : V P M d r h' h2 q L S2) : V P M d r h' h pc L S := by
  subst hS2
  subst hS
  obtain ⟨ok1, ok2, ok3, ok4, ok5⟩ := ok
  refine V.afterRun hV kk hq (fun g p l e R s m args below meth c H locs cells slots ls C hL hR hf1 hf2 => ?_)
  rw [enc_stack]
  exact va_runS (As := vs.map (enc g)) ⟨C.1, C.2.1, C.2.2.2.1, C.own, C.hts⟩ (hV.met hnr ok1 hlen g l) ⟨callB_of n C.hts (wsM_good ok3) rfl rfl rfl (C.hts _ ok4) (C.hts _ hlink) ok5 (mRoom hdd ok2 C.2.2.2.2.2.2.2.2.2.1 C.2.2.2.2.2.2.2.2.2.2), C.hts _ hi⟩
    ⟨mPc_blind _ _ _, fun U hU hW => ⟨rfl, by rw [hU]; exact hR, C.gx.warm hW⟩⟩ rfl (by rw [List.length_map]; exact hn) hL.1 rfl (lv_room (by rw [enc_cats]; exact hst)) hd ⟨hf1, hf2⟩
theorem V.callSN {host : String} (ok : mOK M2 n) (hi : Cond.static M2.1 ∈ TB) (hlink : Cond.methodLinkNest M.1.cls idx M2.1 host ∈ nestW)
    (hV : VM M2 d2 r2 h2 h vs) (hnr : okR r2 = true) (hdd : d2 + 1 ≤ d) (hS : vs.reverse ++ st = S) (hst : (st.map fun v => v.category).sum ≤ 8) (hlen : (mArgs vs).length ≤ M2.2.2.1) (hn : vs.length = n) (hd : decode M.2.1 pc = .ok (.invokestatic idx, 3)) (hq : pc + 3 = q) (hS2 : r2.toList ++ st = S2) (kk : V P M d r h' h2 q L S2) : V P M d r h' h pc L S := by
  subst hS2
  subst hS
  obtain ⟨ok1, ok2, ok3, ok4, ok5⟩ := ok
  refine V.afterRun hV kk hq (fun g p l e R s m args below meth c H locs cells slots ls C hL hR hf1 hf2 => ?_)
  rw [enc_stack]
  exact va_runSN (As := vs.map (enc g)) ⟨C.1, C.2.1, C.2.2.2.1, C.own, C.hts⟩ (hV.met hnr ok1 hlen g l) ⟨va_cnB n C.hts (wsM_good ok3) rfl rfl rfl (C.nest _ hlink) (C.hts _ ok4) ok5 (mRoom hdd ok2 C.2.2.2.2.2.2.2.2.2.1 C.2.2.2.2.2.2.2.2.2.2), C.hts _ hi, trivial⟩
    ⟨mPc_blind _ _ _, fun U hU hW => ⟨rfl, by rw [hU]; exact hR, C.gx.warm hW⟩⟩ rfl (by rw [List.length_map]; exact hn) hL.1 rfl (lv_room (by rw [enc_cats]; exact hst)) hd ⟨hf1, hf2⟩
theorem V.callI {a : Nat} (ok : mOK M2 n) (hi : Cond.instanceMethod M2.1 ∈ TB) (hnm : M2.1.name = "<init>" ∧ M2.2.2.2 = none) (hlink : Cond.methodLink M.1.cls idx M2.1 ∈ TB)
    (hV : VM M2 d2 r2 h2 h (.ref a :: vs)) (hnr : okR r2 = true) (hdd : d2 + 1 ≤ d) (hS : vs.reverse ++ .ref a :: st = S) (hst : (st.map fun v => v.category).sum ≤ 8) (hlen : (mArgs (.ref a :: vs)).length ≤ M2.2.2.1) (hn : vs.length = n) (hd : decode M.2.1 pc = .ok (.invokespecial idx, 3)) (hq : pc + 3 = q) (hS2 : r2.toList ++ st = S2) (kk : V P M d r h' h2 q L S2) : V P M d r h' h pc L S := by
  subst hS2
  subst hS
  obtain ⟨ok1, ok2, ok3, ok4, ok5⟩ := ok
  refine V.afterRun hV kk hq (fun g p l e R s m args below meth c H locs cells slots ls C hL hR hf1 hf2 => ?_)
  rw [enc_stack]
  refine va_runI (As := vs.map (enc g)) (b := g.1 + a) ⟨C.1, C.2.1, C.2.2.2.1, C.own, C.hts⟩ (hV.met hnr ok1 hlen g l) ⟨callB_of n C.hts (wsM_good ok3) (by unfold wsM; rw [hnm.2]) rfl rfl (C.hts _ ok4) (C.hts _ hlink) ok5 (mRoom hdd ok2 C.2.2.2.2.2.2.2.2.2.1 C.2.2.2.2.2.2.2.2.2.2), hnm.1, C.hts _ hi⟩
    ⟨mPc_blind _ _ _, fun U hU hW => ⟨rfl, by rw [hU]; exact hR, C.gx.warm hW⟩⟩ rfl (by rw [List.length_map]; exact hn) hL.1 rfl (lv_room (by rw [enc_cats]; exact hst)) hd ⟨hf1, hf2⟩
theorem V.callIN {a : Nat} {host : String} (ok : mOK M2 n) (hi : Cond.instanceMethod M2.1 ∈ TB) (hnm : M2.1.name = "<init>" ∧ M2.2.2.2 = none) (hlink : Cond.methodLinkNest M.1.cls idx M2.1 host ∈ nestW)
    (hV : VM M2 d2 r2 h2 h (.ref a :: vs)) (hnr : okR r2 = true) (hdd : d2 + 1 ≤ d) (hS : vs.reverse ++ .ref a :: st = S) (hst : (st.map fun v => v.category).sum ≤ 8) (hlen : (mArgs (.ref a :: vs)).length ≤ M2.2.2.1) (hn : vs.length = n) (hd : decode M.2.1 pc = .ok (.invokespecial idx, 3)) (hq : pc + 3 = q) (hS2 : r2.toList ++ st = S2) (kk : V P M d r h' h2 q L S2) : V P M d r h' h pc L S := by
  subst hS2
  subst hS
  obtain ⟨ok1, ok2, ok3, ok4, ok5⟩ := ok
  refine V.afterRun hV kk hq (fun g p l e R s m args below meth c H locs cells slots ls C hL hR hf1 hf2 => ?_)
  rw [enc_stack]
  refine va_runIN (As := vs.map (enc g)) (b := g.1 + a) ⟨C.1, C.2.1, C.2.2.2.1, C.own, C.hts⟩ (hV.met hnr ok1 hlen g l) ⟨va_cnB n C.hts (wsM_good ok3) (by unfold wsM; rw [hnm.2]) rfl rfl (C.nest _ hlink) (C.hts _ ok4) ok5 (mRoom hdd ok2 C.2.2.2.2.2.2.2.2.2.1 C.2.2.2.2.2.2.2.2.2.2), hnm.1, C.hts _ hi⟩
    ⟨mPc_blind _ _ _, fun U hU hW => ⟨rfl, by rw [hU]; exact hR, C.gx.warm hW⟩⟩ rfl (by rw [List.length_map]; exact hn) hL.1 rfl (lv_room (by rw [enc_cats]; exact hst)) hd ⟨hf1, hf2⟩
end VCL
