/-! ===== StampViewsLaw.led: returns, or catches ===== -/
def hL_led : List (Nat × Nat × Nat × Nat) := [(0, 9, 12, 13)]
def wsL : List Cond := .codeWith yL_led cL_led 4 (some .int) hL_led :: TB
theorem cwL : Cond.codeWith yL_led cL_led 4 (some .int) hL_led ∈ TB := mT6 60 rfl rfl
theorem stL_led : Cond.static yL_led ∈ TB := mT6 59 rfl rfl
theorem iniL : Cond.initialized RL ∈ TB := mT1 0 rfl rfl
theorem castN : Cond.castable nsee nsee ∈ nestW := of_decide_eq_true (by decide +kernel)
theorem wsL_good : GoodIn TB wsL := fun w hw => by
  rcases List.mem_cons.mp hw with rfl | hw
  · exact ⟨cwL, good_of_word (TB_good cwL)⟩
  · exact ⟨hw, good_of_word (TB_good hw)⟩
def fL_led (h : MH) (a0 : Nat) (x1 : Int32) (a2 : Nat) : Option (Int32 × MH) := bd (ck h a0 11) fun _ => match fX11_led h a0 x1 with
  | some q => bd (tJ q.2 a2 0 q.1.toInt64) fun h2 => some (0, h2)
  | none => bd (fX11_ledx h a0 x1) fun h1 => some (1, nC h1 18 6)
theorem led_met {r : Int32} {h' h : MH} {a0 a2 : Nat} {x1 : Int32} (hle : mLe h h') (g : GE) (l : Launch)
    (hb : ∀ (p : Program) (e : Env) (R : Room) (s : State) (m : MethodId) (args : Array Value) (below : List Frame) (meth : Method) (c : Code) (Q : State → Prop), CX mL_led 9 g p R s m args meth c → c.exceptionTable.toList = tableOf hL_led →
      mLen h' ≤ R.cells + mLen h → mSl h' ≤ R.slots + mSl h → RH mL_led (some (.int r)) h' g p l e R s m args below meth c Q (mLen h) (mSl h) →
      ∀ (H : Heap) (ls : Array Slot), Rep g h H → LR g ls 4 [.ref a0, .int x1, .ref a2, Jk] → W p l e R s m args below meth c H [] 0 0 Q (F0 m 0 ls [])) :
    Met l yL_led wsL (mRm 9 h' h) (mPc g h [.ref a0, .int x1, .ref a2]) (mQc g h' (some (.int r))) (mLen h' - mLen h) (mSl h' - mSl h) (gA g) := by
  refine metH (cc := cL_led) (maxL := 4) (ret := some .int) (hh := hL_led) (by decide +kernel) rfl ?_
  intro p e s m args below meth c s₁ B hml hv
  obtain ⟨rfl, hR, hG⟩ := hv
  rw [lg_entry_eq]
  have ht := vx_table (x := yL_led) B (atoms_spec (ws := wsL) B.pre _ List.mem_cons_self)
  have C : CX mL_led 9 g p (headSpec wsL (mRm 9 h' h)).room s m ([.ref a0, .int x1, .ref a2].map (enc g)).toArray meth c :=
    ⟨B.exec, B.bytes, B.returns, hml, findClass_of_methodNamed B.named, B.notSynchronized, fun hi => by rw [(name_of_methodNamed B.named B.method).1]; exact hi, fun w hw => atoms_spec (ws := wsL) B.pre w (List.mem_cons_of_mem _ hw), hG, Nat.le_refl _, Nat.le_refl _⟩
  refine hb p e _ s m _ below meth c _ C ht (by show mLen h' ≤ mLen h' - mLen h + mLen h; omega) (by show mSl h' ≤ mSl h' - mSl h + mSl h; omega) ⟨?_, fun x hx => by cases hx⟩ s.heap _ hR (LR.entry (M := mL_led) (vs := [.ref a0, .int x1, .ref a2]) g (Nat.le_of_ble_eq_true rfl))
  intro H1 locs1 cells1 slots1 pc1 ls1 hR1 hl1 e1 e2 hok hd
  have e1 : cells1 = mLen h' - mLen h := by have := hle.1; omega
  have e2 : slots1 = mSl h' - mSl h := by have := hle.2; omega
  subst e1; subst e2
  exact W.iret B.exec B.bytes B.returns (fun t ht _ => ⟨rfl, by rw [ht]; exact hR1⟩) hl1 hd B.notSynchronized
theorem led_ret {v : Int32} {h1 h2 h : MH} {a0 a2 : Nat} {x1 : Int32} (hk : ck h a0 11 = some ()) (hf : fX11_led h a0 x1 = some (v, h1)) (ht : tJ h1 a2 0 v.toInt64 = some h2) : VM mL_led 9 (some (.int 0)) h2 h [.ref a0, .int x1, .ref a2] := by
  show V TT mL_led 9 _ h2 h 0 [.ref a0, .int x1, .ref a2, Jk] []
  refine V.aload_n (q := 1) rfl dL_led_0 rfl rfl ?_
  refine V.iconst (q := 2) (v := 0) (by decide) dL_led_1 rfl ?_
  refine V.aload_n (q := 3) rfl dL_led_2 rfl rfl ?_
  refine V.iload_n (q := 4) rfl dL_led_3 rfl rfl ?_
  refine V.callV (q := 7) (ci := 11) (vs := [.int x1]) (st := [.int 0, .ref a2]) (S2 := [.int v, .int 0, .ref a2]) okX11_led imX11_led seX11_led rfl lkL_7 (tX11_led hf) rfl (ck_is hk) (by decide) rfl (Nat.le_of_ble_eq_true rfl) (Nat.le_of_ble_eq_true rfl) rfl dL_led_4 rfl rfl ?_
  refine V.i2l (q := 8) dL_led_7 rfl ?_
  refine V.last (q := 9) ht dL_led_8 rfl ?_
  refine V.goto (q := 15) dL_led_9 (by decide) ?_
  refine V.iconst (q := 16) (v := 0) (by decide) dL_led_15 rfl ?_
  exact V.ret trivial dL_led_16
theorem LR.kept {g : GE} {ls : Array Slot} {a0 a2 : Nat} {x1 : Int32} {w : Value} (h : lv_has ls 4 ((3, w) :: (kn g [.ref a0, .int x1, .ref a2, Jk]).filter (fun q => !(q.1 == 3) && !(q.1 + 1 == 3 && q.2.category == 2)))) : LR g ls 4 [.ref a0, .int x1, .ref a2, Jk] := by
  refine ⟨h.1, h.2.1, fun j v hj hv => ?_⟩
  refine h.2.2 (j, enc g v) (List.mem_cons_of_mem _ (List.mem_filter.mpr ⟨kn_mem.mpr ⟨v, hj, hv, rfl⟩, ?_⟩))
  rcases j with _ | _ | _ | _ | j
  · rfl
  · rfl
  · cases Option.some.inj hj; rfl
  · exact absurd (Option.some.inj hj).symm hv
  · cases hj
set_option maxHeartbeats 4000000 in
theorem led_catch {h1 h : MH} {a0 a2 : Nat} {x1 : Int32} (hk : ck h a0 11 = some ()) (hf : fX11_ledx h a0 x1 = some h1) (g : GE) (l : Launch) (hl : l.stackTraces = false) :
    Met l yL_led wsL (mRm 9 (nC h1 18 6) h) (mPc g h [.ref a0, .int x1, .ref a2]) (mQc g (nC h1 18 6) (some (.int 1))) (mLen (nC h1 18 6) - mLen h) (mSl (nC h1 18 6) - mSl h) (gA g) := by
  have hV := tX11_ledx hf
  have hle0 := hV.1
  have l1 : mLen (nC h1 18 6) = mLen h1 + 1 := nC_len
  have l2 : mSl (nC h1 18 6) = mSl h1 + 6 := nC_sl
  have hle : mLe h (nC h1 18 6) := ⟨by have := hle0.1; omega, by have := hle0.2; omega⟩
  refine led_met hle g l (fun p e R s m args below meth c Q C ht hc hs hr H ls hR hL => ?_)
  refine lv_aload_n C.1 C.2.1 dL_led_0 rfl (hL.2.2 2 _ rfl (by simp)) ?_
  refine lv_iconst C.1 C.2.1 dL_led_1 rfl ?_
  refine lv_aload_n C.1 C.2.1 dL_led_2 rfl (hL.2.2 0 _ rfl (by simp)) ?_
  refine lv_iload_n C.1 C.2.1 dL_led_3 rfl (hL.2.2 1 _ rfl (by simp)) ?_
  obtain ⟨ok1, ok2, ok3, ok4, ok5⟩ := okX11_led
  obtain ⟨n0, hsh, hlt⟩ := isK_at (ck_is hk)
  have hvw : vwCl[11]? = some (yX11_led.cls, _, _) := rfl
  have hrun := vx_runV (cc := cL_led) (H := H) (g := F0 m 4 ls [.int x1, .ref (g.1 + a0), .int 0, .ref (g.1 + a2)]) (rest := [.int 0, .ref (g.1 + a2)]) (As := [.int x1]) (b := g.1 + a0) (locs := []) (cells := 0) (slots := 0) ⟨C.1, C.2.1, C.2.2.2.1, C.own, C.hts⟩ (led_vx hf g l hl)
    ⟨callB_of 1 C.hts (wsM_good ok3) rfl rfl rfl (C.hts _ ok4) (C.hts _ lkL_7) ok5 (mRoom (M2 := mX11_led) (d2 := 8) (d := 9) (by decide) ok2 C.2.2.2.2.2.2.2.2.2.1 C.2.2.2.2.2.2.2.2.2.2), C.hts _ imX11_led, C.hts _ seX11_led⟩
    ⟨mPc_blind _ _ _, va_recv C.K (hR.one hsh (Nat.lt_trans (vw_N hvw).2 (by decide)) (mEn_obj hsh (vw_N hvw).2)) hvw (q0 := 0) rfl, fun U hU hW => ⟨rfl, by rw [hU]; exact hR, C.gx.warm hW⟩⟩ rfl rfl hL.1 rfl (lv_room (by show 1 + (1 + 0) ≤ 8; decide)) dL_led_4 ⟨by omega, by omega⟩ (e := e) (below := below) (meth := meth)
  intro T hT X
  rcases hrun T hT X with ⟨v, st₀, t, T', L, q1, q2, q3, q4, q5, q6, q7⟩ | ⟨q, st₀, t, T', L, E, ce, q1, q2, q3, q4, q5, ⟨rfl, q6⟩, q7, q8, q9, q10⟩
  · exact q6.elim
  · have hcat := mx_catch (l := l) (Q := Q) (rest := [.int 0, .ref (g.1 + a2)]) (ls := ls) (pc := 4) (own := RL) (name := nsee) (E := nsee) (q := q) (ce := ce) (H := T'.heap) C.own ⟨0, 9, 12, 13⟩ ht rfl (by decide) (C.hts _ clL_13) (va_Nw.use (nestW_tab castN) (C.nest _ castN)) (by rw [q4]; exact q7) q8 q9 (locs := [] ++ L) (cells := 0 + (mLen (nC h1 18 6) - mLen h)) (slots := 0 + (mSl (nC h1 18 6) - mSl h)) (p := p) (R := R) (args := args) (below := below) (meth := meth) (e := e) (s := s) (m := m) (c := c) ?_
    · obtain ⟨tt, a1, b1⟩ := hcat T' rfl q2
      exact ⟨tt, q10.trans a1, b1⟩
    · refine lv_astore_n C.1 C.2.1 dL_led_12 rfl hL.has (by decide) rfl (fun ls' h2 => ?_)
      have hL2 := LR.kept h2
      refine lv_iconst C.1 C.2.1 dL_led_13 rfl ?_
      exact hr.1 T'.heap _ _ _ 14 ls' (by rw [q4]; exact q6) (fun z hz => q3 z (by simpa using hz)) (by have := hle.1; omega) (by have := hle.2; omega) trivial dL_led_14
theorem fL_led_le {r : Int32} {h2 h : MH} {a0 a2 : Nat} {x1 : Int32} (hf : fL_led h a0 x1 a2 = some (r, h2)) : mLe h h2 := by
  obtain ⟨⟨⟩, e1, hf⟩ := bd_ex hf
  cases e2 : fX11_led h a0 x1 with
  | some q =>
    rw [e2] at hf
    obtain ⟨h3, e3, hf⟩ := bd_ex hf
    cases hf
    exact (led_ret (v := q.1) (h1 := q.2) e1 e2 e3).1
  | none =>
    rw [e2] at hf
    obtain ⟨h3, e3, hf⟩ := bd_ex hf
    cases hf
    have l1 : mLen (nC h3 18 6) = mLen h3 + 1 := nC_len
    have l2 : mSl (nC h3 18 6) = mSl h3 + 6 := nC_sl
    have := (tX11_ledx e3).1.1
    have := (tX11_ledx e3).1.2
    exact ⟨by omega, by omega⟩
theorem fL_led_met {r : Int32} {h2 h : MH} {a0 a2 : Nat} {x1 : Int32} (hf : fL_led h a0 x1 a2 = some (r, h2)) (g : GE) (l : Launch) (hl : l.stackTraces = false) :
    mLe h h2 ∧ Met l yL_led wsL (mRm 9 h2 h) (mPc g h [.ref a0, .int x1, .ref a2]) (mQc g h2 (some (.int r))) (mLen h2 - mLen h) (mSl h2 - mSl h) (gA g) := by
  obtain ⟨⟨⟩, e1, hf⟩ := bd_ex hf
  cases e2 : fX11_led h a0 x1 with
  | some q =>
    rw [e2] at hf
    obtain ⟨h3, e3, hf⟩ := bd_ex hf
    cases hf
    have hV := led_ret (v := q.1) (h1 := q.2) e1 e2 e3
    exact ⟨hV.1, led_met hV.1 g l (fun p e R s m args below meth c Q C ht hc hs hr H ls hR hL => hV.2 g p l e R s m args below meth c Q (mLen h) (mSl h) trivial C hc hs hr H [] 0 0 ls (Nat.zero_add _) (Nat.zero_add _) hR (fun q hq => by cases hq) hL)⟩
  | none =>
    rw [e2] at hf
    obtain ⟨h3, e3, hf⟩ := bd_ex hf
    cases hf
    have l1 : mLen (nC h3 18 6) = mLen h3 + 1 := nC_len
    have l2 : mSl (nC h3 18 6) = mSl h3 + 6 := nC_sl
    have := (tX11_ledx e3).1.1
    have := (tX11_ledx e3).1.2
    exact ⟨⟨by omega, by omega⟩, led_catch e1 e3 g l hl⟩
theorem V.callLed {P : GE → Launch → Prop} (hP : ∀ g l, P g l → l.stackTraces = false) {M : MD} {d : Nat} {r : Option Value} {h' h h2 : MH} {pc q : Nat} {L st S S2 : List Value} {a0 a2 : Nat} {x1 v : Int32} (hM : M.1.cls = RL)
    (hf : fL_led h a0 x1 a2 = some (v, h2)) (hdd : 10 ≤ d) (hS : .ref a2 :: .int x1 :: .ref a0 :: st = S) (hst : (st.map fun v => v.category).sum ≤ 8) (hd : decode M.2.1 pc = .ok (.invokestatic 227, 3)) (hq : pc + 3 = q) (hS2 : .int v :: st = S2) (kk : V P M d r h' h2 q L S2) : V P M d r h' h pc L S := by
  subst hq
  subst hS
  subst hS2
  have l1 := fL_led_le hf
  have l2 := kk.1
  refine ⟨l1.trans l2, fun g p l e R s m args below meth c Q o1 o2 hPg C hc hs hr H locs cells slots ls f1 f2 hR hl hL => ?_⟩
  have hmet := (fL_led_met hf g l (hP g l hPg)).2
  have hrun := vx_runSW (H := H) (locs := locs) (cells := cells) (slots := slots) (e := e) (below := below) (meth := meth) (As := [.ref (g.1 + a0), .int x1, .ref (g.1 + a2)]) (rest := st.map (enc g)) (g := F0 m pc ls (.ref (g.1 + a2) :: .int x1 :: .ref (g.1 + a0) :: st.map (enc g))) ⟨C.1, C.2.1, C.2.2.2.1, C.own, C.hts⟩ hmet
    (vx_cwSW 3 C.hts (fun w hw => by
      unfold va_wsS at hw
      rcases List.mem_append.mp hw with hw | hw
      · have h9 : w ∈ TB := by
          rw [hM] at hw
          simp only [List.mem_cons, List.not_mem_nil, or_false] at hw
          rcases hw with rfl | rfl | rfl
          · exact lkL_227
          · exact stL_led
          · exact iniL
        exact ⟨h9, good_of_word (TB_good h9)⟩
      · exact wsL_good w hw) rfl rfl rfl (by decide +kernel) ⟨by show 9 + 1 ≤ _; exact Nat.le_trans hdd C.2.2.2.2.2.2.2.2.2.1, by show 8 + (4 + 11) + 40 * 9 ≤ _; have := C.2.2.2.2.2.2.2.2.2.2; omega⟩)
    ⟨mPc_blind _ _ _, fun U hU hW => ⟨rfl, by rw [hU]; exact hR, C.gx.warm hW⟩⟩ rfl rfl hL.1 rfl (lv_room (by rw [enc_cats]; exact hst)) hd ⟨by have := l1.1; have := l2.1; omega, by have := l1.2; have := l2.2; omega⟩
  intro T hT X
  obtain ⟨w, st₀, t, T', Lx, h0, X', hLx, eh, evm, ⟨eo, hR2⟩, go⟩ := hrun T hT X
  have ev : w = some (.int v) := Outcome.returned.inj eo
  subst ev
  have w := kk.2 g p l e R s m args below meth c Q o1 o2 hPg C hc hs hr T'.heap (locs ++ Lx) (cells + (mLen h2 - mLen h)) (slots + (mSl h2 - mSl h)) ls (by have := l1.1; omega) (by have := l1.2; omega) (by rw [eh]; exact hR2)
    (fun x hx => by rcases List.mem_append.mp hx with hx | hx; exact hl x hx; exact hLx x hx) hL
  obtain ⟨tt, a1, b1⟩ := w T' rfl X'
  exact ⟨tt, go tt a1, b1⟩
