/-! ===== led: a throw that leaves the class, and its catch in the law (mx_throwSW: vx_throwSW with the heap's size told) ===== -/
section MXT
variable {p : Program} {l : Launch} {e : Env} {R : Room} {s : State} {m : MethodId} {args : Array Value} {below : List Frame} {meth : Method} {c : Code} {H : Heap} {locs : List Loc} {cells slots : Nat} {Q : State → Prop}
variable {mc ms : Nat} {free : Addr → Prop} {A0 A1 : Nat → Prop} {H0 : Heap} {a : Array Value} {ls : Array Slot} {st0 rest : List Value}
variable {Qc : Array Value → State → Outcome → State → Prop} {XC : String → State → State → Prop}
theorem mx_throwSW {cc : ByteArray} {pc : Nat} (hexec : p.tables.exec = Jvm.exec) (hb : c.code = cc) (hl : l.stackTraces = false) {own cls text : String} {names : List String} {ik is ic mc ms sa : Nat} {A : Nat → Prop}
    (hown : s.vm.findClass own = some m.cls) (hcls : Bundle.fit cls = true) (hnames : ∀ n ∈ names, Bundle.fit n = true)
    (hk : (Cond.classLink own ik cls).before args s = true) (hini : (Cond.initialized cls).before args s = true) (hstr : vk_R own is text sa s) (hat : ∀ w ∈ vx_atS own ic cls names, w.before args s = true)
    (hgood : ∀ w ∈ Cond.classLink own ik cls :: Cond.initialized cls :: vx_atS own ic cls names, vx_ot w = true)
    (hU : vx_Zq Bundle.tN "UNASSIGNED_STACK" Bundle.steD A s s.heap) (hN : vx_Zq Bundle.tN "SUPPRESSED_SENTINEL" Bundle.listD A s s.heap) (hS : va_S A s.heap H locs) (hsize : ls.size = c.maxLocals)
    (d0 : decode cc pc = .ok (.new ik, 3)) (d3 : decode cc (pc + 3) = .ok (.dup, 1)) (d4 : decode cc (pc + 4) = .ok (.ldc_w is, 3)) (d7 : decode cc (pc + 7) = .ok (.invokespecial ic, 3)) (d10 : decode cc (pc + 10) = .ok (.athrow, 1))
    (hout : ∀ x ∈ c.exceptionTable.toList, covers x (pc + 10) = false)
    (hRframes : names.length + 3 < R.frames) (hRlocals : (rest.map fun v => v.category).sum + (13 * (names.length + 1) + 43) ≤ R.locals) (hRcells : cells + 1 ≤ R.cells) (hRslots : slots + 6 ≤ R.slots) (hlocks : meth.locks = false)
    (hx : ∀ t : State, t.heap.size = H.size + 1 → (∀ q : Nat, q < H.size → t.heap[q]? = H[q]?) → XC cls s t)
    (hf : ∀ z ∈ locs, free z.base) (hc : cells + 1 ≤ mc) (hs : slots + 6 ≤ ms) :
    W p l e R s m args below meth c H locs cells slots (vx_MQ below Qc XC args s mc ms free) (F0 m pc ls rest) := by
  intro T hT X
  have htr : e.platform.stackTraces = false := (show e.platform.stackTraces = l.stackTraces by rw [X.admits.platform]).trans hl
  have Y := vx_rebase X (R' := { frames := R.frames, locals := R.locals, cells := 1, slots := 6 }) (Nat.le_refl _) (Nat.le_refl _) hRcells hRslots
  obtain ⟨s', hA⟩ : ∃ z, z = (T.setVm s.vm).setFrames (.invoking m args :: below) := ⟨_, rfl⟩
  rw [← hA] at Y
  have hvm : s'.vm = s.vm := by rw [hA]; rfl
  have hhp : s'.heap = H := by rw [hA]; exact hT
  have hW0 : s.WarmedH s'.vm := by rw [hvm]; exact State.WarmedH.refl s
  have hat' : ∀ w ∈ vx_atS own ic cls names, w.before args s' = true := fun w hw => vx_ot_at hW0 hvm.symm (hgood w (List.mem_cons_of_mem _ (List.mem_cons_of_mem _ hw))) (hat w hw)
  have hk' : (Cond.classLink own ik cls).before args s' = true := vx_ot_at hW0 hvm.symm (hgood _ List.mem_cons_self) hk
  have hini' : (Cond.initialized cls).before args s' = true := vx_ot_at hW0 hvm.symm (hgood _ (List.mem_cons_of_mem _ List.mem_cons_self)) hini
  have hU' : vx_Zq Bundle.tN "UNASSIGNED_STACK" Bundle.steD A s' s'.heap := by rw [hhp]; exact vx_Zq.moved hW0.alike (hU.kept hS.2.1)
  have hN' : vx_Zq Bundle.tN "SUPPRESSED_SENTINEL" Bundle.listD A s' s'.heap := by rw [hhp]; exact vx_Zq.moved hW0.alike (hN.kept hS.2.1)
  have h : ∀ w ∈ Bundle.ownAtoms own ic cls names, w.before args s' = true := vx_own hat' (vx_isRefq hU'.1) (vx_isRefq hN'.1) hU'.2.word hN'.2.word
  have hown' : s'.vm.findClass own = some m.cls := by rw [hvm]; exact hown
  have hins : (Cond.instantiable cls 6).before args s' = true := h _ (by simp [Bundle.ownAtoms])
  obtain ⟨vm₁, cX, kX, hfX, hkX, -, -, X₁, st1⟩ := Y.newCold hexec (own := own) (C := cls) (index := ik) (n := 6) hown' hk' hins hini'
    (g := F0 m pc ls rest) rfl (by rw [hb]; exact d0) (Nat.le_refl _) (Nat.le_refl _)
  generalize hT1 : (T.setVm vm₁).pushCell { cls := cX, slots := kX.instanceTypes.map defaultValue, vm := .none } = T1 at X₁ st1
  have hcat : (Value.ref T.heap.size).category = 1 := rfl
  have hcellA : T1.heap[T.heap.size]? = some (freshCell cX kX) := by rw [← hT1]; exact State.heap_pushCell_size _ _
  have d3' : decode c.code (pc + 3) = .ok (.dup, 1) := by rw [hb]; exact d3
  have d4' : decode c.code (pc + 4) = .ok (.ldc_w is, 3) := by rw [hb]; exact d4
  have hstr' : vk_R own is text sa s' := vk_R.warm hW0 hstr
  obtain ⟨U, hsteps, hrun, hend, hW, hsame, ce, hce, hO⟩ := X₁.ctorThrowS hexec htr (own := own) (cls := cls) (names := names) (ic := ic) hown' hcls hnames h (fun x hx => nomatch hx) hfX hkX hcellA (by rw [hhp, hT]; exact Nat.le_refl _) (msg := .ref sa) rfl
    (g := { method := m, pc := pc + 7, locals := ls, stack := .ref sa :: .ref T.heap.size :: .ref T.heap.size :: rest, locked := none }) rfl hsize rfl rfl (rest := rest) rfl
    (by rw [hb]; exact d7) (by rw [hb]; exact d10) hout hRframes (by simp only [List.map_cons, List.sum_cons, hcat]; omega) hlocks
  have hsz : U.heap.size = H.size + 1 := by
    have h1 := (Array.getElem?_eq_some_iff.mp hce).1
    have h2 : U.heap.size ≤ s'.heap.size + (0 + 1) := hsame.2.2.1
    rw [hT] at h1
    rw [hhp] at h2
    omega
  obtain ⟨f1, f2⟩ := vx_frame hsame
  rw [hhp] at f1 f2
  have hWs : s.WarmedH U.vm := State.WarmedH.trans hW0 hW
  have hcl : s.vm.findClass cls = some ce.cls := by
    have h9 := hO.cls
    rw [hvm] at h9
    exact h9
  have hall : s.sameButNew ({ U with vm := s.vm } : State) locs mc ms := by
    subst hA
    obtain ⟨e1, e2⟩ := hsame
    rw [State.setFrames_setFrames] at e1
    have h2 : (T.setVm s.vm).sameButNew ({ U with vm := s.vm } : State) [] (0 + 1) (0 + 6) := ⟨e1, e2⟩
    have h3 := X.same.trans h2
    rw [List.append_nil] at h3
    exact h3.mono hc hs
  refine ⟨U, ?_, .threw T.heap.size, hrun, hend, Or.inr ⟨T.heap.size, rfl, cls, ce, locs, hx U hsz (fun q hq => f2 q hq (fun z hz => nomatch hz)), hce, hO.vm, hcl, hWs, hall, hf⟩⟩
  refine st1 _ ?_
  show Steps p.tables e below (T1.setTop { method := m, pc := pc + 3, locals := ls, stack := .ref T.heap.size :: rest, locked := none }) _
  jvm_step X₁.here [X₁.here.top, hexec, d3', Value.category]
  exact X₁.ldcStringW hexec (own := own) (text := text) (index := is) (a := sa) hown' hstr'.1 hstr'.2
    (g := { method := m, pc := pc + 4, locals := ls, stack := .ref T.heap.size :: .ref T.heap.size :: rest, locked := none }) rfl d4' _ hsteps
end MXT

section MXC
variable {p : Program} {l : Launch} {e : Env} {R : Room} {s : State} {m : MethodId} {args : Array Value} {below : List Frame} {meth : Method} {c : Code} {H : Heap} {locs : List Loc} {cells slots : Nat} {Q : State → Prop} {ls : Array Slot} {rest : List Value} {pc : Nat}
/-- the one row of the table takes it; her class may be met here for the first time -/
theorem mx_catch {own name E : String} {ce : Cell} {q : Addr} (hown : s.vm.findClass own = some m.cls) (x : ExceptionTableEntry) (htab : c.exceptionTable.toList = [x]) (hx : covers x pc = true) (h0 : x.catchType ≠ 0)
    (hlink : (Cond.classLink own x.catchType name).before args s = true) (hcast : (Cond.castable E name).before args s = true) (hcell : H[q]? = some ce) (hv : ce.vm = .none) (hcl : s.vm.findClass E = some ce.cls)
    (kk : W p l e R s m args below meth c H locs cells slots Q (F0 m x.handlerPc ls [.ref q])) : vx_W p l e R s m args below meth c H locs cells slots Q (F0 m pc ls rest) q := by
  intro T hT X
  have hpl : e.platform.magicAccessors = ({} : Platform).magicAccessors := by rw [X.admits.platform]
  obtain ⟨c3, c4, hc3, hc4, hasg⟩ := Cond.castable_spec hcast
  cases Option.some.inj (hc3.symm.trans hcl)
  obtain ⟨c5, hc5, hcl5⟩ := Cond.classLink_spec hown hlink e.platform hpl
  cases Option.some.inj (hc4.symm.trans hc5)
  obtain ⟨dk, _, _, kt, hd, _, _, _, _, hkt, _, hopn⟩ := hcl5.here
  have hW' := X.warmed.noted hd hopn (State.rightAt_cls hcl5)
  have hl' := X.warmed.classLinks hcl5
  obtain ⟨k9, h9, -⟩ := Vm.findClass_spec hcl
  obtain ⟨g1, hg1, -⟩ := X.warmed.alike.2.2 _ _ h9
  obtain ⟨g2, hg2, -⟩ := X.warmed.alike.2.2 _ _ hkt
  have hal : T.vm.Alike (T.vm.noted m.cls x.catchType (.cls c4)) := (Vm.Alike.refl T.vm).noted _ _ _
  obtain ⟨g1', hg1', -⟩ := hal.2.2 _ _ hg1
  obtain ⟨g2', hg2', -⟩ := hal.2.2 _ _ hg2
  have hfit : (T.vm.noted m.cls x.catchType (.cls c4)).assignable ce.cls c4 = true := by rw [hal.assignable, X.warmed.alike.assignable]; exact hasg
  have hS : ((T.setTop (F0 m pc ls rest)).pushFrame (.throwing q)).vm = T.vm := Stand.throwing_vm _ _ _
  have hSh : ((T.setTop (F0 m pc ls rest)).pushFrame (.throwing q)).heap = T.heap := Stand.throwing_heap _ _ _
  have hm' : T.vm.method? m = some meth := X.method'
  have hobj : ∀ k, ce.vm ≠ .statics k := fun k hk => by rw [hv] at hk; cases hk
  have hcell' : T.heap[q]? = some ce := by rw [hT]; exact hcell
  generalize hSe : (T.setTop (F0 m pc ls rest)).pushFrame (.throwing q) = S at hS hSh
  have hfind : ∀ (Q0 : Handler → Pre) (E0 : CtlPost) (d : Bool) (acts : List Action), wp (findHandler (F0 m pc ls rest) q) Q0 E0 e d acts S ↔ Q0 (.found x.handlerPc) d acts (S.setVm (T.vm.noted m.cls x.catchType (.cls c4))) := by
    intro Q0 E0 d acts
    rw [W.findHandler_eq (meth := meth) (code := c) (by rw [hS]; exact hm') X.code, htab]
    have hl2 : S.vm.ClassLinks e.platform m.cls x.catchType c4 := by rw [hS]; exact hl'
    obtain ⟨ha, ht⟩ := (resolveClass_links e.toSetting hl2).op (op := VmOp.resolveClass m.cls x.catchType) rfl
    rw [hS] at ha ht
    have hx2 := hx
    simp only [covers] at hx2
    simp [findHandler.go, hx2, h0, ha, ht, hS, hSh, hcell', hobj, hg1', hg2', hfit, VmOp.dirties, VmOp.acts]
  obtain ⟨t, a1, b1⟩ := kk (T.setVm (T.vm.noted m.cls x.catchType (.cls c4))) hT (X.noted hW')
  refine ⟨t, ?_, b1⟩
  obtain ⟨hgo, hw⟩ := X.here.throwing (g := F0 m pc ls rest) q
  have hst : (stepThrowing e S q (.java (F0 m pc ls rest) :: T.frames.tail)).Is ((S.setVm (T.vm.noted m.cls x.catchType (.cls c4))).setFrames (.java { F0 m pc ls rest with pc := x.handlerPc, stack := [.ref q] } :: T.frames.tail)) [] := by
    simp only [stepThrowing, searchFrame, vmDo]
    generalize hr : Sem.go _ e false [] S = res
    obtain ⟨as, rfl, ha⟩ := Sem.eq_ok_of hr (a := Handler.found x.handlerPc) (s' := S.setVm (T.vm.noted m.cls x.catchType (.cls c4))) (acts' := []) (by simp [hfind _ _ _ _])
    exact ⟨rfl, ha⟩
  rw [← hSe]
  refine Steps.head hgo hw ?_
  rw [stepThread_throwing (frames_entered X.here.top _), hSe, hst.1]
  obtain ⟨g₀, hg⟩ := Option.isSome_iff_exists.mp X.here.top
  obtain ⟨r, hr⟩ := State.topJava?_eq_some.mp hg
  have hr' : (T.setVm (T.vm.noted m.cls x.catchType (.cls c4))).frames = .java g₀ :: r := hr
  rw [State.setTop_of_frames _ hr'] at a1
  have e9 : (S.setVm (T.vm.noted m.cls x.catchType (.cls c4))).setFrames (.java { F0 m pc ls rest with pc := x.handlerPc, stack := [.ref q] } :: T.frames.tail) = (T.setVm (T.vm.noted m.cls x.catchType (.cls c4))).setFrames (.java (F0 m x.handlerPc ls [.ref q]) :: r) := by
    rw [← hSe, hr, List.tail_cons, State.pushFrame, State.setTop_of_frames _ hr, State.setFrames_setFrames]
    exact State.setFrames_setFrames (T.setVm (T.vm.noted m.cls x.catchType (.cls c4))) _ _
  rw [e9]
  exact a1
end MXC
