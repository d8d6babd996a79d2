/-! ===== new int[n][k] ===== -/
section MNA
def mnO (c : ClassId) (N h0 i : Nat) : Cell := arrV c N (fun j => va_rf (if j < i then some (h0 + 1 + j) else none))
def mnI (c : ClassId) (K : Nat) : Cell := arrV c K (fun _ => .int 0)
def mnS (S : State) (cA cC : ClassId) (N K : Nat) : Nat → State
  | 0 => S.pushCell (mnO cA N S.heap.size 0)
  | i + 1 => ((mnS S cA cC N K i).pushCell (mnI cC K)).setCell S.heap.size (mnO cA N S.heap.size (i + 1))
theorem mnO_set (c : ClassId) (N h0 i : Nat) : (mnO c N h0 i).setSlot i (.ref (h0 + 1 + i)) = mnO c N h0 (i + 1) := by
  unfold mnO
  rw [arrV_store]
  refine congrArg (arrV c N) (funext fun j => ?_)
  by_cases e : j = i
  · subst e; simp [updV, va_rf]
  · by_cases h : j < i
    · simp [updV, e, h, Nat.lt_succ_of_lt h]
    · simp [updV, e, h, show ¬ j < i + 1 by omega]
theorem mnO_size (c : ClassId) (N h0 i : Nat) : (mnO c N h0 i).slots.size = N := arrV_size _ _ _
theorem mnI_size (c : ClassId) (K : Nat) : (mnI c K).slots.size = K := arrV_size _ _ _
theorem mnS_facts (S : State) (cA cC : ClassId) (N K : Nat) : ∀ i, (mnS S cA cC N K i).heap.size = S.heap.size + 1 + i ∧ (mnS S cA cC N K i).heap[S.heap.size]? = some (mnO cA N S.heap.size i) ∧ (mnS S cA cC N K i).vm = S.vm ∧ (mnS S cA cC N K i).slotsUsed = S.slotsUsed + N + i * K ∧
    (∀ a, a < S.heap.size → (mnS S cA cC N K i).heap[a]? = S.heap[a]?) ∧ ∀ j, j < i → (mnS S cA cC N K i).heap[S.heap.size + 1 + j]? = some (mnI cC K)
  | 0 => ⟨by simp [mnS], by simp [mnS], rfl, by simp [mnS, mnO_size], fun a ha => State.heap_pushCell_of_lt _ _ ha, fun j h => absurd h (Nat.not_lt_zero _)⟩
  | i + 1 => by
    obtain ⟨a1, a2, a3, a4, a5, a6⟩ := mnS_facts S cA cC N K i
    have hlt : S.heap.size < (mnS S cA cC N K i).heap.size := by omega
    have hb : ((mnS S cA cC N K i).pushCell (mnI cC K)).heap[S.heap.size]? = some (mnO cA N S.heap.size i) := by rw [State.heap_pushCell_of_lt (h := hlt)]; exact a2
    refine ⟨?_, State.heap_setCell_self hb, by simp [mnS, a3], ?_, fun a ha => ?_, fun j hj => ?_⟩
    · simp [mnS, State.setCell, a1]; omega
    · simp [mnS, a4, mnI_size, Nat.succ_mul]; omega
    · show (((mnS S cA cC N K i).pushCell (mnI cC K)).setCell S.heap.size _).heap[a]? = _
      rw [State.heap_setCell_other (Nat.ne_of_gt ha), State.heap_pushCell_of_lt (h := Nat.lt_trans ha hlt)]
      exact a5 a ha
    · show (((mnS S cA cC N K i).pushCell (mnI cC K)).setCell S.heap.size _).heap[S.heap.size + 1 + j]? = _
      rw [State.heap_setCell_other (show S.heap.size ≠ S.heap.size + 1 + j by omega)]
      by_cases e : j = i
      · subst e
        rw [← a1]
        exact State.heap_pushCell_size _ _
      · rw [State.heap_pushCell_of_lt _ _ (show S.heap.size + 1 + j < (mnS S cA cC N K i).heap.size by rw [a1]; omega)]
        exact a6 j (by omega)
theorem mnS_top (S : State) (f : JFrame) (cA cC : ClassId) (N K : Nat) : ∀ i, mnS (S.setTop f) cA cC N K i = (mnS S cA cC N K i).setTop f
  | 0 => rfl
  | i + 1 => by simp only [mnS, mnS_top S f cA cC N K i, State.heap_setTop, State.pushCell_setTop, State.setCell_setTop]
theorem mn_fitR {t : FieldType} (h : t.isReference = true) (o : Option Nat) : fits t (va_rf o) = true := by
  cases o <;> cases t <;> simp [FieldType.isReference] at h <;> rfl
variable {e : Env} {d : Bool} {acts : List Action} {s : State} {E : CtlPost}
/-- one row -/
theorem mn_row {cC cc : ClassId} {kC : Class} {k : Int32} (hk : s.vm.classes[cC]? = some kC) (hkind : kC.kind = .array cc .int) (hm : ¬ k < 0) (hl : ¬ k.toNatClampNeg > e.platform.arrayLengthLimit) (hh : ¬ k.toNatClampNeg * componentBytes .int > e.platform.maxHeapBytes)
    (h1 : s.heap.size < e.platform.maxCells) (h2 : s.slotsUsed + k.toNatClampNeg ≤ e.platform.maxSlots) {Q : Addr → Pre} (hq : ∀ acts', Q s.heap.size d acts' (s.pushCell (mnI cC k.toNatClampNeg))) : wp (Op.multianewarray.make cC [k]) Q E e d acts s := by
  rw [Op.multianewarray.make]
  simp only [wp_bind', W.ite, hm, if_false, wp_pure', W.theClass, hk, hkind, Option.some.injEq, exists_eq_left']
  refine W.newArray_of hk hkind hl hh h1 h2 rfl (fun acts' => ?_)
  have q := hq acts'
  unfold mnI at q
  rw [← arrV_new] at q
  exact q
/-- all of it -/
theorem mn_all {cA cC cc : ClassId} {kA kC : Class} {n k : Int32} (hkA : s.vm.classes[cA]? = some kA) (hkindA : kA.kind = .array cC (.array .int)) (hkC : s.vm.classes[cC]? = some kC) (hkindC : kC.kind = .array cc .int) (hn : ¬ n < 0) (hm : ¬ k < 0)
    (hl1 : ¬ n.toNatClampNeg > e.platform.arrayLengthLimit) (hh1 : ¬ n.toNatClampNeg * componentBytes (.array .int) > e.platform.maxHeapBytes) (hl2 : ¬ k.toNatClampNeg > e.platform.arrayLengthLimit) (hh2 : ¬ k.toNatClampNeg * componentBytes .int > e.platform.maxHeapBytes)
    (hc : s.heap.size + 1 + n.toNatClampNeg ≤ e.platform.maxCells) (hs : s.slotsUsed + n.toNatClampNeg + n.toNatClampNeg * k.toNatClampNeg ≤ e.platform.maxSlots)
    {Q : Addr → Pre} (hq : ∀ d' acts', Q s.heap.size d' acts' (mnS s cA cC n.toNatClampNeg k.toNatClampNeg n.toNatClampNeg)) : wp (Op.multianewarray.make cA [n, k]) Q E e d acts s := by
  have hfind : ([k].find? (· < 0)) = none := by simp [hm]
  rw [Op.multianewarray.make]
  simp only [wp_bind', W.ite, hn, if_false, wp_pure', W.theClass, hkA, hkindA, Option.some.injEq, exists_eq_left']
  have hz := Nat.zero_le (n.toNatClampNeg * k.toNatClampNeg)
  refine W.newArray_of hkA hkindA hl1 hh1 (by omega) (by omega) rfl (fun acts1 => ?_)
  have e0 : (s.pushCell { cls := cA, slots := Array.replicate n.toNatClampNeg .null } : State) = mnS s cA cC n.toNatClampNeg k.toNatClampNeg 0 := by
    show _ = s.pushCell (mnO cA n.toNatClampNeg s.heap.size 0)
    congr 1
    unfold mnO
    rw [show ({ cls := cA, slots := Array.replicate n.toNatClampNeg .null } : Cell) = arrV cA n.toNatClampNeg (fun _ => .null) from arrV_new _ _ _]
    refine congrArg (arrV cA _) (funext fun j => ?_)
    simp [va_rf]
  rw [e0]
  simp only [hfind]
  rw [ite_self, wp_bind', Std.Legacy.Range.forIn_eq_forIn_range']
  have hsz : ([:n.toNatClampNeg] : Std.Legacy.Range).size = n.toNatClampNeg := by simp [Std.Legacy.Range.size]
  rw [hsz]
  show wp (forIn (List.range' 0 n.toNatClampNeg 1) PUnit.unit _) _ E e d acts1 _
  generalize hNe : n.toNatClampNeg = N at *
  generalize hKe : k.toNatClampNeg = K at *
  refine wp_forIn_inv (fun rest s' => ∃ i, i ≤ N ∧ rest = List.range' i (N - i) ∧ s' = mnS s cA cC N K i) _ _ ⟨0, Nat.zero_le _, rfl, rfl⟩ ?_ ?_
  · rintro x rest s' d' acts' Q' ⟨i, hi, hl, rfl⟩ hnext
    by_cases hlt : i < N
    · rw [show N - i = (N - (i + 1)) + 1 from by omega, List.range'_succ] at hl
      obtain ⟨rfl, hrest⟩ := List.cons.inj hl
      obtain ⟨f1, f2, f3, f4, -, -⟩ := mnS_facts s cA cC N K x
      have hmul : x * K + K ≤ N * K := by
        have := Nat.mul_le_mul_right K (show x + 1 ≤ N from hlt)
        rw [Nat.succ_mul] at this; exact this
      simp only [wp_bind']
      refine mn_row (kC := kC) (cc := cc) (by rw [f3]; exact hkC) hkindC hm (by rw [hKe]; exact hl2) (by rw [hKe]; exact hh2) (by rw [f1]; omega) (by rw [f4, hKe]; omega) (fun acts2 => ?_)
      rw [hKe]
      have hlt0 : s.heap.size < (mnS s cA cC N K x).heap.size := by rw [f1]; omega
      simp only [wp_bind', W.writeLoc, wp_pure']
      refine ⟨mnO cA N s.heap.size x, by rw [State.heap_pushCell_of_lt (h := hlt0)]; exact f2, (fun q => by cases q), by rw [mnO_size]; exact hlt, ?_, hnext _ _ _ ⟨x + 1, hlt, hrest, ?_⟩⟩
      · show ((mnS s cA cC N K x).pushCell (mnI cC K)).fitsSlot cA .none x (.ref (mnS s cA cC N K x).heap.size) = true
        simp [State.fitsSlot, State.slotType?, f3, hkA, hkindA]
        rfl
      · rw [f1, mnO_set]; rfl
    · rw [show N - i = 0 from by omega] at hl; simp at hl
  · rintro s' d' acts' ⟨i, hi, hl, rfl⟩
    have hiN : i = N := by
      by_cases h : i < N
      · rw [show N - i = (N - (i + 1)) + 1 from by omega, List.range'_succ] at hl; cases hl
      · omega
    subst hiN
    simp only [wp_pure']
    exact hq _ _
end MNA
section MNS
variable {p : Program} {l : Launch} {e : Env} {R : Room} {s : State} {m : MethodId} {args : Array Value} {below : List Frame} {meth : Method} {c : Code} {T : State} {locs : List Loc} {cells slots : Nat}
theorem mn_stand (X : Stand p l e R s m args below meth c T locs cells slots) (cA cC : ClassId) (N K : Nat) :
    ∀ i, ∃ J : List Loc, (∀ q ∈ J, T.heap.size ≤ q.base) ∧ Stand p l e R s m args below meth c (mnS T cA cC N K i) (locs ++ J) (cells + 1 + i) (slots + N + i * K)
  | 0 => by
    have h := X.pushed (mnO cA N T.heap.size 0)
    rw [mnO_size] at h
    exact ⟨[], fun q hq => (by cases hq), by simpa [mnS] using h⟩
  | i + 1 => by
    obtain ⟨J, hJ, Xi⟩ := mn_stand X cA cC N K i
    obtain ⟨f1, f2, f3, f4, -, -⟩ := mnS_facts T cA cC N K i
    have hlt0 : T.heap.size < (mnS T cA cC N K i).heap.size := by rw [f1]; omega
    have hcell : ((mnS T cA cC N K i).pushCell (mnI cC K)).heap[T.heap.size]? = some (mnO cA N T.heap.size i) := by rw [State.heap_pushCell_of_lt (h := hlt0)]; exact f2
    have h := (Xi.pushed (mnI cC K)).stored hcell i (.ref (T.heap.size + 1 + i))
    rw [mnI_size, mnO_set, List.append_assoc] at h
    refine ⟨J ++ [⟨T.heap.size, i⟩], fun q hq => ?_, ?_⟩
    · rcases List.mem_append.mp hq with hq | hq
      · exact hJ q hq
      · rw [List.mem_singleton.mp hq]; exact Nat.le_refl _
    · have e3 : slots + N + (i + 1) * K = slots + N + i * K + K := by rw [Nat.succ_mul]; omega
      rw [e3]
      exact h
theorem mn_step (X : Stand p l e R s m args below meth c T locs cells slots) (hexec : p.tables.exec = Jvm.exec) {own : String} {index : Nat} (hown : s.vm.findClass own = some m.cls) (hclink : (Cond.classLink own index "[[I").before args s = true)
    {cA cC cc : ClassId} {kA kC : Class} (hfA : s.vm.findClass "[[I" = some cA) (hkA : s.vm.classes[cA]? = some kA) (hkindA : kA.kind = .array cC (.array .int)) (hkC : s.vm.classes[cC]? = some kC) (hkindC : kC.kind = .array cc .int)
    {g : JFrame} (hg : g.method = m) (hdg : decode c.code g.pc = .ok (.multianewarray index 2, 4)) {n k : Int32} {rest : List Value} (hstack : g.stack = .int k :: .int n :: rest) (hn : ¬ n < 0) (hk : ¬ k < 0) (hb1 : n.toNatClampNeg ≤ 5000) (hb2 : k.toNatClampNeg ≤ 5000)
    (hcells : cells + (1 + n.toNatClampNeg) ≤ R.cells) (hslots : slots + (n.toNatClampNeg + n.toNatClampNeg * k.toNatClampNeg) ≤ R.slots) :
    ∃ (vm₁ : Vm) (J : List Loc), (∀ q ∈ J, T.heap.size ≤ q.base) ∧ Stand p l e R s m args below meth c (mnS (T.setVm vm₁) cA cC n.toNatClampNeg k.toNatClampNeg n.toNatClampNeg) (locs ++ J) (cells + 1 + n.toNatClampNeg) (slots + n.toNatClampNeg + n.toNatClampNeg * k.toNatClampNeg) ∧
      ∀ target, Steps p.tables e below ((mnS (T.setVm vm₁) cA cC n.toNatClampNeg k.toNatClampNeg n.toNatClampNeg).setTop { g with pc := g.pc + 4, stack := .ref T.heap.size :: rest }) target → Steps p.tables e below (T.setTop g) target := by
  subst hg
  have hpl : e.platform.magicAccessors = ({} : Platform).magicAccessors := by rw [X.admits.platform]
  obtain ⟨c0, hfc0, hcl⟩ := Cond.classLink_spec hown hclink e.platform hpl
  cases hfA.symm.trans hfc0
  obtain ⟨hg₁, hwarm₁, hready₁⟩ := State.classEntry (e := e) X.warmed hcl
  generalize T.vm.noted g.method.cls index (.cls cA) = vm₁ at hg₁ hwarm₁ hready₁
  obtain ⟨kA₁, hkA₁, heA⟩ := hwarm₁.alike.2.2 _ _ hkA
  obtain ⟨kC₁, hkC₁, heC⟩ := hwarm₁.alike.2.2 _ _ hkC
  have X₁ := X.noted hwarm₁
  obtain ⟨hr1, hr2⟩ := X.roomAbove hcells hslots
  obtain ⟨J, hJ, XF⟩ := mn_stand X₁ cA cC n.toNatClampNeg k.toNatClampNeg n.toNatClampNeg
  refine ⟨vm₁, J, hJ, XF, fun target hrest => ?_⟩
  have la := Launch.admits_arrayLengthLimit X.admits
  have lh := Launch.admits_maxHeapBytes X.admits
  jvm_step X.here [hexec, hdg]
  simp only [Op.multianewarray.sem, wp_bind', W.resolveClassAt_links (State.method?_setTop g X.here.top) hg₁]
  rw [W.popN, if_neg (by decide)]
  refine ⟨g, State.topJava?_setTop' (s := T.setVm vm₁) g X.here.top, [.int n, .int k], rest, rfl, hstack, ?_⟩
  simp only [List.mapM_cons, List.mapM_nil, wp_bind', wp_pure']
  refine mn_all (kA := kA₁) (kC := kC₁) (cC := cC) (cc := cc) hkA₁ (by rw [heA]; exact hkindA) hkC₁ (by rw [heC]; exact hkindC) hn hk (by rw [la]; omega) (by rw [lh]; show ¬ n.toNatClampNeg * 4 > 536870912; omega) (by rw [la]; omega) (by rw [lh]; show ¬ k.toNatClampNeg * 4 > 536870912; omega) (by show T.heap.size + 1 + _ ≤ _; omega) (by show T.slotsUsed + _ + _ ≤ _; omega) (fun d' acts' => ?_)
  have eS : ((T.setTop g).setVm vm₁).setTop { g with stack := rest } = (T.setVm vm₁).setTop { g with stack := rest } := by
    show ((T.setVm vm₁).setTop g).setTop _ = _
    rw [State.setTop_setTop]
  rw [eS, mnS_top]
  simp only [wp_bind', W.mark, W.pushRef, State.topJava?_setTop' _ XF.here.top, Option.some.injEq, exists_eq_left', State.setTop_setTop, State.heap_setTop]
  intro acts
  simp [jvm, XF.here.top]
  exact hrest
end MNS
/-! the same, in the small heap -/
def nM (h : MH) (N K : Nat) : MH :=
  (fun b j => if h.2.2.2.length ≤ b then 0 else h.1 b j, fun b j => if h.2.2.2.length ≤ b then 0 else h.2.1 b j,
   fun b j => if b = h.2.2.2.length then (if j < N then some (h.2.2.2.length + 1 + j) else none) else if h.2.2.2.length < b then none else h.2.2.1 b j, h.2.2.2 ++ ((17, N) :: List.replicate N (15, K)))
def nO3 (h : MH) (n k : Int32) : Option (Nat × MH) := if ¬ n < 0 ∧ ¬ k < 0 ∧ n.toNatClampNeg ≤ 5000 ∧ k.toNatClampNeg ≤ 5000 then some (h.2.2.2.length, nM h n.toNatClampNeg k.toNatClampNeg) else none
theorem nM_len {h : MH} {N K : Nat} : mLen (nM h N K) = mLen h + 1 + N := by simp [mLen, nM]; omega
theorem nM_sl {h : MH} {N K : Nat} : mSl (nM h N K) = mSl h + (N + N * K) := by
  have e : mSz (17, N) = N := rfl
  have e2 : mSz (15, K) = K := rfl
  simp [mSl, nM, e, e2]
theorem nM_old {h : MH} {N K b : Nat} (hb : b < h.2.2.2.length) : (nM h N K).2.2.2[b]? = h.2.2.2[b]? := by show (h.2.2.2 ++ _)[b]? = _; rw [List.getElem?_append_left hb]
theorem mEn_nM {g : GE} {h : MH} {N K b : Nat} (hb : b < h.2.2.2.length) : mEn g (nM h N K) b = mEn g h b := by
  have hne : ¬ h.2.2.2.length ≤ b := Nat.not_le.mpr hb
  have hne2 : b ≠ h.2.2.2.length := Nat.ne_of_lt hb
  have hne3 : ¬ h.2.2.2.length < b := fun q => hne (Nat.le_of_lt q)
  have e1 : (nM h N K).1 b = h.1 b := funext fun j => if_neg hne
  have e2 : (nM h N K).2.1 b = h.2.1 b := funext fun j => if_neg hne
  have e3 : (nM h N K).2.2.1 b = h.2.2.1 b := funext fun j => by show (if b = _ then _ else if _ then none else _) = _; rw [if_neg hne2, if_neg hne3]
  unfold mEn
  rw [nM_old hb]
  cases hq : h.2.2.2[b]? with
  | none => rfl
  | some z =>
    have hm : mFs g.1 (nM h N K) b z.1 = mFs g.1 h b z.1 := by
      unfold mFs
      apply List.map_congr_left
      intro j _
      unfold mFv
      simp only [e1, e2, e3]
    simp only [hm, e1, e2, e3]
theorem V.mna {P : GE → Launch → Prop} {M : MD} {d : Nat} {r : Option Value} {h' h h2 : MH} {pc q idx b : Nat} {L st : List Value} {n k : Int32} (hl : Cond.classLink M.1.cls idx "[[I" ∈ TB) (hm : nO3 h n k = some (b, h2)) (hd : decode M.2.1 pc = .ok (.multianewarray idx 2, 4)) (hq : pc + 4 = q) (kk : V P M d r h' h2 q L (.ref b :: st)) : V P M d r h' h pc L (.int k :: .int n :: st) := by
  subst hq
  obtain ⟨⟨i1, i2, i3, i4⟩, ee⟩ := some_if hm
  cases ee
  have k1 := kk.1.1
  have k2 := kk.1.2
  rw [nM_len] at k1
  rw [nM_sl] at k2
  refine ⟨⟨by omega, by omega⟩, fun g p l e R s m args below meth c Q o1 o2 hPg C hc hsl hr H locs cells slots ls f1 f2 hR hlc hL => ?_⟩
  obtain ⟨⟨kA, hkA, hkindA⟩, -⟩ := C.jd
  obtain ⟨-, kC, hkC, cc, hkindC⟩ := (C.K.2 1 _ rfl).1 0 (fun _ => .int 0)
  intro T hT X
  obtain ⟨vm₁, J, hJ, X', st1⟩ := mn_step X C.1 C.own (C.hts _ hl) (C.K.2 3 _ rfl).2 hkA hkindA hkC hkindC (g := F0 m pc ls (.int k :: .int n :: st.map (enc g))) rfl (by rw [C.2.1]; exact hd) rfl i1 i2 i3 i4 (by omega) (by omega)
  generalize hNe : n.toNatClampNeg = N at *
  generalize hKe : k.toNatClampNeg = K at *
  have hTh : (T.setVm vm₁).heap = H := hT
  obtain ⟨a1, a2, -, -, a5, a6⟩ := mnS_facts (T.setVm vm₁) g.2.2.1.2.2.2 g.2.2.1.2.1 N K N
  generalize hF : mnS (T.setVm vm₁) g.2.2.1.2.2.2 g.2.2.1.2.1 N K N = F at *
  rw [hTh] at a1 a2 a5 a6
  have hz := hR.1
  have hRep : Rep g (nM h N K) F.heap := by
    refine ⟨by rw [a1, hz]; show _ = g.1 + (h.2.2.2 ++ _).length; simp; omega, fun x kd1 n1 hx hkd => ?_, fun q hq => by rw [a5 q (by omega)]; exact hR.2.2 q hq⟩
    by_cases e1 : x < h.2.2.2.length
    · rw [mEn_nM e1]
      exact va_at.kept (hR.2.1 x kd1 n1 (by rw [← nM_old (N := N) (K := K) e1]; exact hx) hkd) (a5 _ (by show g.1 + x < _; omega))
    · have hx2 : (h.2.2.2 ++ ((17, N) :: List.replicate N (15, K)))[x]? = some (kd1, n1) := hx
      rw [List.getElem?_append_right (by omega)] at hx2
      by_cases e2 : x = h.2.2.2.length
      · subst e2
        rw [Nat.sub_self, List.getElem?_cons_zero] at hx2
        cases hx2
        rw [mEn_r (by exact hx)]
        show F.heap[g.1 + h.2.2.2.length]? = some (vp_cell _ _)
        rw [← hz, a2, vp_cell_q]
        unfold mnO
        refine congrArg (fun f => some (arrV _ _ f)) (funext fun j => ?_)
        have e9 : (nM h N K).2.2.1 h.2.2.2.length j = if j < N then some (h.2.2.2.length + 1 + j) else none := if_pos rfl
        rw [e9]
        by_cases hj : j < N
        · rw [if_pos hj, if_pos hj]
          have e8 : H.size + 1 + j = g.1 + (h.2.2.2.length + 1 + j) := by rw [hz]; omega
          exact congrArg Value.ref e8
        · rw [if_neg hj, if_neg hj]; rfl
      · obtain ⟨i, hi⟩ : ∃ i, x = h.2.2.2.length + 1 + i := ⟨x - h.2.2.2.length - 1, by omega⟩
        subst hi
        rw [show h.2.2.2.length + 1 + i - h.2.2.2.length = i + 1 by omega, List.getElem?_cons_succ, List.getElem?_replicate] at hx2
        by_cases hiN : i < N
        · rw [if_pos hiN] at hx2
          cases hx2
          rw [mEn_i (by exact hx)]
          show F.heap[g.1 + (h.2.2.2.length + 1 + i)]? = some (vp_cell _ _)
          rw [show g.1 + (h.2.2.2.length + 1 + i) = H.size + 1 + i by omega, a6 i hiN, vp_cell_i]
          unfold mnI
          refine congrArg (fun f => some (arrV _ _ f)) (funext fun j => ?_)
          have e9 : (nM h N K).1 (h.2.2.2.length + 1 + i) j = 0 := if_pos (by omega)
          rw [e9]
        · rw [if_neg hiN] at hx2; cases hx2
  have w := kk.2 g p l e R s m args below meth c Q o1 o2 hPg C hc hsl hr F.heap (locs ++ J) (cells + 1 + N) (slots + N + N * K) ls (by rw [nM_len]; omega) (by rw [nM_sl]; omega) hRep (fun x hx => by
    rcases List.mem_append.mp hx with hx | hx
    · exact hlc x hx
    · have := hJ x hx; rw [hT] at this; omega) hL
  obtain ⟨tt, b1, b2⟩ := w F rfl X'
  refine ⟨tt, st1 tt ?_, b2⟩
  rw [hT, hz]
  exact b1
