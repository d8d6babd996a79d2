/-! ===== THE SMALL MACHINE: cells by numbers, ints, longs and references apart; V: a frame comes to its end ===== -/
abbrev MD : Type := MethodName × ByteArray × Nat × Option FieldType
/-- ints, longs, references (by object, by field or place), and the shapes (kind, length) of the objects, by their numbers -/
abbrev MH : Type := (Nat → Nat → Int32) × (Nat → Nat → Int64) × (Nat → Nat → Option Nat) × List (Nat × Nat)
def mTy (ci : Nat) (k : Nat) : FieldType := match ci with
  | 0 => tyX0 k | 1 => tyX1 k | 2 => tyX2 k | 3 => tyX3 k | 4 => tyX4 k | 5 => tyX5 k | 6 => tyX6 k | 7 => tyX7 k | 8 => tyX8 k | 9 => tyX9 k
  | 10 => tyX10 k | 11 => tyX11 k | 12 => tyX12 k | _ => tyX13 k
def mNf : List Nat := [1, 5, 1, 9, 1, 2, 5, 20, 14, 1, 7, 13, 27, 30]
def mN (ci : Nat) : Nat := mNf.getD ci 0
/-- what stands around: the first number's address, the kinds' ids and slots, the array kinds' ids (bytes, ints, longs, rows of ints), addresses of things outside (null: none), the heap at the law's entry, the script's length and ints -/
abbrev GE : Type := Nat × va_G × (ClassId × ClassId × ClassId × ClassId) × (Nat → Option Nat) × Heap × Nat × (Nat → Int32)
/-- the texts: whose pool, where in it, the text, its bytes -/
def sTab : List (String × Nat × String × List Int32) := [("StampViews$Reader", 52, "office mark paper stamp rule hand want print not", [111, 102, 102, 105, 99, 101, 32, 109, 97, 114, 107, 32, 112, 97, 112, 101, 114, 32, 115, 116, 97, 109, 112, 32, 114, 117, 108, 101, 32, 104, 97, 110, 100, 32, 119, 97, 110, 116, 32, 112, 114, 105, 110, 116, 32, 110, 111, 116]),
  ("StampViews$Reader", 60, "birds worth ink else moody", [98, 105, 114, 100, 115, 32, 119, 111, 114, 116, 104, 32, 105, 110, 107, 32, 101, 108, 115, 101, 32, 109, 111, 111, 100, 121]),
  ("StampViews$Reader", 62, "no yes faint", [110, 111, 32, 121, 101, 115, 32, 102, 97, 105, 110, 116]),
  ("StampViews$Reader", 64, "straight kind stern cross", [115, 116, 114, 97, 105, 103, 104, 116, 32, 107, 105, 110, 100, 32, 115, 116, 101, 114, 110, 32, 99, 114, 111, 115, 115]),
  ("StampViews", 391, "no such paper", [110, 111, 32, 115, 117, 99, 104, 32, 112, 97, 112, 101, 114]),
  ("StampViewsModel", 139, "office", [111, 102, 102, 105, 99, 101]),
  ("StampViewsModel", 233, "birds", [98, 105, 114, 100, 115]),
  ("StampViewsModel", 141, "mark", [109, 97, 114, 107]),
  ("StampViewsModel", 143, "paper", [112, 97, 112, 101, 114]),
  ("StampViewsModel", 145, "stamp", [115, 116, 97, 109, 112]),
  ("StampViewsModel", 147, "rule", [114, 117, 108, 101]),
  ("StampViewsModel", 149, "hand", [104, 97, 110, 100]),
  ("StampViewsModel", 151, "want", [119, 97, 110, 116]),
  ("StampViewsModel", 153, "print", [112, 114, 105, 110, 116]),
  ("StampViewsModel", 155, "not", [110, 111, 116]),
  ("StampViewsModel", 252, "worth", [119, 111, 114, 116, 104]),
  ("StampViewsModel", 265, "ink", [105, 110, 107]),
  ("StampViewsModel", 267, "else", [101, 108, 115, 101]),
  ("StampViewsModel", 190, "no", [110, 111]),
  ("StampViewsModel", 192, "yes", [121, 101, 115]),
  ("StampViewsModel", 194, "faint", [102, 97, 105, 110, 116]),
  ("StampViewsModel", 301, "straight", [115, 116, 114, 97, 105, 103, 104, 116]),
  ("StampViewsModel", 303, "kind", [107, 105, 110, 100]),
  ("StampViewsModel", 305, "stern", [115, 116, 101, 114, 110]),
  ("StampViewsModel", 307, "cross", [99, 114, 111, 115, 115]),
  ("StampViewsModel", 309, "moody", [109, 111, 111, 100, 121])]
def gRf (a0 : Nat) (o : Option Nat) : Option Nat := o.map (fun x => a0 + x)
def mFv (a0 : Nat) (h : MH) (k ci i : Nat) : Value := match mTy ci i with
  | .long => .long (h.2.1 k i)
  | .object _ => va_rf (gRf a0 (h.2.2.1 k i))
  | .array _ => va_rf (gRf a0 (h.2.2.1 k i))
  | _ => .int (h.1 k i)
def mFs (a0 : Nat) (h : MH) (k ci : Nat) : List Value := (List.range (mN ci)).map (mFv a0 h k ci)
def mEn (g : GE) (h : MH) (k : Nat) : va_E := match h.2.2.2[k]? with
  | none => .inr (0, [])
  | some (kd, n) =>
    if kd < 14 then .inr (kd, mFs g.1 h k kd)
    else if kd = 14 then .inl (g.2.2.1.1, n, .inl (h.1 k))
    else if kd = 15 then .inl (g.2.2.1.2.1, n, .inl (h.1 k))
    else if kd = 16 then .inl (g.2.2.1.2.2.1, n, .inr (.inl (h.2.1 k)))
    else .inl (g.2.2.1.2.2.2, n, .inr (.inr (.inr (.inr (fun i => gRf g.1 (h.2.2.1 k i))))))
def enc (g : GE) : Value → Value
  | .ref k => .ref (g.1 + k)
  | .retAddr i => va_rf (g.2.2.2.1 i)
  | v => v
def Rep (g : GE) (h : MH) (H : Heap) : Prop :=
  H.size = g.1 + h.2.2.2.length ∧ (∀ (k kd n : Nat), h.2.2.2[k]? = some (kd, n) → kd < 18 → va_at g.2.1 vwCl (g.1 + k, mEn g h k) H) ∧ ∀ q, q < g.1 → H[q]? = g.2.2.2.2.1[q]?
/-- how many slots a shape has -/
def mSz (q : Nat × Nat) : Nat := if q.1 < 14 then mN q.1 else q.2
def mLen (h : MH) : Nat := h.2.2.2.length
def mSl (h : MH) : Nat := (h.2.2.2.map mSz).sum
def mLe (h h' : MH) : Prop := mLen h ≤ mLen h' ∧ mSl h ≤ mSl h'
theorem mLe.rfl {h : MH} : mLe h h := ⟨Nat.le_refl _, Nat.le_refl _⟩
theorem mLe.trans {a b c : MH} (h1 : mLe a b) (h2 : mLe b c) : mLe a c := ⟨Nat.le_trans h1.1 h2.1, Nat.le_trans h1.2 h2.2⟩
/-- the words that may be carried into a call -/
def TB : List Cond := lw_tbl.filter goodWord
theorem TB_in {w : Cond} (h : w ∈ lw_tbl) (hg : goodWord w = true) : w ∈ TB := List.mem_filter.mpr ⟨h, hg⟩
theorem TB_good {w : Cond} (h : w ∈ TB) : goodWord w = true := (List.mem_filter.mp h).2
theorem TB_tbl {w : Cond} (h : w ∈ TB) : w ∈ lw_tbl := (List.mem_filter.mp h).1
def wsM (M : MD) : List Cond := .code M.1 M.2.1 M.2.2.1 M.2.2.2 :: TB
/-- a local of which nothing is known -/
abbrev Jk : Value := .retAddr 2000
/-- the locals: what is listed (and known) stands there -/
def LR (g : GE) (ls : Array Slot) (n : Nat) (L : List Value) : Prop := ls.size = n ∧ lv_wf ls ∧ ∀ (i : Nat) (v : Value), L[i]? = some v → v ≠ Jk → ls[i]? = some (.val (enc g v))
def okret : Option FieldType → Option Value → Prop
  | none, none => True
  | some .int, some (.int _) => True
  | some .long, some (.long _) => True
  | some .boolean, some (.int v) => v = 0 ∨ v = 1
  | some .byte, some (.int v) => narrow .byte (.int v) = .int v
  | some .char, some (.int v) => narrow .char (.int v) = .int v
  | _, _ => False
def retIns : Option Value → Instr
  | none => .return_
  | some (.long _) => .lreturn
  | _ => .ireturn
/-- the nest mates' links, and what else is carried by itself -/
def nestW : List Cond := tables_1.filter (fun w => match w with | .fieldLinkNest .. => true | .methodLinkNest .. => true | .castable .. => true | .declares .. => true | _ => false)
theorem nestW_warm {s U : State} (hW : s.WarmedH U.vm) {w : Cond} (hw : w ∈ nestW) (h : va_Nw w s) : va_Nw w U := by
  have h1 := (List.mem_filter.mp hw).2
  cases w <;> first | (simp at h1; done) | exact va_Nw.warmF hW h | exact va_Nw.warmM hW h | exact va_Nw.warmC hW h | exact va_Nw.warmD hW h
theorem nestW_same {s U : State} (hv : s.vm = U.vm) {w : Cond} (hw : w ∈ nestW) (h : va_Nw w s) : va_Nw w U := by
  have h1 := (List.mem_filter.mp hw).2
  cases w <;> first | (simp at h1; done) | exact va_Nw.same rfl hv h
abbrev gA (g : GE) : Nat → Prop := fun q => g.1 ≤ q
/-- the script, the texts, statics: all below the first number's address -/
def JD (g : GE) (U : State) : Prop :=
  (∃ k : Class, U.vm.classes[g.2.2.1.2.2.2]? = some k ∧ k.kind = .array g.2.2.1.2.1 (.array .int)) ∧ g.2.2.2.2.1.size = g.1 ∧ (∃ b, g.2.2.2.1 1000 = some b ∧ b < g.1 ∧ va_X b g.2.2.2.2.2.1 g.2.2.2.2.2.2 U g.2.2.2.2.1) ∧
  (∀ (i : Nat) (q : String × Nat × String × List Int32), sTab[i]? = some q → ∃ b v, g.2.2.2.1 i = some b ∧ g.2.2.2.1 (100 + i) = some v ∧ vk_R q.1 q.2.1 q.2.2.1 b U ∧ va_O "java/lang/String" b (gA g) U g.2.2.2.2.1 ∧ va_OF "java/lang/String" "coder" "B" (.int 0) b (gA g) U g.2.2.2.2.1 ∧ va_OF "java/lang/String" "value" "[B" (.ref v) b (gA g) U g.2.2.2.2.1 ∧ va_T .byte v q.2.2.2.length (fun j => .int (q.2.2.2.getD j 0)) (gA g) U g.2.2.2.2.1) ∧
  va_Z "java/lang/String" "COMPACT_STRINGS" "Z" (.int 1) (gA g) U g.2.2.2.2.1 ∧ va_Z "jdk/internal/util/Preconditions" "SIOOBE_FORMATTER" "Ljava/util/function/BiFunction;" (va_rf (g.2.2.2.1 1001)) (gA g) U g.2.2.2.2.1 ∧
  vx_Zq "java/lang/Throwable" "UNASSIGNED_STACK" "[Ljava/lang/StackTraceElement;" (gA g) U g.2.2.2.2.1 ∧ vx_Zq "java/lang/Throwable" "SUPPRESSED_SENTINEL" "Ljava/util/List;" (gA g) U g.2.2.2.2.1
theorem JD.warm {g : GE} {s U : State} (hW : s.WarmedH U.vm) (h : JD g s) : JD g U := by
  obtain ⟨⟨kk, hkk, hkd⟩, h0, ⟨b, b1, b2, b3⟩, h2, h3, h4, h5, h6⟩ := h
  obtain ⟨k', hk', he⟩ := hW.alike.2.2 _ _ hkk
  refine ⟨⟨k', hk', by rw [he]; exact hkd⟩, h0, ⟨b, b1, b2, b3.moved hW.alike⟩, fun i q hq => ?_, h3.moved hW.alike, h4.moved hW.alike, h5.moved hW.alike, h6.moved hW.alike⟩
  obtain ⟨b, v, c1, c2, c3, c4, c5, c6, c7⟩ := h2 i q hq
  exact ⟨b, v, c1, c2, c3.warm hW, c4.moved hW.alike, c5.moved hW.alike, c6.moved hW.alike, c7.moved hW.alike⟩
theorem JD.same {g : GE} {s U : State} (hv : s.vm = U.vm) (h : JD g s) : JD g U := by
  have hW : s.vm.Alike U.vm := by rw [hv]; exact Vm.Alike.refl _
  obtain ⟨⟨kk, hkk, hkd⟩, h0, ⟨b, b1, b2, b3⟩, h2, h3, h4, h5, h6⟩ := h
  obtain ⟨k', hk', he⟩ := hW.2.2 _ _ hkk
  refine ⟨⟨k', hk', by rw [he]; exact hkd⟩, h0, ⟨b, b1, b2, b3.moved hW⟩, fun i q hq => ?_, h3.moved hW, h4.moved hW, h5.moved hW, h6.moved hW⟩
  obtain ⟨b, v, c1, c2, c3, c4, c5, c6, c7⟩ := h2 i q hq
  exact ⟨b, v, c1, c2, c3.same hv.symm, c4.moved hW, c5.moved hW, c6.moved hW, c7.moved hW⟩
/-- what the tables and the start say of a state, beside the words -/
def CxG (g : GE) (U : State) : Prop := va_K g.2.1 vwCl [(g.2.2.1.1, .byte), (g.2.2.1.2.1, .int), (g.2.2.1.2.2.1, .long), (g.2.2.1.2.2.2, .array .int)] U ∧ (∀ w ∈ nestW, va_Nw w U) ∧ JD g U
theorem CxG.warm {g : GE} {s U : State} (hW : s.WarmedH U.vm) (h : CxG g s) : CxG g U := ⟨h.1.moved hW.alike, fun w hw => nestW_warm hW hw (h.2.1 w hw), h.2.2.warm hW⟩
theorem CxG.same {g : GE} {s U : State} (hv : s.vm = U.vm) (h : CxG g s) : CxG g U := ⟨h.1.moved (by rw [hv]; exact Vm.Alike.refl _), fun w hw => nestW_same hv hw (h.2.1 w hw), h.2.2.same hv⟩
def CX (M : MD) (d : Nat) (g : GE) (p : Program) (R : Room) (s : State) (m : MethodId) (args : Array Value) (meth : Method) (c : Code) : Prop :=
  p.tables.exec = Jvm.exec ∧ c.code = M.2.1 ∧ meth.sig.returnType = M.2.2.2 ∧ c.maxLocals = M.2.2.1 ∧ s.vm.findClass M.1.cls = some m.cls ∧ meth.locks = false ∧ (M.1.name = "<init>" → meth.name = "<init>") ∧ (∀ w ∈ TB, w.before args s = true) ∧ CxG g s ∧ d ≤ R.frames ∧ 40 * d ≤ R.locals
def RH (M : MD) (r : Option Value) (h' : MH) (g : GE) (p : Program) (l : Launch) (e : Env) (R : Room) (s : State) (m : MethodId) (args : Array Value) (below : List Frame) (meth : Method) (c : Code) (Q : State → Prop) (o1 o2 : Nat) : Prop :=
  (∀ (H1 : Heap) (locs1 : List Loc) (cells1 slots1 pc1 : Nat) (ls1 : Array Slot), Rep g h' H1 → (∀ q ∈ locs1, g.1 ≤ q.base) → cells1 + o1 = mLen h' → slots1 + o2 = mSl h' → okret M.2.2.2 r → decode M.2.1 pc1 = .ok (retIns r, 1) →
    W p l e R s m args below meth c H1 locs1 cells1 slots1 Q (F0 m pc1 ls1 (r.toList.map (enc g)))) ∧
  ∀ x : Nat, r = some (.retAddr x) → ∀ (H1 : Heap) (locs1 : List Loc) (cells1 slots1 : Nat) (ls1 : Array Slot), Rep g h' H1 → (∀ q ∈ locs1, g.1 ≤ q.base) → cells1 + o1 = mLen h' → slots1 + o2 = mSl h' → ls1.size = M.2.2.1 →
    W p l e R s m args below meth c H1 locs1 cells1 slots1 Q (F0 m x ls1 [])
def VI (M : MD) (d : Nat) (r : Option Value) (h' h : MH) (pc : Nat) (L st : List Value) (g : GE) (p : Program) (l : Launch) (e : Env) (R : Room) (s : State) (m : MethodId) (args : Array Value) (below : List Frame) (meth : Method) (c : Code) (Q : State → Prop) (o1 o2 : Nat) : Prop :=
  CX M d g p R s m args meth c → mLen h' ≤ R.cells + o1 → mSl h' ≤ R.slots + o2 → RH M r h' g p l e R s m args below meth c Q o1 o2 →
  ∀ (H : Heap) (locs : List Loc) (cells slots : Nat) (ls : Array Slot), cells + o1 = mLen h → slots + o2 = mSl h → Rep g h H → (∀ q ∈ locs, g.1 ≤ q.base) → LR g ls M.2.2.1 L →
    W p l e R s m args below meth c H locs cells slots Q (F0 m pc ls (st.map (enc g)))
/-- V: from this frame of M the method returns r, with the heap h' (r a return address x: it comes to x, with an empty stack) -/
def TT : GE → Launch → Prop := fun _ _ => True
def V (P : GE → Launch → Prop) (M : MD) (d : Nat) (r : Option Value) (h' h : MH) (pc : Nat) (L st : List Value) : Prop :=
  mLe h h' ∧ ∀ (g : GE) (p : Program) (l : Launch) (e : Env) (R : Room) (s : State) (m : MethodId) (args : Array Value) (below : List Frame) (meth : Method) (c : Code) (Q : State → Prop) (o1 o2 : Nat),
    P g l → VI M d r h' h pc L st g p l e R s m args below meth c Q o1 o2
/-- an instruction that changes neither locals nor heap -/
theorem V.step {P : GE → Launch → Prop} {M : MD} {d : Nat} {r : Option Value} {h' h : MH} {pc q : Nat} {L st st' : List Value}
    (hw : ∀ (g : GE) (p : Program) (l : Launch) (e : Env) (R : Room) (s : State) (m : MethodId) (args : Array Value) (below : List Frame) (meth : Method) (c : Code) (Q : State → Prop) (H : Heap) (locs : List Loc) (cells slots : Nat) (ls : Array Slot),
      P g l → CX M d g p R s m args meth c → LR g ls M.2.2.1 L → Rep g h H → W p l e R s m args below meth c H locs cells slots Q (F0 m q ls (st'.map (enc g))) → W p l e R s m args below meth c H locs cells slots Q (F0 m pc ls (st.map (enc g))))
    (k : V P M d r h' h q L st') : V P M d r h' h pc L st :=
  ⟨k.1, fun g p l e R s m args below meth c Q o1 o2 hPg C hc hs hr H locs cells slots ls e1 e2 hR hl hL =>
    hw g p l e R s m args below meth c Q H locs cells slots ls hPg C hL hR (k.2 g p l e R s m args below meth c Q o1 o2 hPg C hc hs hr H locs cells slots ls e1 e2 hR hl hL)⟩
/-- a test: two ways -/
theorem V.step2 {P : GE → Launch → Prop} {M : MD} {d : Nat} {r : Option Value} {h' h : MH} {pc q1 q2 : Nat} {L st st1 st2 : List Value} {Pr : Prop} (hP : Pr ∨ ¬ Pr)
    (hw : ∀ (g : GE) (p : Program) (l : Launch) (e : Env) (R : Room) (s : State) (m : MethodId) (args : Array Value) (below : List Frame) (meth : Method) (c : Code) (Q : State → Prop) (H : Heap) (locs : List Loc) (cells slots : Nat) (ls : Array Slot),
      P g l → CX M d g p R s m args meth c → LR g ls M.2.2.1 L → Rep g h H → (Pr → W p l e R s m args below meth c H locs cells slots Q (F0 m q1 ls (st1.map (enc g)))) → (¬ Pr → W p l e R s m args below meth c H locs cells slots Q (F0 m q2 ls (st2.map (enc g)))) → W p l e R s m args below meth c H locs cells slots Q (F0 m pc ls (st.map (enc g))))
    (k1 : Pr → V P M d r h' h q1 L st1) (k2 : ¬ Pr → V P M d r h' h q2 L st2) : V P M d r h' h pc L st :=
  ⟨hP.elim (fun h => (k1 h).1) (fun h => (k2 h).1), fun g p l e R s m args below meth c Q o1 o2 hPg C hc hs hr H locs cells slots ls e1 e2 hR hl hL =>
    hw g p l e R s m args below meth c Q H locs cells slots ls hPg C hL hR (fun hp => (k1 hp).2 g p l e R s m args below meth c Q o1 o2 hPg C hc hs hr H locs cells slots ls e1 e2 hR hl hL) (fun hp => (k2 hp).2 g p l e R s m args below meth c Q o1 o2 hPg C hc hs hr H locs cells slots ls e1 e2 hR hl hL)⟩
/-- an instruction that changes the locals alone -/
theorem V.stepL {P : GE → Launch → Prop} {M : MD} {d : Nat} {r : Option Value} {h' h : MH} {pc q : Nat} {L L' st st' : List Value}
    (hw : ∀ (g : GE) (p : Program) (l : Launch) (e : Env) (R : Room) (s : State) (m : MethodId) (args : Array Value) (below : List Frame) (meth : Method) (c : Code) (Q : State → Prop) (H : Heap) (locs : List Loc) (cells slots : Nat) (ls : Array Slot),
      P g l → CX M d g p R s m args meth c → LR g ls M.2.2.1 L → (∀ ls', LR g ls' M.2.2.1 L' → W p l e R s m args below meth c H locs cells slots Q (F0 m q ls' (st'.map (enc g)))) → W p l e R s m args below meth c H locs cells slots Q (F0 m pc ls (st.map (enc g))))
    (k : V P M d r h' h q L' st') : V P M d r h' h pc L st :=
  ⟨k.1, fun g p l e R s m args below meth c Q o1 o2 hPg C hc hs hr H locs cells slots ls e1 e2 hR hl hL =>
    hw g p l e R s m args below meth c Q H locs cells slots ls hPg C hL (fun ls' hL' => k.2 g p l e R s m args below meth c Q o1 o2 hPg C hc hs hr H locs cells slots ls' e1 e2 hR hl hL')⟩
