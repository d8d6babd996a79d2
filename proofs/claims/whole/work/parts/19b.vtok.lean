/-! ===== V: texts, static fields, Math; what makes cells, as functions ===== -/
section VTK
variable {P : GE → Launch → Prop} {M M2 : MD} {d d2 : Nat} {r r2 : Option Value} {h' h h2 : MH} {pc q : Nat} {L st S S2 vs : List Value} {idx n : Nat}
theorem V.stepC {st' : List Value}
    (hw : ∀ (g : GE) (p : Program) (l : Launch) (e : Env) (R : Room) (s : State) (m : MethodId) (args : Array Value) (below : List Frame) (meth : Method) (c : Code) (Q : State → Prop) (H : Heap) (locs : List Loc) (cells slots : Nat) (ls : Array Slot),
      CX M d g p R s m args meth c → LR g ls M.2.2.1 L → Rep g h H → cells ≤ R.cells → slots ≤ R.slots → W p l e R s m args below meth c H locs cells slots Q (F0 m q ls (st'.map (enc g))) → W p l e R s m args below meth c H locs cells slots Q (F0 m pc ls (st.map (enc g))))
    (k : V P M d r h' h q L st') : V P M d r h' h pc L st :=
  ⟨k.1, fun g p l e R s m args below meth c Q o1 o2 hPg C hc hs hr H locs cells slots ls e1 e2 hR hl hL =>
    hw g p l e R s m args below meth c Q H locs cells slots ls C hL hR (by have := k.1.1; omega) (by have := k.1.2; omega) (k.2 g p l e R s m args below meth c Q o1 o2 hPg C hc hs hr H locs cells slots ls e1 e2 hR hl hL)⟩
def mMax (x y : Int32) : Int32 := if x < y then y else x
def mMin (x y : Int32) : Int32 := if y < x then y else x
theorem V.mMax {x y : Int32} (hl : Cond.methodLink M.1.cls idx Lib.Math.max.name ∈ TB) (hdp : 1 ≤ d) (hst : (st.map fun v => v.category).sum ≤ 8) (hd : decode M.2.1 pc = .ok (.invokestatic idx, 3)) (hq : pc + 3 = q) (kk : V P M d r h' h q L (.int (mMax x y) :: st)) : V P M d r h' h pc L (.int y :: .int x :: st) := by
  subst hq
  refine V.stepC (fun g p l e R s m args below meth c Q H locs cells slots ls C hL hR hc hs w => ?_) kk
  have h2 := C.2.2.2.2.2.2.2.2.2.2
  exact va_mmax C.1 C.2.1 (C.2.2.2.1.trans hL.1.symm) C.own (C.hts _ hl) (C.hts _ (in_of_all [.static Lib.Math.max.name] (by decide +kernel) _ List.mem_cons_self)) (C.hts _ (in_of_all [.initialized "java/lang/Math"] (by decide +kernel) _ List.mem_cons_self)) (C.hts _ (in_of_all [.code Lib.Math.max.name Lib.Math.max.code 2 (some .int)] (by decide +kernel) _ List.mem_cons_self)) (Nat.le_trans hdp C.2.2.2.2.2.2.2.2.2.1) (by rw [enc_cats]; omega) hc hs hd w
theorem V.mMin {x y : Int32} (hl : Cond.methodLink M.1.cls idx Lib.Math.min.name ∈ TB) (hdp : 1 ≤ d) (hst : (st.map fun v => v.category).sum ≤ 8) (hd : decode M.2.1 pc = .ok (.invokestatic idx, 3)) (hq : pc + 3 = q) (kk : V P M d r h' h q L (.int (mMin x y) :: st)) : V P M d r h' h pc L (.int y :: .int x :: st) := by
  subst hq
  refine V.stepC (fun g p l e R s m args below meth c Q H locs cells slots ls C hL hR hc hs w => ?_) kk
  have h2 := C.2.2.2.2.2.2.2.2.2.2
  exact va_mmin C.1 C.2.1 (C.2.2.2.1.trans hL.1.symm) C.own (C.hts _ hl) (C.hts _ (in_of_all [.static Lib.Math.min.name] (by decide +kernel) _ List.mem_cons_self)) (C.hts _ (in_of_all [.initialized "java/lang/Math"] (by decide +kernel) _ List.mem_cons_self)) (C.hts _ (in_of_all [.code Lib.Math.min.name Lib.Math.min.code 2 (some .int)] (by decide +kernel) _ List.mem_cons_self)) (Nat.le_trans hdp C.2.2.2.2.2.2.2.2.2.1) (by rw [enc_cats]; omega) hc hs hd w
theorem V.i2c {x : Int32} (hd : decode M.2.1 pc = .ok (.i2c, 1)) (hq : pc + 1 = q) (k : V P M d r h' h q L (.int ((x.toUInt32 % 65536).toInt32) :: st)) : V P M d r h' h pc L (.int x :: st) := by
  subst hq
  exact V.step (fun g p l e R s m args below meth c Q H locs cells slots ls _ C hL hR w => lv_i2c C.1 C.2.1 hd rfl w) k
/-! texts -/
def tkc (t : Nat) : Option Unit := if t < 26 then some () else none
theorem tkc_is {t : Nat} {u : Unit} (h : tkc t = some u) : t < 26 := (some_if h).1
theorem tk_ne {t : Nat} (h : t < 26) : t ≠ 2000 := by omega
theorem sTab_at {t : Nat} (h : t < 26) : ∃ q, sTab[t]? = some q := ⟨_, List.getElem?_eq_getElem (show t < sTab.length from h)⟩
theorem tk_ad {t : Nat} (h : t < 26) : ∀ (g : GE) (s : State), JD g s → ∃ b, g.2.2.2.1 t = some b := fun g s hj => by
  obtain ⟨q, hq⟩ := sTab_at h
  obtain ⟨b, v, e, -⟩ := hj.2.2.2.1 t q hq
  exact ⟨b, e⟩
theorem tk_adV {t : Nat} (h : t < 26) : ∀ (g : GE) (s : State), JD g s → ∃ b, g.2.2.2.1 (100 + t) = some b := fun g s hj => by
  obtain ⟨q, hq⟩ := sTab_at h
  obtain ⟨b, v, -, e, -⟩ := hj.2.2.2.1 t q hq
  exact ⟨v, e⟩
theorem Rep.old {g : GE} {h : MH} {H : Heap} {s : State} (hR : Rep g h H) (hj : JD g s) : ∀ a : Nat, a < g.2.2.2.2.1.size → ¬ gA g a → H[a]? = g.2.2.2.2.1[a]? := fun a ha _ => hR.2.2 a (by rw [← hj.2.1]; exact ha)
theorem enc_tok {g : GE} {x b : Nat} (h : g.2.2.2.1 x = some b) : enc g (.retAddr x) = .ref b := by show va_rf _ = _; rw [h]; rfl
theorem V.aloadT {i x : Nat} (hx : x ≠ 2000) (ht : ∀ (g : GE) (s : State), JD g s → ∃ b, g.2.2.2.1 x = some b) (hd : decode M.2.1 pc = .ok (.aload i, 2)) (hq : pc + 2 = q) (hl : L[i]? = some (.retAddr x)) (k : V P M d r h' h q L (.retAddr x :: st)) : V P M d r h' h pc L st := by
  subst hq
  refine V.step (fun g p l e R s m args below meth c Q H locs cells slots ls _ C hL hR w => ?_) k
  obtain ⟨b, hb⟩ := ht g s C.jd
  refine lv_aload C.1 C.2.1 hd (x := b) (by rw [← enc_tok hb]; exact hL.2.2 i _ hl (by simpa using hx)) ?_
  have w2 := w
  rw [List.map_cons, enc_tok hb] at w2
  exact w2
theorem V.ldcS {i : Nat} (hs : (sTab[i]?).map (fun q => (q.1, q.2.1)) = some (M.1.cls, idx)) (hd : decode M.2.1 pc = .ok (.ldc idx, 2)) (hq : pc + 2 = q) (k : V P M d r h' h q L (.retAddr i :: st)) : V P M d r h' h pc L st := by
  subst hq
  refine V.step (fun g p l e R s m args below meth c Q H locs cells slots ls _ C hL hR w => ?_) k
  cases hz : sTab[i]? with
  | none => rw [hz] at hs; cases hs
  | some z =>
    rw [hz] at hs
    obtain ⟨b, v, e1, -, hK, -⟩ := C.jd.2.2.2.1 i z hz
    have e2 := Option.some.inj hs
    have w2 := w
    rw [List.map_cons, enc_tok e1] at w2
    rw [show z.1 = M.1.cls from congrArg Prod.fst e2, show z.2.1 = idx from congrArg Prod.snd e2] at hK
    exact va_ldcS C.1 C.2.1 C.own hK hd w2
theorem V.callVT {t : Nat} (ht : t < 26) (ok : mOK M2 n) (hi : Cond.instanceMethod M2.1 ∈ TB) (hsel : Cond.selects M2.1.cls M2.1 M2.1 ∈ TB) (hcl : M2.1.cls = "java/lang/String") (hlink : Cond.methodLink M.1.cls idx M2.1 ∈ TB)
    (hV : VM M2 d2 r2 h2 h (.retAddr t :: vs)) (hnr : okR r2 = true) (hdd : d2 + 1 ≤ d) (hS : vs.reverse ++ .retAddr t :: st = S) (hst : (st.map fun v => v.category).sum ≤ 8) (hlen : (mArgs (.retAddr t :: vs)).length ≤ M2.2.2.1) (hn : vs.length = n) (hd : decode M.2.1 pc = .ok (.invokevirtual idx, 3)) (hq : pc + 3 = q) (hS2 : r2.toList ++ st = S2) (kk : V P M d r h' h2 q L S2) : V P M d r h' h pc L S := by
  subst hS2
  subst hS
  obtain ⟨ok1, ok2, ok3, ok4, ok5⟩ := ok
  refine V.afterRun hV kk hq (fun g p l e R s m args below meth c H locs cells slots ls C hL hR hf1 hf2 => ?_)
  obtain ⟨z, hz⟩ := sTab_at ht
  obtain ⟨b, v, e1, -, -, hO, -⟩ := C.jd.2.2.2.1 t z hz
  obtain ⟨cell, c1, c2, c3, -⟩ := hO.kept (hR.old C.jd)
  rw [enc_stack]
  have hm := hV.met hnr ok1 hlen g l
  have ea : ((Value.retAddr t :: vs).map (enc g)) = .ref b :: vs.map (enc g) := by rw [List.map_cons, enc_tok e1]
  have eb : ((Value.retAddr t :: st).map (enc g)) = .ref b :: st.map (enc g) := by rw [List.map_cons, enc_tok e1]
  rw [ea, eb]
  refine va_runV (C := "java/lang/String") (As := vs.map (enc g)) (b := b) ⟨C.1, C.2.1, C.2.2.2.1, C.own, C.hts⟩ hm ⟨callB_of n C.hts (wsM_good ok3) rfl rfl rfl (C.hts _ ok4) (C.hts _ hlink) ok5 (mRoom hdd ok2 C.2.2.2.2.2.2.2.2.2.1 C.2.2.2.2.2.2.2.2.2.2), C.hts _ hi, by rw [← hcl]; exact C.hts _ hsel⟩
    ⟨mPc_blind _ _ _, ⟨cell, c1, c2, c3⟩, fun U hU hW => ⟨by rw [ea], by rw [hU]; exact hR, C.gx.warm hW⟩⟩ rfl (by rw [List.length_map]; exact hn) hL.1 rfl (lv_room (by rw [enc_cats]; exact hst)) hd ⟨hf1, hf2⟩
/-- a text's bytes; its coder -/
theorem V.tokVal {t : Nat} (ht : t < 26) (hl : Cond.fieldLink M.1.cls idx "java/lang/String" "value" "[B" ∈ TB) (hd : decode M.2.1 pc = .ok (.getfield idx, 3)) (hq : pc + 3 = q) (k : V P M d r h' h q L (.retAddr (100 + t) :: st)) : V P M d r h' h pc L (.retAddr t :: st) := by
  subst hq
  refine V.step (fun g p l e R s m args below meth c Q H locs cells slots ls _ C hL hR w => ?_) k
  obtain ⟨z, hz⟩ := sTab_at ht
  obtain ⟨b, v, e1, e2, -, -, -, hF, -⟩ := C.jd.2.2.2.1 t z hz
  obtain ⟨cf, kk, fi, f, cell, h1, h2, h3, h4, h5, -⟩ := hF.kept (hR.old C.jd)
  rw [List.map_cons, enc_tok e1]
  rw [List.map_cons, enc_tok e2] at w
  exact W.getf C.1 C.2.1 C.own (C.hts _ hl) h1 h2 h3 h4 (v := .ref v) h5 rfl rfl hd w
theorem V.tokCod {t : Nat} (ht : t < 26) (hl : Cond.fieldLink M.1.cls idx "java/lang/String" "coder" "B" ∈ TB) (hd : decode M.2.1 pc = .ok (.getfield idx, 3)) (hq : pc + 3 = q) (k : V P M d r h' h q L (.int 0 :: st)) : V P M d r h' h pc L (.retAddr t :: st) := by
  subst hq
  refine V.step (fun g p l e R s m args below meth c Q H locs cells slots ls _ C hL hR w => ?_) k
  obtain ⟨z, hz⟩ := sTab_at ht
  obtain ⟨b, v, e1, -, -, -, hF, -⟩ := C.jd.2.2.2.1 t z hz
  obtain ⟨cf, kk, fi, f, cell, h1, h2, h3, h4, h5, -⟩ := hF.kept (hR.old C.jd)
  rw [List.map_cons, enc_tok e1]
  exact W.getf C.1 C.2.1 C.own (C.hts _ hl) h1 h2 h3 h4 (v := .int 0) h5 rfl rfl hd w
def sLn (t : Nat) : Option Int32 := (sTab[t]?).map (fun q => Int32.ofNat q.2.2.2.length)
def sCh (t : Nat) (i : Int32) : Option Int32 := (sTab[t]?).bind (fun q => if ¬ i < 0 ∧ i.toNatClampNeg < q.2.2.2.length then some (q.2.2.2.getD i.toNatClampNeg 0) else none)
theorem sTab_small : ∀ q ∈ sTab, q.2.2.2.length < 100 ∧ ∀ b ∈ q.2.2.2, ((b &&& 255).toUInt32 % 65536).toInt32 = b ∧ narrow .char (.int b) = .int b := by decide +kernel
theorem V.tokLen {t : Nat} (ht : t < 26) {x : Int32} (hx : sLn t = some x) (hd : decode M.2.1 pc = .ok (.arraylength, 1)) (hq : pc + 1 = q) (k : V P M d r h' h q L (.int x :: st)) : V P M d r h' h pc L (.retAddr (100 + t) :: st) := by
  subst hq
  refine V.step (fun g p l e R s m args below meth c Q H locs cells slots ls _ C hL hR w => ?_) k
  obtain ⟨z, hz⟩ := sTab_at ht
  obtain ⟨b, v, -, e2, -, -, -, -, hT⟩ := C.jd.2.2.2.1 t z hz
  obtain ⟨cell, c1, c2, c3, c4, c5, c6, -⟩ := hT.kept (hR.old C.jd)
  have ex : Int32.ofNat z.2.2.2.length = x := by unfold sLn at hx; rw [hz] at hx; exact Option.some.inj hx
  rw [List.map_cons, enc_tok e2]
  exact W.alen C.1 C.2.1 c1 c2 (c5.trans ex) rfl rfl hd w
theorem V.tokLd {t : Nat} (ht : t < 26) {i x : Int32} (hx : sCh t i = some x) (hd : decode M.2.1 pc = .ok (.baload, 1)) (hq : pc + 1 = q) (k : V P M d r h' h q L (.int x :: st)) : V P M d r h' h pc L (.int i :: .retAddr (100 + t) :: st) := by
  subst hq
  refine V.step (fun g p l e R s m args below meth c Q H locs cells slots ls _ C hL hR w => ?_) k
  obtain ⟨z, hz⟩ := sTab_at ht
  obtain ⟨b, v, -, e2, -, -, -, -, hT⟩ := C.jd.2.2.2.1 t z hz
  obtain ⟨cell, c1, c2, c3, c4, c5, c6, -⟩ := hT.kept (hR.old C.jd)
  unfold sCh at hx
  rw [hz] at hx
  obtain ⟨⟨i1, i2⟩, ex⟩ := some_if hx
  have hv : cell.slots[i.toNatClampNeg]? = some (.int (z.2.2.2.getD i.toNatClampNeg 0)) := c6 _ i2
  rw [ex] at hv
  rw [List.map_cons, List.map_cons, enc_tok e2]
  exact W.bald C.1 C.2.1 c1 c2 c3 (by rintro (h9 | h9); exact i1 h9; exact absurd h9 (Nat.not_le.mpr (Nat.lt_of_lt_of_le i2 c4))) hv rfl rfl hd w
/-- static fields of the JDK's -/
theorem V.getsC (hl : Cond.fieldLink M.1.cls idx "java/lang/String" "COMPACT_STRINGS" "Z" ∈ TB) (hd : decode M.2.1 pc = .ok (.getstatic idx, 3)) (hq : pc + 3 = q) (k : V P M d r h' h q L (.int 1 :: st)) : V P M d r h' h pc L st := by
  subst hq
  refine V.step (fun g p l e R s m args below meth c Q H locs cells slots ls _ C hL hR w => ?_) k
  obtain ⟨cf, kf, fi, f, a, cell, h1, h2, h3, h4, h5, h6, h7, h8⟩ := C.jd.2.2.2.2.1.kept (hR.old C.jd)
  exact W.gets C.1 C.2.1 C.own (C.hts _ hl) h1 h2 h3 h4 h5 (fun e => by rw [e] at h6; cases h6) h7 rfl hd w
theorem V.getsF (hl : Cond.fieldLink M.1.cls idx "jdk/internal/util/Preconditions" "SIOOBE_FORMATTER" "Ljava/util/function/BiFunction;" ∈ TB) (hd : decode M.2.1 pc = .ok (.getstatic idx, 3)) (hq : pc + 3 = q) (k : V P M d r h' h q L (.retAddr 1001 :: st)) : V P M d r h' h pc L st := by
  subst hq
  refine V.step (fun g p l e R s m args below meth c Q H locs cells slots ls _ C hL hR w => ?_) k
  obtain ⟨cf, kf, fi, f, a, cell, h1, h2, h3, h4, h5, h6, h7, h8⟩ := C.jd.2.2.2.2.2.1.kept (hR.old C.jd)
  exact W.gets C.1 C.2.1 C.own (C.hts _ hl) h1 h2 h3 h4 h5 (fun e => by rw [e] at h6; cases h6) h7 rfl hd w
end VTK
/-! new cells -/
def nO (h : MH) (ci : Nat) : Option (Nat × MH) := some (h.2.2.2.length, nC h ci 0)
def nO2 (h : MH) (kd n : Nat) : Option (Nat × MH) := some (h.2.2.2.length, nC h kd n)
theorem lsw_out2 {x : Int32} {a b dflt : Int} (h0 : ¬ x = 0) (h1 : ¬ x = 1) : Op.lookupswitch.offset (#[((0 : Int), a), (1, b)] : Array (Int × Int)).toList dflt x.toInt = dflt := by
  have e0 : ¬ x.toInt = 0 := fun e => h0 (i32_of_toInt (k := 0) (by decide) e)
  have e1 : ¬ x.toInt = 1 := fun e => h1 (i32_of_toInt (k := 1) (by decide) e)
  have f0 : ¬ (0 : Int) = x.toInt := fun e => e0 e.symm
  have f1 : ¬ (1 : Int) = x.toInt := fun e => e1 e.symm
  simp [Op.lookupswitch.offset_cons, Op.lookupswitch.offset_nil, e0, e1, f0, f1]
