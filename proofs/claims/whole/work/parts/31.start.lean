def R_law : String := "StampViewsLaw"
def lw_P (b : Addr) (xs : List Int32) (args : Array Value) (s : State) : Prop := args = #[.ref b] ∧ s.IntsAt b xs ∧ xs.length ≤ 3072 ∧ (Jvm.Cond.and given_1 narrow_1).before args s = true
def lw_Q (_ : Array Value) (s : State) (o : Outcome) (t : State) : Prop := o = .returned (some (.int 1)) ∧ Framed s o t [] 601024 7293034
def lw_Z (below : List Frame) (a : Array Value) (s : State) : State → Prop := fun t => ∃ o, t.status = .running ∧ Ended t below o ∧ lw_Q a s o t
/-- the law's own end, with 1 on the stack, nothing written that was there before, its room as the claim has it -/
theorem lw_ret {p : Program} {l : Launch} {e : Env} {s : State} {m : MethodId} {below : List Frame} {meth : Method} {c : Code} {b : Nat} (hx : p.tables.exec = Jvm.exec) (hb : c.code = code) (hr : meth.sig.returnType = ret) (hlocks : meth.locks = false) {pc : Nat} {H : Heap} {ls : Array Slot} (hdg : decode code pc = .ok (.ireturn, 1)) : W p l e room_1 s m #[Value.ref b] below meth c H [] 601024 7293034 (lw_Z below #[Value.ref b] s) (F0 m pc ls [.int 1]) := by
  intro T hT X
  obtain ⟨fs, hret, hrun, hended, hW, hframe⟩ := X.leave (v := some (.int 1)) (hlocks := hlocks) (fun h => by rw [hr] at h; cases h)
  have hmeth' : T.vm.method? m = some meth := X.method'
  refine ⟨T.setFrames fs, ?_, .returned (some (.int 1)), hrun, hended, rfl, ⟨_, rfl⟩, hW, hframe⟩
  jvm_step X.here [X.here.top, hx, hb, hdg, hmeth', hr, ret, narrow_b1]
  (try refine ⟨rfl, ?_⟩); (try refine ⟨rfl, ?_⟩)
  first | (intro acts; rw [hret _ acts rfl rfl rfl]) | rw [hret _ _ rfl rfl rfl]
  exact Steps.refl _
/-- what holds at the law's entry: the machine, the code, the tables' words (any of lw_tbl by 'hts w (by decide +kernel)'), the script of L ints xs at the cell b, what the Statement gives of the start (any of its parts by flat_of_before) -/
def lw_At (p : Program) (s : State) (m : MethodId) (meth : Method) (c : Code) (b L : Nat) (xs : Nat → Int32) : Prop :=
  p.tables.exec = Jvm.exec ∧ c.code = code ∧ meth.sig.returnType = ret ∧ c.maxLocals = 7 ∧ s.vm.findClass R_law = some m.cls ∧ (∀ w ∈ lw_tbl, w.before #[Value.ref b] s = true) ∧ va_X b L xs s s.heap ∧ b < s.heap.size ∧ meth.locks = false ∧ (Jvm.Cond.and given_1 narrow_1).before #[Value.ref b] s = true
/-! ===== the start ===== -/
def h0M : MH := (fun _ _ => 0, fun _ _ => 0, fun _ _ => none, [])
/-- what the statement gives of a text -/
def sTxt (q : String × Nat × String × List Int32) : List Cond := [.exactly (.string q.1 q.2.1) "java/lang/String", .eq (.field (.string q.1 q.2.1) "java/lang/String" "coder" "B") (.int 0), .arrayOf (.field (.string q.1 q.2.1) "java/lang/String" "value" "[B") .byte,
  .eq (.length (.field (.string q.1 q.2.1) "java/lang/String" "value" "[B")) (.int (Int32.ofNat q.2.2.2.length))] ++ (List.range q.2.2.2.length).map (fun j => .eq (.elem (.field (.string q.1 q.2.1) "java/lang/String" "value" "[B") (.int (Int32.ofNat j))) (.int (q.2.2.2.getD j 0)))
set_option maxRecDepth 100000 in
theorem sTxt_eq : (flatC (Jvm.Cond.and given_1 narrow_1)).drop 25 = (sTab.map sTxt).flatten := by decide +kernel
theorem sTxt_in {q : String × Nat × String × List Int32} (hq : q ∈ sTab) {w : Cond} (hw : w ∈ sTxt q) : w ∈ flatC (Jvm.Cond.and given_1 narrow_1) := by
  have h : w ∈ (flatC (Jvm.Cond.and given_1 narrow_1)).drop 25 := by
    rw [sTxt_eq]
    exact List.mem_flatten.mpr ⟨_, List.mem_map.mpr ⟨q, hq, rfl⟩, hw⟩
  exact List.mem_of_mem_drop h
theorem sTxt_len : sTab.all (fun q => decide (q.2.2.2.length < 2147483648)) = true := by decide +kernel
theorem sTxt_ref : sTab.all (fun q => decide (Cond.stringRef q.1 q.2.1 q.2.2.1 ∈ tables_1)) = true := by decide +kernel
theorem sTxt_at {args : Array Value} {s : State} (hts : ∀ w ∈ lw_tbl, w.before args s = true) (hgv : (Jvm.Cond.and given_1 narrow_1).before args s = true) (i : Nat) : ∃ y : Nat × Nat, ∀ q, sTab[i]? = some q →
    vk_R q.1 q.2.1 q.2.2.1 y.1 s ∧ va_O "java/lang/String" y.1 (fun a => s.heap.size ≤ a) s s.heap ∧ va_OF "java/lang/String" "coder" "B" (.int 0) y.1 (fun a => s.heap.size ≤ a) s s.heap ∧ va_OF "java/lang/String" "value" "[B" (.ref y.2) y.1 (fun a => s.heap.size ≤ a) s s.heap ∧ va_T .byte y.2 q.2.2.2.length (fun j => .int (q.2.2.2.getD j 0)) (fun a => s.heap.size ≤ a) s s.heap := by
  cases hq : sTab[i]? with
  | none => exact ⟨(0, 0), fun q h => by cases h⟩
  | some q =>
    have hm := List.mem_of_getElem? hq
    have h1 : q.2.2.2.length < 2147483648 := of_decide_eq_true (List.all_eq_true.mp sTxt_len q hm)
    have h2 : Cond.stringRef q.1 q.2.1 q.2.2.1 ∈ tables_1 := of_decide_eq_true (List.all_eq_true.mp sTxt_ref q hm)
    have h3 : ∀ w ∈ sTxt q, w ∈ flatC (Jvm.Cond.and given_1 narrow_1) := fun w hw => sTxt_in hm hw
    have hs := flat_of_before _ hgv
    obtain ⟨adK, adV, hS, hE⟩ := vk_Sof (args := args) (s := s) (N := 1) (tm := fun _ => .string q.1 q.2.1) (len := [q.2.2.2.length]) (byt := [q.2.2.2]) (A := fun a => s.heap.size ≤ a)
      (fun j hj => by rcases (show j = 0 by omega) with rfl; exact h1)
      (fun j hj => hs _ (h3 _ (by simp [sTxt]))) (fun j hj => hs _ (h3 _ (by simp [sTxt]))) (fun j hj => hs _ (h3 _ (by simp [sTxt])))
      (fun j hj => by rcases (show j = 0 by omega) with rfl; exact hs _ (h3 _ (by simp [sTxt])))
      (fun j hj k hk => by
        rcases (show j = 0 by omega) with rfl
        refine hs _ (h3 _ (List.mem_append_right _ (List.mem_map.mpr ⟨k, List.mem_range.mpr hk, rfl⟩))))
      (fun j k hj hk hn => absurd (show j = k by omega) hn) (fun a ha => Nat.not_le.mpr ha)
    refine ⟨(adK 0, adV 0), fun q' h' => ?_⟩
    cases h'
    obtain ⟨t1, t2, t3, t4⟩ := hS.1 0 (by decide)
    exact ⟨vk_R.of (A := args) (hts _ (List.mem_append_right _ h2)) (hE 0 (by decide)), t1, t2, t3, t4⟩
theorem vw_instA : vwCl.all (fun q => decide (Cond.instantiable q.1 q.2.2 ∈ tables_1) && goodWord (.instantiable q.1 q.2.2)) = true := by decide +kernel
theorem vw_inst {ci : Nat} {C : String} {T : u_T} {N : Nat} (h : vwCl[ci]? = some (C, T, N)) : Cond.instantiable C N ∈ TB := by
  have h1 := List.all_eq_true.mp vw_instA _ (List.mem_of_getElem? h)
  simp only [Bool.and_eq_true, decide_eq_true_eq] at h1
  exact TB_in (List.mem_append_right _ h1.1) h1.2
theorem cls_at {args : Array Value} {s : State} (hts : ∀ w ∈ TB, w.before args s = true) (ci : Nat) : ∃ y : ClassId × (Nat → Nat), ∀ q, vwCl[ci]? = some q → u_Kn s q.1 q.2.1 q.2.2 y.1 y.2 := by
  cases hq : vwCl[ci]? with
  | none => exact ⟨(0, fun _ => 0), fun q h => by cases h⟩
  | some q =>
    obtain ⟨C, T, N⟩ := q
    have hi : Cond.instantiable C N ∈ TB := vw_inst hq
    obtain ⟨cC, iS, hK⟩ := u_known (C := C) (T := T) (N := N) (n := N) hts (vw_in hq) (hts _ hi)
    exact ⟨(cC, iS), fun q' h' => by cases h'; exact hK⟩
theorem ov_at {args : Array Value} {s : State} {t : Term} (h : (Cond.isRef t).before args s = true) : ∃ o : Option Nat, t.eval args s none [] s = some (va_rf o) := by
  unfold Cond.before Cond.holds Cond.value at h
  cases hv : t.eval args s none [] s with
  | none => simp [hv] at h
  | some v =>
    cases v with
    | null => exact ⟨none, rfl⟩
    | ref a => exact ⟨some a, rfl⟩
    | _ => simp [hv, Value.isRef] at h
theorem aOver {args : Array Value} {s : State} {cI : ClassId} (hI : s.vm.findClass "[I" = some cI) (h : (Cond.arrayOver (.array .int)).before args s = true) : ∃ (c : ClassId) (k : Class), s.vm.findClass "[[I" = some c ∧ s.vm.classes[c]? = some k ∧ k.kind = .array cI (.array .int) := by
  have e0 : (FieldType.array FieldType.int).toString = "[I" := by decide
  unfold Cond.before at h
  simp only [Cond.holds, Cond.value, e0, hI, beq_iff_eq, Option.bind_some, Option.bind_eq_some_iff, Option.map_eq_some_iff] at h
  obtain ⟨c, hi, k, hk, hb⟩ := h
  obtain ⟨hlt, hp, -⟩ := Array.findIdx?_eq_some_iff_getElem.mp hi
  have hkk : s.vm.classes[c] = k := (Array.getElem?_eq_some_iff.mp hk).2
  rw [hkk] at hp
  cases hkind : k.kind with
  | array component ty =>
    rw [hkind] at hb hp
    simp at hb hp
    refine ⟨c, k, ?_, hk, by rw [hkind, hp, hb.1]⟩
    exact hb.2
  | _ => rw [hkind] at hb; simp at hb
theorem startW : [Cond.arrayClass .byte, .arrayClass .int, .arrayClass .long, .laysStatic "java/lang/String" "COMPACT_STRINGS" "Z", .initialized "java/lang/String", .laysStatic "jdk/internal/util/Preconditions" "SIOOBE_FORMATTER" "Ljava/util/function/BiFunction;", .initialized "jdk/internal/util/Preconditions", .laysStatic Bundle.tN "UNASSIGNED_STACK" Bundle.steD, .laysStatic Bundle.tN "SUPPRESSED_SENTINEL" Bundle.listD, .initialized Bundle.tN, .arrayOver (.array .int)].all (fun w => decide (w ∈ lw_tbl)) = true := by decide +kernel
theorem startW_at {w : Cond} (h : w ∈ [Cond.arrayClass .byte, .arrayClass .int, .arrayClass .long, .laysStatic "java/lang/String" "COMPACT_STRINGS" "Z", .initialized "java/lang/String", .laysStatic "jdk/internal/util/Preconditions" "SIOOBE_FORMATTER" "Ljava/util/function/BiFunction;", .initialized "jdk/internal/util/Preconditions", .laysStatic Bundle.tN "UNASSIGNED_STACK" Bundle.steD, .laysStatic Bundle.tN "SUPPRESSED_SENTINEL" Bundle.listD, .initialized Bundle.tN, .arrayOver (.array .int)]) : w ∈ lw_tbl := of_decide_eq_true (List.all_eq_true.mp startW w h)
theorem startG : [Cond.eq (.static "java/lang/String" "COMPACT_STRINGS" "Z") (.int 1), .isRef (.static "jdk/internal/util/Preconditions" "SIOOBE_FORMATTER" "Ljava/util/function/BiFunction;"), .isRef (.static Bundle.tN "UNASSIGNED_STACK" Bundle.steD), .isRef (.static Bundle.tN "SUPPRESSED_SENTINEL" Bundle.listD)].all (fun w => decide (w ∈ flatC (Jvm.Cond.and given_1 narrow_1))) = true := by decide +kernel
theorem startG_at {w : Cond} (h : w ∈ [Cond.eq (.static "java/lang/String" "COMPACT_STRINGS" "Z") (.int 1), .isRef (.static "jdk/internal/util/Preconditions" "SIOOBE_FORMATTER" "Ljava/util/function/BiFunction;"), .isRef (.static Bundle.tN "UNASSIGNED_STACK" Bundle.steD), .isRef (.static Bundle.tN "SUPPRESSED_SENTINEL" Bundle.listD)]) : w ∈ flatC (Jvm.Cond.and given_1 narrow_1) := of_decide_eq_true (List.all_eq_true.mp startG w h)
theorem start_g {p : Program} {s : State} {m : MethodId} {meth : Method} {c : Code} {b L : Nat} {xs : Nat → Int32} (C0 : lw_At p s m meth c b L xs) : ∃ g : GE, g.1 = s.heap.size ∧ g.2.2.2.2.1 = s.heap ∧ g.2.2.2.1 1000 = some b ∧ g.2.2.2.2.2.1 = L ∧ g.2.2.2.2.2.2 = xs ∧ CxG g s := by
  obtain ⟨hx, hb, hr, hml, hown, hts, hX, hbl, hlocks, hgv⟩ := id C0
  have hTB : ∀ w ∈ TB, w.before #[Value.ref b] s = true := fun w hw => hts w (TB_tbl hw)
  have hs := flat_of_before _ hgv
  obtain ⟨fC, hC⟩ := Classical.axiomOfChoice (cls_at hTB)
  obtain ⟨fT, hT⟩ := Classical.axiomOfChoice (sTxt_at hts hgv)
  obtain ⟨cB, kB, pB, b1, b2, b3⟩ := Cond.arrayClass_spec (hts _ (startW_at (w := .arrayClass .byte) (by simp)))
  obtain ⟨cI, kI, pI, i1, i2, i3⟩ := Cond.arrayClass_spec (hts _ (startW_at (w := .arrayClass .int) (by simp)))
  obtain ⟨cJ, kJ, pJ, j1, j2, j3⟩ := Cond.arrayClass_spec (hts _ (startW_at (w := .arrayClass .long) (by simp)))
  have i1' : s.vm.findClass "[I" = some cI := i1
  obtain ⟨cO, kO, o1, o2, o3⟩ := aOver i1' (hts _ (startW_at (w := .arrayOver (.array .int)) (by simp)))
  obtain ⟨ov, hov⟩ := ov_at (hs _ (startG_at (w := .isRef (.static "jdk/internal/util/Preconditions" "SIOOBE_FORMATTER" "Ljava/util/function/BiFunction;")) (by simp)))
  have hA : ∀ a : Nat, a < s.heap.size → ¬ s.heap.size ≤ a := fun a ha => Nat.not_le.mpr ha
  refine ⟨(s.heap.size, (fun k => (fC k).1, fun k => (fC k).2), (cB, cI, cJ, cO), fun i => if i = 1000 then some b else if i = 1001 then ov else if i < 100 then some (fT i).1 else some (fT (i - 100)).2, s.heap, L, xs), rfl, rfl, rfl, rfl, rfl, ?_, ?_, ?_⟩
  · refine ⟨fun k q hq => hC k q hq, fun k q hk => ?_⟩
    match k, hk with
    | 0, hk => cases hk; exact ⟨fun n z => ⟨fun k h => (by cases h), kB, b2, pB, b3⟩, b1⟩
    | 1, hk => cases hk; exact ⟨fun n z => ⟨fun k h => (by cases h), kI, i2, pI, i3⟩, i1⟩
    | 2, hk => cases hk; exact ⟨fun n z => ⟨fun k h => (by cases h), kJ, j2, pJ, j3⟩, j1⟩
    | 3, hk => cases hk; exact ⟨fun n z => ⟨fun k h => (by cases h), kO, o2, cI, o3⟩, o1⟩
    | k + 4, hk => cases hk
  · intro w hw
    exact va_Nw.of (nestW_tab hw) (hts w (List.mem_append_right _ (List.mem_filter.mp hw).1))
  · refine ⟨⟨kO, o2, o3⟩, rfl, ⟨b, rfl, hbl, hX⟩, fun i q hq => ?_, ?_, ?_, ?_, ?_⟩
    · have hi : i < 26 := (List.getElem?_eq_some_iff.mp hq).1
      obtain ⟨t1, t2, t3, t4, t5⟩ := hT i q hq
      refine ⟨(fT i).1, (fT i).2, ?_, ?_, t1, t2, t3, t4, t5⟩
      · show (if i = 1000 then _ else _) = _
        rw [if_neg (by omega), if_neg (by omega), if_pos (by omega)]
      · show (if 100 + i = 1000 then _ else _) = _
        rw [if_neg (by omega), if_neg (by omega), if_neg (by omega), show 100 + i - 100 = i by omega]
    · exact va_Zof (hts _ (startW_at (by simp))) (hts _ (startW_at (by simp))) (va_eqt (hs _ (startG_at (by simp)))) hA
    · exact va_Zof (hts _ (startW_at (by simp))) (hts _ (startW_at (by simp))) hov hA
    · exact vx_Zqof (hts _ (startW_at (by simp [Bundle.tN, Bundle.steD]))) (hts _ (startW_at (by simp [Bundle.tN]))) (hs _ (startG_at (by simp [Bundle.tN, Bundle.steD]))) hA
    · exact vx_Zqof (hts _ (startW_at (by simp [Bundle.tN, Bundle.listD]))) (hts _ (startW_at (by simp [Bundle.tN]))) (hs _ (startG_at (by simp [Bundle.tN, Bundle.listD]))) hA
/-- the law, from what its function says -/
theorem start_of {p : Program} {e : Env} {s : State} {m : MethodId} {below : List Frame} {meth : Method} {c : Code} (l : Launch) (hlt : l.stackTraces = false) {b L : Nat} {xs : Nat → Int32} (C0 : lw_At p s m meth c b L xs) {h' : MH} (hf : fL_law L xs h0M = some (1, h')) (hc : mLen h' ≤ 601024) (hs : mSl h' ≤ 7293034) :
    W p l e room_1 s m #[Value.ref b] below meth c s.heap [] 0 0 (lw_Z below #[Value.ref b] s) (entryFrame m ([Value.ref b] : List Value).toArray 7) := by
  obtain ⟨g, g1, g2, g3, g4, g5, hG⟩ := start_g C0
  obtain ⟨hx, hb, hr, hml, hown, hts, hX, hbl, hlocks, hgv⟩ := id C0
  have C : CX mL_law 18 g p room_1 s m #[Value.ref b] meth c := ⟨hx, hb, hr, hml, hown, hlocks, fun h => absurd h (by decide), fun w hw => hts w (TB_tbl hw), hG, by decide, by decide⟩
  have hV := tL_law hf
  rw [lg_entry_eq]
  refine hV.2 g p l e room_1 s m _ below meth c _ 0 0 ⟨g4, g5, hlt⟩ C hc hs ⟨?_, fun x hx => by cases hx⟩ s.heap [] 0 0 _ rfl rfl ?_ (fun q hq => by cases hq) ?_
  · intro H1 locs1 cells1 slots1 pc1 ls1 hR1 hl1 e1 e2 hok hd T hT X
    refine lw_ret (l := l) hx hb hr hlocks hd T hT { X with same := X.same.weaken (fun y hy hlt' => ?_) (by omega) (by omega) }
    exact absurd hlt' (Nat.not_lt.mpr (by rw [← g1]; exact hl1 y hy))
  · refine ⟨by rw [g1]; rfl, fun k kd n hk _ => (by simp [h0M] at hk), fun q hq => by rw [g2]⟩
  · have hl := LR.entry (M := mL_law) (vs := [.retAddr 1000]) g (Nat.le_of_ble_eq_true rfl)
    have e1 : ([.retAddr 1000] : List Value).map (enc g) = [.ref b] := by rw [List.map_cons, List.map_nil, enc_tok g3]
    rw [e1] at hl
    exact hl
