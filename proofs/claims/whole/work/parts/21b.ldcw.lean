/-! a text by a wide index -/
theorem mLdcSW {p : Program} {l : Launch} {e : Env} {R : Room} {s : State} {m : MethodId} {args : Array Value} {below : List Frame} {meth : Method} {c : Code} {H : Heap} {locs : List Loc} {cells slots : Nat} {Q : State → Prop} {cc : ByteArray} {pc : Nat} {ls : Array Slot} {rest : List Value}
    (hexec : p.tables.exec = Jvm.exec) (hb : c.code = cc) {own tx : String} {index q : Nat} (hown : s.vm.findClass own = some m.cls) (hZ : vk_R own index tx q s) (hdg : decode cc pc = .ok (.ldc_w index, 3))
    (k : W p l e R s m args below meth c H locs cells slots Q (F0 m (pc + 3) ls (.ref q :: rest))) : W p l e R s m args below meth c H locs cells slots Q (F0 m pc ls rest) := by
  intro T hT X
  obtain ⟨t, a1, b1⟩ := k T hT X
  exact ⟨t, X.ldcStringW hexec hown (text := tx) (a := q) hZ.1 hZ.2 (g := F0 m pc ls rest) rfl (by rw [hb]; exact hdg) t a1, b1⟩
theorem V.ldcSw {P : GE → Launch → Prop} {M : MD} {d : Nat} {r : Option Value} {h' h : MH} {pc q idx : Nat} {L st : List Value} {i : Nat} (hs : (sTab[i]?).map (fun q => (q.1, q.2.1)) = some (M.1.cls, idx)) (hd : decode M.2.1 pc = .ok (.ldc_w idx, 3)) (hq : pc + 3 = q) (k : V P M d r h' h q L (.retAddr i :: st)) : V P M d r h' h pc L st := by
  subst hq
  refine V.step (fun g p l e R s m args below meth c Q H locs cells slots ls _ C hL hR w => ?_) k
  cases hz : sTab[i]? with
  | none => rw [hz] at hs; cases hs
  | some z =>
    rw [hz] at hs
    obtain ⟨b, v, e1, -, hK, -⟩ := C.jd.2.2.2.1 i z hz
    have e2 := Option.some.inj hs
    have w2 := w
    rw [List.map_cons, enc_tok e1] at w2
    rw [show z.1 = M.1.cls from congrArg Prod.fst e2, show z.2.1 = idx from congrArg Prod.snd e2] at hK
    exact mLdcSW C.1 C.2.1 C.own hK hd w2
