theorem V.iadd {P : GE → Launch → Prop} {M : MD} {d : Nat} {r : Option Value} {h' h : MH} {pc q : Nat} {L st : List Value} {x y : Int32} (hd : decode M.2.1 pc = .ok (.iadd, 1)) (hq : pc + 1 = q) (k : V P M d r h' h q L (.int (x + y) :: st)) : V P M d r h' h pc L (.int y :: .int x :: st) := by
  subst hq
  exact V.step (fun g p l e R s m args below meth c Q H locs cells slots ls _ C hL hR w => lv_iadd C.1 C.2.1 hd  w) k
theorem V.isub {P : GE → Launch → Prop} {M : MD} {d : Nat} {r : Option Value} {h' h : MH} {pc q : Nat} {L st : List Value} {x y : Int32} (hd : decode M.2.1 pc = .ok (.isub, 1)) (hq : pc + 1 = q) (k : V P M d r h' h q L (.int (x - y) :: st)) : V P M d r h' h pc L (.int y :: .int x :: st) := by
  subst hq
  exact V.step (fun g p l e R s m args below meth c Q H locs cells slots ls _ C hL hR w => lv_isub C.1 C.2.1 hd  w) k
theorem V.imul {P : GE → Launch → Prop} {M : MD} {d : Nat} {r : Option Value} {h' h : MH} {pc q : Nat} {L st : List Value} {x y : Int32} (hd : decode M.2.1 pc = .ok (.imul, 1)) (hq : pc + 1 = q) (k : V P M d r h' h q L (.int (x * y) :: st)) : V P M d r h' h pc L (.int y :: .int x :: st) := by
  subst hq
  exact V.step (fun g p l e R s m args below meth c Q H locs cells slots ls _ C hL hR w => lv_imul C.1 C.2.1 hd  w) k
theorem V.iand {P : GE → Launch → Prop} {M : MD} {d : Nat} {r : Option Value} {h' h : MH} {pc q : Nat} {L st : List Value} {x y : Int32} (hd : decode M.2.1 pc = .ok (.iand, 1)) (hq : pc + 1 = q) (k : V P M d r h' h q L (.int (x &&& y) :: st)) : V P M d r h' h pc L (.int y :: .int x :: st) := by
  subst hq
  exact V.step (fun g p l e R s m args below meth c Q H locs cells slots ls _ C hL hR w => lv_iand C.1 C.2.1 hd  w) k
theorem V.ior {P : GE → Launch → Prop} {M : MD} {d : Nat} {r : Option Value} {h' h : MH} {pc q : Nat} {L st : List Value} {x y : Int32} (hd : decode M.2.1 pc = .ok (.ior, 1)) (hq : pc + 1 = q) (k : V P M d r h' h q L (.int (x ||| y) :: st)) : V P M d r h' h pc L (.int y :: .int x :: st) := by
  subst hq
  exact V.step (fun g p l e R s m args below meth c Q H locs cells slots ls _ C hL hR w => lv_ior C.1 C.2.1 hd  w) k
theorem V.ixor {P : GE → Launch → Prop} {M : MD} {d : Nat} {r : Option Value} {h' h : MH} {pc q : Nat} {L st : List Value} {x y : Int32} (hd : decode M.2.1 pc = .ok (.ixor, 1)) (hq : pc + 1 = q) (k : V P M d r h' h q L (.int (x ^^^ y) :: st)) : V P M d r h' h pc L (.int y :: .int x :: st) := by
  subst hq
  exact V.step (fun g p l e R s m args below meth c Q H locs cells slots ls _ C hL hR w => lv_ixor C.1 C.2.1 hd  w) k
theorem V.ishl {P : GE → Launch → Prop} {M : MD} {d : Nat} {r : Option Value} {h' h : MH} {pc q : Nat} {L st : List Value} {x y : Int32} (hd : decode M.2.1 pc = .ok (.ishl, 1)) (hq : pc + 1 = q) (k : V P M d r h' h q L (.int (x <<< (y &&& 31)) :: st)) : V P M d r h' h pc L (.int y :: .int x :: st) := by
  subst hq
  exact V.step (fun g p l e R s m args below meth c Q H locs cells slots ls _ C hL hR w => lv_ishl C.1 C.2.1 hd  w) k
theorem V.ishr {P : GE → Launch → Prop} {M : MD} {d : Nat} {r : Option Value} {h' h : MH} {pc q : Nat} {L st : List Value} {x y : Int32} (hd : decode M.2.1 pc = .ok (.ishr, 1)) (hq : pc + 1 = q) (k : V P M d r h' h q L (.int (x >>> (y &&& 31)) :: st)) : V P M d r h' h pc L (.int y :: .int x :: st) := by
  subst hq
  exact V.step (fun g p l e R s m args below meth c Q H locs cells slots ls _ C hL hR w => lv_ishr C.1 C.2.1 hd  w) k
theorem V.iushr {P : GE → Launch → Prop} {M : MD} {d : Nat} {r : Option Value} {h' h : MH} {pc q : Nat} {L st : List Value} {x y : Int32} (hd : decode M.2.1 pc = .ok (.iushr, 1)) (hq : pc + 1 = q) (k : V P M d r h' h q L (.int ((x.toUInt32 >>> (y.toUInt32 &&& Int32.toUInt32 31)).toInt32) :: st)) : V P M d r h' h pc L (.int y :: .int x :: st) := by
  subst hq
  exact V.step (fun g p l e R s m args below meth c Q H locs cells slots ls _ C hL hR w => lv_iushr C.1 C.2.1 hd rfl w) k
theorem V.ladd {P : GE → Launch → Prop} {M : MD} {d : Nat} {r : Option Value} {h' h : MH} {pc q : Nat} {L st : List Value} {x y : Int64} (hd : decode M.2.1 pc = .ok (.ladd, 1)) (hq : pc + 1 = q) (k : V P M d r h' h q L (.long (x + y) :: st)) : V P M d r h' h pc L (.long y :: .long x :: st) := by
  subst hq
  exact V.step (fun g p l e R s m args below meth c Q H locs cells slots ls _ C hL hR w => lv_ladd C.1 C.2.1 hd  w) k
theorem V.lsub {P : GE → Launch → Prop} {M : MD} {d : Nat} {r : Option Value} {h' h : MH} {pc q : Nat} {L st : List Value} {x y : Int64} (hd : decode M.2.1 pc = .ok (.lsub, 1)) (hq : pc + 1 = q) (k : V P M d r h' h q L (.long (x - y) :: st)) : V P M d r h' h pc L (.long y :: .long x :: st) := by
  subst hq
  exact V.step (fun g p l e R s m args below meth c Q H locs cells slots ls _ C hL hR w => lv_lsub C.1 C.2.1 hd  w) k
theorem V.lmul {P : GE → Launch → Prop} {M : MD} {d : Nat} {r : Option Value} {h' h : MH} {pc q : Nat} {L st : List Value} {x y : Int64} (hd : decode M.2.1 pc = .ok (.lmul, 1)) (hq : pc + 1 = q) (k : V P M d r h' h q L (.long (x * y) :: st)) : V P M d r h' h pc L (.long y :: .long x :: st) := by
  subst hq
  exact V.step (fun g p l e R s m args below meth c Q H locs cells slots ls _ C hL hR w => lv_lmul C.1 C.2.1 hd  w) k
theorem V.land {P : GE → Launch → Prop} {M : MD} {d : Nat} {r : Option Value} {h' h : MH} {pc q : Nat} {L st : List Value} {x y : Int64} (hd : decode M.2.1 pc = .ok (.land, 1)) (hq : pc + 1 = q) (k : V P M d r h' h q L (.long (x &&& y) :: st)) : V P M d r h' h pc L (.long y :: .long x :: st) := by
  subst hq
  exact V.step (fun g p l e R s m args below meth c Q H locs cells slots ls _ C hL hR w => lv_land C.1 C.2.1 hd  w) k
theorem V.lor {P : GE → Launch → Prop} {M : MD} {d : Nat} {r : Option Value} {h' h : MH} {pc q : Nat} {L st : List Value} {x y : Int64} (hd : decode M.2.1 pc = .ok (.lor, 1)) (hq : pc + 1 = q) (k : V P M d r h' h q L (.long (x ||| y) :: st)) : V P M d r h' h pc L (.long y :: .long x :: st) := by
  subst hq
  exact V.step (fun g p l e R s m args below meth c Q H locs cells slots ls _ C hL hR w => lv_lor C.1 C.2.1 hd  w) k
theorem V.lxor {P : GE → Launch → Prop} {M : MD} {d : Nat} {r : Option Value} {h' h : MH} {pc q : Nat} {L st : List Value} {x y : Int64} (hd : decode M.2.1 pc = .ok (.lxor, 1)) (hq : pc + 1 = q) (k : V P M d r h' h q L (.long (x ^^^ y) :: st)) : V P M d r h' h pc L (.long y :: .long x :: st) := by
  subst hq
  exact V.step (fun g p l e R s m args below meth c Q H locs cells slots ls _ C hL hR w => lv_lxor C.1 C.2.1 hd  w) k
theorem V.lshl {P : GE → Launch → Prop} {M : MD} {d : Nat} {r : Option Value} {h' h : MH} {pc q : Nat} {L st : List Value} {x : Int64} {y : Int32} (hd : decode M.2.1 pc = .ok (.lshl, 1)) (hq : pc + 1 = q) (k : V P M d r h' h q L (.long (x <<< (y.toInt64 &&& 63)) :: st)) : V P M d r h' h pc L (.int y :: .long x :: st) := by
  subst hq
  exact V.step (fun g p l e R s m args below meth c Q H locs cells slots ls _ C hL hR w => lv_lshl C.1 C.2.1 hd rfl w) k
theorem V.lshr {P : GE → Launch → Prop} {M : MD} {d : Nat} {r : Option Value} {h' h : MH} {pc q : Nat} {L st : List Value} {x : Int64} {y : Int32} (hd : decode M.2.1 pc = .ok (.lshr, 1)) (hq : pc + 1 = q) (k : V P M d r h' h q L (.long (x >>> (y.toInt64 &&& 63)) :: st)) : V P M d r h' h pc L (.int y :: .long x :: st) := by
  subst hq
  exact V.step (fun g p l e R s m args below meth c Q H locs cells slots ls _ C hL hR w => lv_lshr C.1 C.2.1 hd rfl w) k
theorem V.lushr {P : GE → Launch → Prop} {M : MD} {d : Nat} {r : Option Value} {h' h : MH} {pc q : Nat} {L st : List Value} {x : Int64} {y : Int32} (hd : decode M.2.1 pc = .ok (.lushr, 1)) (hq : pc + 1 = q) (k : V P M d r h' h q L (.long ((x.toUInt64 >>> (y.toInt64.toUInt64 &&& Int64.toUInt64 63)).toInt64) :: st)) : V P M d r h' h pc L (.int y :: .long x :: st) := by
  subst hq
  exact V.step (fun g p l e R s m args below meth c Q H locs cells slots ls _ C hL hR w => lv_lushr C.1 C.2.1 hd rfl w) k
theorem V.idiv {P : GE → Launch → Prop} {M : MD} {d : Nat} {r : Option Value} {h' h : MH} {pc q : Nat} {L st : List Value} {x y : Int32} (hne : ¬ y = 0) (hd : decode M.2.1 pc = .ok (.idiv, 1)) (hq : pc + 1 = q) (k : V P M d r h' h q L (.int (x / y) :: st)) : V P M d r h' h pc L (.int y :: .int x :: st) := by
  subst hq
  exact V.step (fun g p l e R s m args below meth c Q H locs cells slots ls _ C hL hR w => lv_idiv C.1 C.2.1 hd hne w) k
theorem V.irem {P : GE → Launch → Prop} {M : MD} {d : Nat} {r : Option Value} {h' h : MH} {pc q : Nat} {L st : List Value} {x y : Int32} (hne : ¬ y = 0) (hd : decode M.2.1 pc = .ok (.irem, 1)) (hq : pc + 1 = q) (k : V P M d r h' h q L (.int (x - x / y * y) :: st)) : V P M d r h' h pc L (.int y :: .int x :: st) := by
  subst hq
  exact V.step (fun g p l e R s m args below meth c Q H locs cells slots ls _ C hL hR w => lv_irem C.1 C.2.1 hd hne w) k
theorem V.ldiv {P : GE → Launch → Prop} {M : MD} {d : Nat} {r : Option Value} {h' h : MH} {pc q : Nat} {L st : List Value} {x y : Int64} (hne : ¬ y = 0) (hd : decode M.2.1 pc = .ok (.ldiv, 1)) (hq : pc + 1 = q) (k : V P M d r h' h q L (.long (x / y) :: st)) : V P M d r h' h pc L (.long y :: .long x :: st) := by
  subst hq
  exact V.step (fun g p l e R s m args below meth c Q H locs cells slots ls _ C hL hR w => lv_ldiv C.1 C.2.1 hd hne w) k
theorem V.lrem {P : GE → Launch → Prop} {M : MD} {d : Nat} {r : Option Value} {h' h : MH} {pc q : Nat} {L st : List Value} {x y : Int64} (hne : ¬ y = 0) (hd : decode M.2.1 pc = .ok (.lrem, 1)) (hq : pc + 1 = q) (k : V P M d r h' h q L (.long (x - x / y * y) :: st)) : V P M d r h' h pc L (.long y :: .long x :: st) := by
  subst hq
  exact V.step (fun g p l e R s m args below meth c Q H locs cells slots ls _ C hL hR w => lv_lrem C.1 C.2.1 hd hne w) k
theorem V.ineg {P : GE → Launch → Prop} {M : MD} {d : Nat} {r : Option Value} {h' h : MH} {pc q : Nat} {L st : List Value} {x : Int32} (hd : decode M.2.1 pc = .ok (.ineg, 1)) (hq : pc + 1 = q) (k : V P M d r h' h q L (.int (-x) :: st)) : V P M d r h' h pc L (.int x :: st) := by
  subst hq
  exact V.step (fun g p l e R s m args below meth c Q H locs cells slots ls _ C hL hR w => lv_ineg C.1 C.2.1 hd  w) k
theorem V.i2l {P : GE → Launch → Prop} {M : MD} {d : Nat} {r : Option Value} {h' h : MH} {pc q : Nat} {L st : List Value} {x : Int32} (hd : decode M.2.1 pc = .ok (.i2l, 1)) (hq : pc + 1 = q) (k : V P M d r h' h q L (.long (x.toInt64) :: st)) : V P M d r h' h pc L (.int x :: st) := by
  subst hq
  exact V.step (fun g p l e R s m args below meth c Q H locs cells slots ls _ C hL hR w => lv_i2l C.1 C.2.1 hd rfl w) k
theorem V.l2i {P : GE → Launch → Prop} {M : MD} {d : Nat} {r : Option Value} {h' h : MH} {pc q : Nat} {L st : List Value} {x : Int64} (hd : decode M.2.1 pc = .ok (.l2i, 1)) (hq : pc + 1 = q) (k : V P M d r h' h q L (.int (x.toInt32) :: st)) : V P M d r h' h pc L (.long x :: st) := by
  subst hq
  exact V.step (fun g p l e R s m args below meth c Q H locs cells slots ls _ C hL hR w => lv_l2i C.1 C.2.1 hd rfl w) k
theorem V.i2b {P : GE → Launch → Prop} {M : MD} {d : Nat} {r : Option Value} {h' h : MH} {pc q : Nat} {L st : List Value} {x : Int32} (hd : decode M.2.1 pc = .ok (.i2b, 1)) (hq : pc + 1 = q) (k : V P M d r h' h q L (.int (x.toInt8.toInt32) :: st)) : V P M d r h' h pc L (.int x :: st) := by
  subst hq
  exact V.step (fun g p l e R s m args below meth c Q H locs cells slots ls _ C hL hR w => lv_i2b C.1 C.2.1 hd rfl w) k
theorem V.lcmp {P : GE → Launch → Prop} {M : MD} {d : Nat} {r : Option Value} {h' h : MH} {pc q : Nat} {L st : List Value} {x y : Int64} (hd : decode M.2.1 pc = .ok (.lcmp, 1)) (hq : pc + 1 = q) (k : V P M d r h' h q L (.int (lg_cmp x y) :: st)) : V P M d r h' h pc L (.long y :: .long x :: st) := by
  subst hq
  exact V.step (fun g p l e R s m args below meth c Q H locs cells slots ls _ C hL hR w => W.lcmp C.1 C.2.1 hd  w) k
theorem V.iconst {P : GE → Launch → Prop} {M : MD} {d : Nat} {r : Option Value} {h' h : MH} {pc q : Nat} {L st : List Value} {n : Int} {v : Int32} (hv : Int32.ofInt n = v) (hd : decode M.2.1 pc = .ok (.iconst n, 1)) (hq : pc + 1 = q) (k : V P M d r h' h q L (.int v :: st)) : V P M d r h' h pc L (st) := by
  subst hq
  exact V.step (fun g p l e R s m args below meth c Q H locs cells slots ls _ C hL hR w => lv_iconst C.1 C.2.1 hd hv w) k
theorem V.bipush {P : GE → Launch → Prop} {M : MD} {d : Nat} {r : Option Value} {h' h : MH} {pc q : Nat} {L st : List Value} {n : Int} {v : Int32} (hv : (Int8.ofInt n).toInt32 = v) (hd : decode M.2.1 pc = .ok (.bipush n, 2)) (hq : pc + 2 = q) (k : V P M d r h' h q L (.int v :: st)) : V P M d r h' h pc L (st) := by
  subst hq
  exact V.step (fun g p l e R s m args below meth c Q H locs cells slots ls _ C hL hR w => lv_bipush C.1 C.2.1 hd hv w) k
theorem V.sipush {P : GE → Launch → Prop} {M : MD} {d : Nat} {r : Option Value} {h' h : MH} {pc q : Nat} {L st : List Value} {n : Int} {v : Int32} (hv : (Int16.ofInt n).toInt32 = v) (hd : decode M.2.1 pc = .ok (.sipush n, 3)) (hq : pc + 3 = q) (k : V P M d r h' h q L (.int v :: st)) : V P M d r h' h pc L (st) := by
  subst hq
  exact V.step (fun g p l e R s m args below meth c Q H locs cells slots ls _ C hL hR w => lv_sipush C.1 C.2.1 hd hv w) k
theorem V.lconst {P : GE → Launch → Prop} {M : MD} {d : Nat} {r : Option Value} {h' h : MH} {pc q : Nat} {L st : List Value} {n : Fin 2} {v : Int64} (hv : Int64.ofNat (n : Nat) = v) (hd : decode M.2.1 pc = .ok (.lconst n, 1)) (hq : pc + 1 = q) (k : V P M d r h' h q L (.long v :: st)) : V P M d r h' h pc L (st) := by
  subst hq
  exact V.step (fun g p l e R s m args below meth c Q H locs cells slots ls _ C hL hR w => lv_lconst C.1 C.2.1 hd hv w) k
theorem V.dupI {P : GE → Launch → Prop} {M : MD} {d : Nat} {r : Option Value} {h' h : MH} {pc q : Nat} {L st : List Value} {x : Int32} (hd : decode M.2.1 pc = .ok (.dup, 1)) (hq : pc + 1 = q) (k : V P M d r h' h q L (.int x :: .int x :: st)) : V P M d r h' h pc L (.int x :: st) := by
  subst hq
  exact V.step (fun g p l e R s m args below meth c Q H locs cells slots ls _ C hL hR w => lv_dup (va := .int x) C.1 C.2.1 hd rfl w) k
theorem V.dupR {P : GE → Launch → Prop} {M : MD} {d : Nat} {r : Option Value} {h' h : MH} {pc q : Nat} {L st : List Value} {x : Nat} (hd : decode M.2.1 pc = .ok (.dup, 1)) (hq : pc + 1 = q) (k : V P M d r h' h q L (.ref x :: .ref x :: st)) : V P M d r h' h pc L (.ref x :: st) := by
  subst hq
  exact V.step (fun g p l e R s m args below meth c Q H locs cells slots ls _ C hL hR w => lv_dup C.1 C.2.1 hd rfl w) k
theorem V.dup2 {P : GE → Launch → Prop} {M : MD} {d : Nat} {r : Option Value} {h' h : MH} {pc q : Nat} {L st : List Value} {x : Int32} {a : Nat} (hd : decode M.2.1 pc = .ok (.dup2, 1)) (hq : pc + 1 = q) (k : V P M d r h' h q L (.int x :: .ref a :: .int x :: .ref a :: st)) : V P M d r h' h pc L (.int x :: .ref a :: st) := by
  subst hq
  exact V.step (fun g p l e R s m args below meth c Q H locs cells slots ls _ C hL hR w => lv_dup2_11 C.1 C.2.1 hd rfl rfl w) k
theorem V.dup2L {P : GE → Launch → Prop} {M : MD} {d : Nat} {r : Option Value} {h' h : MH} {pc q : Nat} {L st : List Value} {x : Int64} (hd : decode M.2.1 pc = .ok (.dup2, 1)) (hq : pc + 1 = q) (k : V P M d r h' h q L (.long x :: .long x :: st)) : V P M d r h' h pc L (.long x :: st) := by
  subst hq
  exact V.step (fun g p l e R s m args below meth c Q H locs cells slots ls _ C hL hR w => lv_dup2_2 C.1 C.2.1 hd rfl w) k
theorem V.popI {P : GE → Launch → Prop} {M : MD} {d : Nat} {r : Option Value} {h' h : MH} {pc q : Nat} {L st : List Value} {x : Int32} (hd : decode M.2.1 pc = .ok (.pop, 1)) (hq : pc + 1 = q) (k : V P M d r h' h q L (st)) : V P M d r h' h pc L (.int x :: st) := by
  subst hq
  exact V.step (fun g p l e R s m args below meth c Q H locs cells slots ls _ C hL hR w => lv_pop (va := .int x) C.1 C.2.1 hd rfl w) k
theorem V.popR {P : GE → Launch → Prop} {M : MD} {d : Nat} {r : Option Value} {h' h : MH} {pc q : Nat} {L st : List Value} {x : Nat} (hd : decode M.2.1 pc = .ok (.pop, 1)) (hq : pc + 1 = q) (k : V P M d r h' h q L (st)) : V P M d r h' h pc L (.ref x :: st) := by
  subst hq
  exact V.step (fun g p l e R s m args below meth c Q H locs cells slots ls _ C hL hR w => lv_pop C.1 C.2.1 hd rfl w) k
theorem V.iload_n {P : GE → Launch → Prop} {M : MD} {d : Nat} {r : Option Value} {h' h : MH} {pc q : Nat} {L st : List Value} {n : Fin 4} {i : Nat} (hi : (n : Nat) = i) {x : Int32} (hd : decode M.2.1 pc = .ok (.iload_n n, 1)) (hq : pc + 1 = q) (hl : L[i]? = some (.int x)) (k : V P M d r h' h q L (.int x :: st)) : V P M d r h' h pc L st := by
  subst hq
  exact V.step (fun g p l e R s m args below meth c Q H locs cells slots ls _ C hL hR w => lv_iload_n C.1 C.2.1 hd hi (hL.2.2 i _ hl (by simp)) w) k
theorem V.iload {P : GE → Launch → Prop} {M : MD} {d : Nat} {r : Option Value} {h' h : MH} {pc q : Nat} {L st : List Value} {i : Nat} {x : Int32} (hd : decode M.2.1 pc = .ok (.iload i, 2)) (hq : pc + 2 = q) (hl : L[i]? = some (.int x)) (k : V P M d r h' h q L (.int x :: st)) : V P M d r h' h pc L st := by
  subst hq
  exact V.step (fun g p l e R s m args below meth c Q H locs cells slots ls _ C hL hR w => lv_iload C.1 C.2.1 hd  (hL.2.2 i _ hl (by simp)) w) k
theorem V.lload_n {P : GE → Launch → Prop} {M : MD} {d : Nat} {r : Option Value} {h' h : MH} {pc q : Nat} {L st : List Value} {n : Fin 4} {i : Nat} (hi : (n : Nat) = i) {x : Int64} (hd : decode M.2.1 pc = .ok (.lload_n n, 1)) (hq : pc + 1 = q) (hl : L[i]? = some (.long x)) (k : V P M d r h' h q L (.long x :: st)) : V P M d r h' h pc L st := by
  subst hq
  exact V.step (fun g p l e R s m args below meth c Q H locs cells slots ls _ C hL hR w => lv_lload_n C.1 C.2.1 hd hi (hL.2.2 i _ hl (by simp)) w) k
theorem V.lload {P : GE → Launch → Prop} {M : MD} {d : Nat} {r : Option Value} {h' h : MH} {pc q : Nat} {L st : List Value} {i : Nat} {x : Int64} (hd : decode M.2.1 pc = .ok (.lload i, 2)) (hq : pc + 2 = q) (hl : L[i]? = some (.long x)) (k : V P M d r h' h q L (.long x :: st)) : V P M d r h' h pc L st := by
  subst hq
  exact V.step (fun g p l e R s m args below meth c Q H locs cells slots ls _ C hL hR w => lv_lload C.1 C.2.1 hd  (hL.2.2 i _ hl (by simp)) w) k
theorem V.aload_n {P : GE → Launch → Prop} {M : MD} {d : Nat} {r : Option Value} {h' h : MH} {pc q : Nat} {L st : List Value} {n : Fin 4} {i : Nat} (hi : (n : Nat) = i) {x : Nat} (hd : decode M.2.1 pc = .ok (.aload_n n, 1)) (hq : pc + 1 = q) (hl : L[i]? = some (.ref x)) (k : V P M d r h' h q L (.ref x :: st)) : V P M d r h' h pc L st := by
  subst hq
  exact V.step (fun g p l e R s m args below meth c Q H locs cells slots ls _ C hL hR w => lv_aload_n C.1 C.2.1 hd hi (hL.2.2 i _ hl (by simp)) w) k
theorem V.aload {P : GE → Launch → Prop} {M : MD} {d : Nat} {r : Option Value} {h' h : MH} {pc q : Nat} {L st : List Value} {i : Nat} {x : Nat} (hd : decode M.2.1 pc = .ok (.aload i, 2)) (hq : pc + 2 = q) (hl : L[i]? = some (.ref x)) (k : V P M d r h' h q L (.ref x :: st)) : V P M d r h' h pc L st := by
  subst hq
  exact V.step (fun g p l e R s m args below meth c Q H locs cells slots ls _ C hL hR w => lv_aload C.1 C.2.1 hd  (hL.2.2 i _ hl (by simp)) w) k
theorem V.aloadT_n {P : GE → Launch → Prop} {M : MD} {d : Nat} {r : Option Value} {h' h : MH} {pc q : Nat} {L st : List Value} {n : Fin 4} {i : Nat} (hi : (n : Nat) = i) {x : Nat} (hx : x ≠ 2000) (ht : ∀ (g : GE) (s : State), JD g s → ∃ b, g.2.2.2.1 x = some b) (hd : decode M.2.1 pc = .ok (.aload_n n, 1)) (hq : pc + 1 = q) (hl : L[i]? = some (.retAddr x)) (k : V P M d r h' h q L (.retAddr x :: st)) : V P M d r h' h pc L st := by
  subst hq
  refine V.step (fun g p l e R s m args below meth c Q H locs cells slots ls _ C hL hR w => ?_) k
  obtain ⟨b, hb⟩ := ht g s C.2.2.2.2.2.2.2.2.1.2.2
  have e1 : enc g (.retAddr x) = .ref b := by show va_rf _ = _; rw [hb]; rfl
  refine lv_aload_n C.1 C.2.1 hd hi (x := b) (by rw [← e1]; exact hL.2.2 i _ hl (by simpa using hx)) ?_
  have w2 := w
  rw [List.map_cons, e1] at w2
  exact w2
theorem V.if_ne {P : GE → Launch → Prop} {M : MD} {d : Nat} {r : Option Value} {h' h : MH} {pc q : Nat} {L st : List Value} {tgt : Nat} {x : Int32} {off : Int} (hd : decode M.2.1 pc = .ok (.ifCond .ne off, 3)) (hq : pc + 3 = q) (ht : (pc : Int) + off = (tgt : Int)) (kt : ¬ x = 0 → V P M d r h' h tgt L st) (kf : x = 0 → V P M d r h' h q L st) : V P M d r h' h pc L (.int x :: st) := by
  subst hq
  exact V.step2 (Decidable.em _) (fun g p l e R s m args below meth c Q H locs cells slots ls _ C hL hR w1 w2 => lv_if_ne C.1 C.2.1 hd ht w2 w1) kf kt
theorem V.icmp_ne {P : GE → Launch → Prop} {M : MD} {d : Nat} {r : Option Value} {h' h : MH} {pc q : Nat} {L st : List Value} {tgt : Nat} {x y : Int32} {off : Int} (hd : decode M.2.1 pc = .ok (.if_icmp .ne off, 3)) (hq : pc + 3 = q) (ht : (pc : Int) + off = (tgt : Int)) (kt : ¬ x = y → V P M d r h' h tgt L st) (kf : x = y → V P M d r h' h q L st) : V P M d r h' h pc L (.int y :: .int x :: st) := by
  subst hq
  exact V.step2 (Decidable.em _) (fun g p l e R s m args below meth c Q H locs cells slots ls _ C hL hR w1 w2 => lv_icmp_ne C.1 C.2.1 hd ht w2 w1) kf kt
theorem V.if_eq {P : GE → Launch → Prop} {M : MD} {d : Nat} {r : Option Value} {h' h : MH} {pc q : Nat} {L st : List Value} {tgt : Nat} {x : Int32} {off : Int} (hd : decode M.2.1 pc = .ok (.ifCond .eq off, 3)) (hq : pc + 3 = q) (ht : (pc : Int) + off = (tgt : Int)) (kt : x = 0 → V P M d r h' h tgt L st) (kf : ¬ x = 0 → V P M d r h' h q L st) : V P M d r h' h pc L (.int x :: st) := by
  subst hq
  exact V.step2 (Decidable.em _) (fun g p l e R s m args below meth c Q H locs cells slots ls _ C hL hR w1 w2 => lv_if_eq C.1 C.2.1 hd ht w1 w2) kt kf
theorem V.if_lt {P : GE → Launch → Prop} {M : MD} {d : Nat} {r : Option Value} {h' h : MH} {pc q : Nat} {L st : List Value} {tgt : Nat} {x : Int32} {off : Int} (hd : decode M.2.1 pc = .ok (.ifCond .lt off, 3)) (hq : pc + 3 = q) (ht : (pc : Int) + off = (tgt : Int)) (kt : x < 0 → V P M d r h' h tgt L st) (kf : ¬ x < 0 → V P M d r h' h q L st) : V P M d r h' h pc L (.int x :: st) := by
  subst hq
  exact V.step2 (Decidable.em _) (fun g p l e R s m args below meth c Q H locs cells slots ls _ C hL hR w1 w2 => lv_if_lt C.1 C.2.1 hd ht w1 w2) kt kf
theorem V.if_ge {P : GE → Launch → Prop} {M : MD} {d : Nat} {r : Option Value} {h' h : MH} {pc q : Nat} {L st : List Value} {tgt : Nat} {x : Int32} {off : Int} (hd : decode M.2.1 pc = .ok (.ifCond .ge off, 3)) (hq : pc + 3 = q) (ht : (pc : Int) + off = (tgt : Int)) (kt : 0 ≤ x → V P M d r h' h tgt L st) (kf : ¬ 0 ≤ x → V P M d r h' h q L st) : V P M d r h' h pc L (.int x :: st) := by
  subst hq
  exact V.step2 (Decidable.em _) (fun g p l e R s m args below meth c Q H locs cells slots ls _ C hL hR w1 w2 => lv_if_ge C.1 C.2.1 hd ht w1 w2) kt kf
theorem V.if_gt {P : GE → Launch → Prop} {M : MD} {d : Nat} {r : Option Value} {h' h : MH} {pc q : Nat} {L st : List Value} {tgt : Nat} {x : Int32} {off : Int} (hd : decode M.2.1 pc = .ok (.ifCond .gt off, 3)) (hq : pc + 3 = q) (ht : (pc : Int) + off = (tgt : Int)) (kt : 0 < x → V P M d r h' h tgt L st) (kf : ¬ 0 < x → V P M d r h' h q L st) : V P M d r h' h pc L (.int x :: st) := by
  subst hq
  exact V.step2 (Decidable.em _) (fun g p l e R s m args below meth c Q H locs cells slots ls _ C hL hR w1 w2 => lv_if_gt C.1 C.2.1 hd ht w1 w2) kt kf
theorem V.if_le {P : GE → Launch → Prop} {M : MD} {d : Nat} {r : Option Value} {h' h : MH} {pc q : Nat} {L st : List Value} {tgt : Nat} {x : Int32} {off : Int} (hd : decode M.2.1 pc = .ok (.ifCond .le off, 3)) (hq : pc + 3 = q) (ht : (pc : Int) + off = (tgt : Int)) (kt : x ≤ 0 → V P M d r h' h tgt L st) (kf : ¬ x ≤ 0 → V P M d r h' h q L st) : V P M d r h' h pc L (.int x :: st) := by
  subst hq
  exact V.step2 (Decidable.em _) (fun g p l e R s m args below meth c Q H locs cells slots ls _ C hL hR w1 w2 => lv_if_le C.1 C.2.1 hd ht w1 w2) kt kf
theorem V.icmp_eq {P : GE → Launch → Prop} {M : MD} {d : Nat} {r : Option Value} {h' h : MH} {pc q : Nat} {L st : List Value} {tgt : Nat} {x y : Int32} {off : Int} (hd : decode M.2.1 pc = .ok (.if_icmp .eq off, 3)) (hq : pc + 3 = q) (ht : (pc : Int) + off = (tgt : Int)) (kt : x = y → V P M d r h' h tgt L st) (kf : ¬ x = y → V P M d r h' h q L st) : V P M d r h' h pc L (.int y :: .int x :: st) := by
  subst hq
  exact V.step2 (Decidable.em _) (fun g p l e R s m args below meth c Q H locs cells slots ls _ C hL hR w1 w2 => lv_icmp_eq C.1 C.2.1 hd ht w1 w2) kt kf
theorem V.icmp_lt {P : GE → Launch → Prop} {M : MD} {d : Nat} {r : Option Value} {h' h : MH} {pc q : Nat} {L st : List Value} {tgt : Nat} {x y : Int32} {off : Int} (hd : decode M.2.1 pc = .ok (.if_icmp .lt off, 3)) (hq : pc + 3 = q) (ht : (pc : Int) + off = (tgt : Int)) (kt : x < y → V P M d r h' h tgt L st) (kf : ¬ x < y → V P M d r h' h q L st) : V P M d r h' h pc L (.int y :: .int x :: st) := by
  subst hq
  exact V.step2 (Decidable.em _) (fun g p l e R s m args below meth c Q H locs cells slots ls _ C hL hR w1 w2 => lv_icmp_lt C.1 C.2.1 hd ht w1 w2) kt kf
theorem V.icmp_ge {P : GE → Launch → Prop} {M : MD} {d : Nat} {r : Option Value} {h' h : MH} {pc q : Nat} {L st : List Value} {tgt : Nat} {x y : Int32} {off : Int} (hd : decode M.2.1 pc = .ok (.if_icmp .ge off, 3)) (hq : pc + 3 = q) (ht : (pc : Int) + off = (tgt : Int)) (kt : y ≤ x → V P M d r h' h tgt L st) (kf : ¬ y ≤ x → V P M d r h' h q L st) : V P M d r h' h pc L (.int y :: .int x :: st) := by
  subst hq
  exact V.step2 (Decidable.em _) (fun g p l e R s m args below meth c Q H locs cells slots ls _ C hL hR w1 w2 => lv_icmp_ge C.1 C.2.1 hd ht w1 w2) kt kf
theorem V.icmp_gt {P : GE → Launch → Prop} {M : MD} {d : Nat} {r : Option Value} {h' h : MH} {pc q : Nat} {L st : List Value} {tgt : Nat} {x y : Int32} {off : Int} (hd : decode M.2.1 pc = .ok (.if_icmp .gt off, 3)) (hq : pc + 3 = q) (ht : (pc : Int) + off = (tgt : Int)) (kt : y < x → V P M d r h' h tgt L st) (kf : ¬ y < x → V P M d r h' h q L st) : V P M d r h' h pc L (.int y :: .int x :: st) := by
  subst hq
  exact V.step2 (Decidable.em _) (fun g p l e R s m args below meth c Q H locs cells slots ls _ C hL hR w1 w2 => lv_icmp_gt C.1 C.2.1 hd ht w1 w2) kt kf
theorem V.icmp_le {P : GE → Launch → Prop} {M : MD} {d : Nat} {r : Option Value} {h' h : MH} {pc q : Nat} {L st : List Value} {tgt : Nat} {x y : Int32} {off : Int} (hd : decode M.2.1 pc = .ok (.if_icmp .le off, 3)) (hq : pc + 3 = q) (ht : (pc : Int) + off = (tgt : Int)) (kt : x ≤ y → V P M d r h' h tgt L st) (kf : ¬ x ≤ y → V P M d r h' h q L st) : V P M d r h' h pc L (.int y :: .int x :: st) := by
  subst hq
  exact V.step2 (Decidable.em _) (fun g p l e R s m args below meth c Q H locs cells slots ls _ C hL hR w1 w2 => lv_icmp_le C.1 C.2.1 hd ht w1 w2) kt kf
theorem V.goto {P : GE → Launch → Prop} {M : MD} {d : Nat} {r : Option Value} {h' h : MH} {pc q : Nat} {L st : List Value} {off : Int} (hd : decode M.2.1 pc = .ok (.goto off, 3)) (ht : (pc : Int) + off = (q : Int)) (k : V P M d r h' h q L st) : V P M d r h' h pc L st :=
  V.step (fun g p l e R s m args below meth c Q H locs cells slots ls _ C hL hR w => lv_goto C.1 C.2.1 hd ht w) k
theorem V.tableIn {P : GE → Launch → Prop} {M : MD} {d : Nat} {r : Option Value} {h' h : MH} {pc q : Nat} {L st : List Value} {dflt lo hi : Int} {offs : Array Int} {len : Nat} {x : Int32} {off : Int} (hd : decode M.2.1 pc = .ok (.tableswitch dflt lo hi offs, len)) (h1 : ¬ x.toInt < lo) (h2 : ¬ hi < x.toInt) (ho : offs[(x.toInt - lo).toNat]? = some off) (ht : (pc : Int) + off = (q : Int)) (k : V P M d r h' h q L st) : V P M d r h' h pc L (.int x :: st) :=
  V.step (fun g p l e R s m args below meth c Q H locs cells slots ls _ C hL hR w => lv_tableIn C.1 C.2.1 hd h1 h2 ho ht w) k
theorem V.tableOut {P : GE → Launch → Prop} {M : MD} {d : Nat} {r : Option Value} {h' h : MH} {pc q : Nat} {L st : List Value} {dflt lo hi : Int} {offs : Array Int} {len : Nat} {x : Int32} (hd : decode M.2.1 pc = .ok (.tableswitch dflt lo hi offs, len)) (hx : x.toInt < lo ∨ hi < x.toInt) (ht : (pc : Int) + dflt = (q : Int)) (k : V P M d r h' h q L st) : V P M d r h' h pc L (.int x :: st) :=
  V.step (fun g p l e R s m args below meth c Q H locs cells slots ls _ C hL hR w => lv_tableOut C.1 C.2.1 hd hx ht w) k
theorem V.ldc {P : GE → Launch → Prop} {M : MD} {d : Nat} {r : Option Value} {h' h : MH} {pc q : Nat} {L st : List Value} {idx : Nat} {v : Int32} (hc : Cond.constant M.1.cls idx v ∈ TB) (hd : decode M.2.1 pc = .ok (.ldc idx, 2)) (hq : pc + 2 = q) (k : V P M d r h' h q L (.int v :: st)) : V P M d r h' h pc L st := by
  subst hq
  exact V.step (fun g p l e R s m args below meth c Q H locs cells slots ls _ C hL hR w => lv_ldc C.1 C.2.1 C.2.2.2.2.1 (C.2.2.2.2.2.2.2.1 _ hc) hd w) k
theorem V.ldcw {P : GE → Launch → Prop} {M : MD} {d : Nat} {r : Option Value} {h' h : MH} {pc q : Nat} {L st : List Value} {idx : Nat} {v : Int32} (hc : Cond.constant M.1.cls idx v ∈ TB) (hd : decode M.2.1 pc = .ok (.ldc_w idx, 3)) (hq : pc + 3 = q) (k : V P M d r h' h q L (.int v :: st)) : V P M d r h' h pc L st := by
  subst hq
  exact V.step (fun g p l e R s m args below meth c Q H locs cells slots ls _ C hL hR w => lv_ldcw C.1 C.2.1 C.2.2.2.2.1 (C.2.2.2.2.2.2.2.1 _ hc) hd w) k
theorem V.ldc2 {P : GE → Launch → Prop} {M : MD} {d : Nat} {r : Option Value} {h' h : MH} {pc q : Nat} {L st : List Value} {idx : Nat} {v : Int64} (hc : Cond.constantLong M.1.cls idx v ∈ TB) (hd : decode M.2.1 pc = .ok (.ldc2_w idx, 3)) (hq : pc + 3 = q) (k : V P M d r h' h q L (.long v :: st)) : V P M d r h' h pc L st := by
  subst hq
  exact V.step (fun g p l e R s m args below meth c Q H locs cells slots ls _ C hL hR w => lv_ldc2 C.1 C.2.1 C.2.2.2.2.1 (C.2.2.2.2.2.2.2.1 _ hc) hd w) k
theorem V.topI {P : GE → Launch → Prop} {M : MD} {d : Nat} {r : Option Value} {h' h : MH} {pc : Nat} {L st : List Value} {x y : Int32} (e : x = y) (k : V P M d r h' h pc L (.int y :: st)) : V P M d r h' h pc L (.int x :: st) := e ▸ k
theorem V.topL {P : GE → Launch → Prop} {M : MD} {d : Nat} {r : Option Value} {h' h : MH} {pc : Nat} {L st : List Value} {x y : Int64} (e : x = y) (k : V P M d r h' h pc L (.long y :: st)) : V P M d r h' h pc L (.long x :: st) := e ▸ k
theorem V.ret {P : GE → Launch → Prop} {M : MD} {d : Nat} {r : Option Value} {h : MH} {pc : Nat} {L : List Value} (hr : okret M.2.2.2 r) (hd : decode M.2.1 pc = .ok (retIns r, 1)) : V P M d r h h pc L r.toList :=
  ⟨mLe.rfl, fun g p l e R s m args below meth c Q o1 o2 hPg C hc hs rh H locs cells slots ls e1 e2 hR hl hL => rh.1 H locs cells slots pc ls hR hl e1 e2 hr hd⟩
theorem V.exit {P : GE → Launch → Prop} {M : MD} {d : Nat} {h : MH} {x : Nat} {L : List Value} : V P M d (some (.retAddr x)) h h x L [] :=
  ⟨mLe.rfl, fun g p l e R s m args below meth c Q o1 o2 hPg C hc hs rh H locs cells slots ls e1 e2 hR hl hL => rh.2 x rfl H locs cells slots ls hR hl e1 e2 hL.1⟩
