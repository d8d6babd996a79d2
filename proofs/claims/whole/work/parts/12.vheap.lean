/-! ===== locals: stores; the heap: reads, writes, new cells ===== -/
theorem enc_cat (g : GE) (v : Value) : (enc g v).category = v.category := by
  cases v with
  | retAddr i =>
    show (va_rf (g.2.2.2.1 i)).category = 1
    cases g.2.2.2.1 i <;> rfl
  | _ => rfl
def kn (g : GE) (L : List Value) : List (Nat × Value) := (List.range L.length).filterMap (fun i => match L[i]? with | some v => if v = Jk then none else some (i, enc g v) | none => none)
theorem kn_mem {g : GE} {L : List Value} {i : Nat} {w : Value} : (i, w) ∈ kn g L ↔ ∃ v, L[i]? = some v ∧ v ≠ Jk ∧ w = enc g v := by
  unfold kn
  rw [List.mem_filterMap]
  constructor
  · rintro ⟨j, hj, e⟩
    cases hv : L[j]? with
    | none => simp [hv] at e
    | some v =>
      simp only [hv] at e
      by_cases hJ : v = Jk
      · simp [hJ] at e
      · rw [if_neg hJ] at e
        simp only [Option.some.injEq, Prod.mk.injEq] at e
        obtain ⟨e1, e2⟩ := e
        subst e1
        exact ⟨v, hv, hJ, e2.symm⟩
  · rintro ⟨v, hv, hJ, rfl⟩
    have hl : i < L.length := (List.getElem?_eq_some_iff.mp hv).1
    refine ⟨i, List.mem_range.mpr hl, ?_⟩
    simp only [hv]
    rw [if_neg hJ]
theorem LR.has {g : GE} {ls : Array Slot} {n : Nat} {L : List Value} (h : LR g ls n L) : lv_has ls n (kn g L) :=
  ⟨h.1, h.2.1, fun q hq => by obtain ⟨v, h1, h2, h3⟩ := kn_mem.mp hq; rw [h3]; exact h.2.2 _ _ h1 h2⟩
def okst (L : List Value) (i : Nat) : Bool := match i with
  | 0 => true
  | j + 1 => match L[j]? with
    | some (.long _) => false
    | some (.double _) => false
    | _ => true
theorem okst_cat {L : List Value} {j : Nat} {w : Value} (h : okst L (j + 1) = true) (hj : L[j]? = some w) : w.category ≠ 2 := by
  unfold okst at h
  simp only [hj] at h
  cases w <;> first | (simp at h; done) | (intro q; cases q)
theorem LR.store1 {g : GE} {ls : Array Slot} {n i : Nat} {L : List Value} {v : Value} (hok : okst L i = true) (h : lv_has ls n ((i, enc g v) :: (kn g L).filter (fun q => !(q.1 == i) && !(q.1 + 1 == i && q.2.category == 2)))) : LR g ls n (L.set i v) := by
  refine ⟨h.1, h.2.1, fun j w hj hw => ?_⟩
  by_cases e : j = i
  · subst e
    have hw2 : w = v := by
      rw [List.getElem?_set] at hj
      simp only [if_true] at hj
      split at hj
      · exact (Option.some.inj hj).symm
      · cases hj
    rw [hw2]
    exact h.2.2 (j, enc g v) List.mem_cons_self
  · rw [List.getElem?_set_ne (Ne.symm e)] at hj
    refine h.2.2 (j, enc g w) (List.mem_cons_of_mem _ (List.mem_filter.mpr ⟨kn_mem.mpr ⟨w, hj, hw, rfl⟩, ?_⟩))
    have h1 : (j == i) = false := by simpa using e
    have h2 : (j + 1 == i && (enc g w).category == 2) = false := by
      by_cases h3 : j + 1 = i
      · subst h3
        have := okst_cat hok hj
        rw [enc_cat]
        simp [this]
      · simp [h3]
    simp only [h1, h2]
    rfl
theorem LR.store2 {g : GE} {ls : Array Slot} {n i : Nat} {L : List Value} {v : Value} (hok : okst L i = true) (h : lv_has ls n ((i, enc g v) :: (kn g L).filter (fun q => !(q.1 == i) && (!(q.1 == i + 1) && !(q.1 + 1 == i && q.2.category == 2))))) : LR g ls n ((L.set i v).set (i + 1) Jk) := by
  refine ⟨h.1, h.2.1, fun j w hj hw => ?_⟩
  by_cases e2 : j = i + 1
  · subst e2
    rw [List.getElem?_set] at hj
    simp only [if_true] at hj
    split at hj
    · exact absurd (Option.some.inj hj).symm hw
    · cases hj
  rw [List.getElem?_set_ne (Ne.symm e2)] at hj
  by_cases e : j = i
  · subst e
    have hw2 : w = v := by
      rw [List.getElem?_set] at hj
      simp only [if_true] at hj
      split at hj
      · exact (Option.some.inj hj).symm
      · cases hj
    rw [hw2]
    exact h.2.2 (j, enc g v) List.mem_cons_self
  · rw [List.getElem?_set_ne (Ne.symm e)] at hj
    refine h.2.2 (j, enc g w) (List.mem_cons_of_mem _ (List.mem_filter.mpr ⟨kn_mem.mpr ⟨w, hj, hw, rfl⟩, ?_⟩))
    have h1 : (j == i) = false := by simpa using e
    have h1b : (j == i + 1) = false := by simpa using e2
    have h2 : (j + 1 == i && (enc g w).category == 2) = false := by
      by_cases h3 : j + 1 = i
      · subst h3
        have := okst_cat hok hj
        rw [enc_cat]
        simp [this]
      · simp [h3]
    simp only [h1, h1b, h2]
    rfl
section VST
variable {P : GE → Launch → Prop} {M : MD} {d : Nat} {r : Option Value} {h' h : MH} {pc q : Nat} {L L' st : List Value}
theorem V.istore_n {n : Fin 4} {i : Nat} {x : Int32} (hi : (n : Nat) = i) (hd : decode M.2.1 pc = .ok (.istore_n n, 1)) (hq : pc + 1 = q) (hn : i < M.2.2.1) (hok : okst L i = true) (hL' : L.set i (.int x) = L') (k : V P M d r h' h q L' st) : V P M d r h' h pc L (.int x :: st) := by
  subst hq; subst hL'
  exact V.stepL (fun g p l e R s m args below meth c Q H locs cells slots ls _ C hL w => lv_istore_n C.1 C.2.1 hd hi hL.has hn rfl (fun ls' h2 => w ls' (LR.store1 (v := .int x) hok h2))) k
theorem V.istore {i : Nat} {x : Int32} (hd : decode M.2.1 pc = .ok (.istore i, 2)) (hq : pc + 2 = q) (hn : i < M.2.2.1) (hok : okst L i = true) (hL' : L.set i (.int x) = L') (k : V P M d r h' h q L' st) : V P M d r h' h pc L (.int x :: st) := by
  subst hq; subst hL'
  exact V.stepL (fun g p l e R s m args below meth c Q H locs cells slots ls _ C hL w => lv_istore C.1 C.2.1 hd hL.has hn rfl (fun ls' h2 => w ls' (LR.store1 (v := .int x) hok h2))) k
theorem V.astore_n {n : Fin 4} {i : Nat} {x : Nat} (hi : (n : Nat) = i) (hd : decode M.2.1 pc = .ok (.astore_n n, 1)) (hq : pc + 1 = q) (hn : i < M.2.2.1) (hok : okst L i = true) (hL' : L.set i (.ref x) = L') (k : V P M d r h' h q L' st) : V P M d r h' h pc L (.ref x :: st) := by
  subst hq; subst hL'
  exact V.stepL (fun g p l e R s m args below meth c Q H locs cells slots ls _ C hL w => lv_astore_n C.1 C.2.1 hd hi hL.has hn rfl (fun ls' h2 => w ls' (LR.store1 (v := .ref x) hok h2))) k
theorem V.astore {i : Nat} {x : Nat} (hd : decode M.2.1 pc = .ok (.astore i, 2)) (hq : pc + 2 = q) (hn : i < M.2.2.1) (hok : okst L i = true) (hL' : L.set i (.ref x) = L') (k : V P M d r h' h q L' st) : V P M d r h' h pc L (.ref x :: st) := by
  subst hq; subst hL'
  exact V.stepL (fun g p l e R s m args below meth c Q H locs cells slots ls _ C hL w => lv_astore C.1 C.2.1 hd hL.has hn rfl (fun ls' h2 => w ls' (LR.store1 (v := .ref x) hok h2))) k
theorem V.lstore_n {n : Fin 4} {i : Nat} {x : Int64} (hi : (n : Nat) = i) (hd : decode M.2.1 pc = .ok (.lstore_n n, 1)) (hq : pc + 1 = q) (hn : i + 1 < M.2.2.1) (hok : okst L i = true) (hL' : (L.set i (.long x)).set (i + 1) Jk = L') (k : V P M d r h' h q L' st) : V P M d r h' h pc L (.long x :: st) := by
  subst hq; subst hL'
  exact V.stepL (fun g p l e R s m args below meth c Q H locs cells slots ls _ C hL w => lv_lstore_n C.1 C.2.1 hd hi hL.has hn rfl (fun ls' h2 => w ls' (LR.store2 (v := .long x) hok h2))) k
theorem V.lstore {i : Nat} {x : Int64} (hd : decode M.2.1 pc = .ok (.lstore i, 2)) (hq : pc + 2 = q) (hn : i + 1 < M.2.2.1) (hok : okst L i = true) (hL' : (L.set i (.long x)).set (i + 1) Jk = L') (k : V P M d r h' h q L' st) : V P M d r h' h pc L (.long x :: st) := by
  subst hq; subst hL'
  exact V.stepL (fun g p l e R s m args below meth c Q H locs cells slots ls _ C hL w => lv_lstore C.1 C.2.1 hd hL.has hn rfl (fun ls' h2 => w ls' (LR.store2 (v := .long x) hok h2))) k
theorem V.iinc {i : Nat} {n : Int} {x v : Int32} (hd : decode M.2.1 pc = .ok (.iinc i n, 3)) (hq : pc + 3 = q) (hl : L[i]? = some (.int x)) (hv : x + Int32.ofInt n = v) (hn : i < M.2.2.1) (hok : okst L i = true) (hL' : L.set i (.int v) = L') (k : V P M d r h' h q L' st) : V P M d r h' h pc L st := by
  subst hq; subst hL'
  refine V.stepL (fun g p l e R s m args below meth c Q H locs cells slots ls _ C hL w => ?_) k
  obtain ⟨j, hj⟩ := List.getElem?_of_mem (kn_mem.mpr ⟨_, hl, by simp, rfl⟩ : (i, enc g (.int x)) ∈ kn g L)
  exact lv_iinc C.1 C.2.1 hd hL.has hj hv hn rfl (fun ls' h2 => w ls' (LR.store1 (v := .int v) hok h2))
/-- fewer locals known -/
def Lsub : List Value → List Value → Prop
  | [], _ => True
  | _ :: _, [] => False
  | a :: as, b :: bs => (a = Jk ∨ a = b) ∧ Lsub as bs
theorem Lsub_get : ∀ {L' L : List Value}, Lsub L' L → ∀ (i : Nat) (v : Value), L'[i]? = some v → v ≠ Jk → L[i]? = some v
  | [], _, _, i, v, hv, _ => by simp at hv
  | _ :: _, [], hs, _, _, _, _ => hs.elim
  | a :: as, b :: bs, hs, 0, v, hv, hn => by
    simp only [List.getElem?_cons_zero, Option.some.injEq] at hv ⊢
    subst hv
    exact (hs.1.resolve_left hn).symm
  | a :: as, b :: bs, hs, i + 1, v, hv, hn => by
    simp only [List.getElem?_cons_succ] at hv ⊢
    exact Lsub_get hs.2 i v hv hn
theorem V.forget (hs : Lsub L' L) (k : V P M d r h' h pc L' st) : V P M d r h' h pc L st :=
  ⟨k.1, fun g p l e R s m args below meth c Q o1 o2 hPg C hc hsl hr H locs cells slots ls e1 e2 hR hl hL =>
    k.2 g p l e R s m args below meth c Q o1 o2 hPg C hc hsl hr H locs cells slots ls e1 e2 hR hl ⟨hL.1, hL.2.1, fun i v hv hn => hL.2.2 i v (Lsub_get hs i v hv hn) hn⟩⟩
end VST
