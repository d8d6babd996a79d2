/-! ===== V: fields and arrays ===== -/
def tyI : FieldType → Bool
  | .int => true
  | .boolean => true
  | _ => false
def tyR : FieldType → Bool
  | .object _ => true
  | .array _ => true
  | _ => false
theorem mFv_I {a0 : Nat} {h : MH} {a ci k : Nat} (ht : tyI (mTy ci k) = true) : mFv a0 h a ci k = .int (h.1 a k) := by
  unfold mFv; cases hq : mTy ci k <;> first | rfl | (rw [hq] at ht; cases ht)
theorem mFv_J {a0 : Nat} {h : MH} {a ci k : Nat} (ht : mTy ci k = .long) : mFv a0 h a ci k = .long (h.2.1 a k) := by
  unfold mFv; rw [ht]
theorem mFv_R {a0 : Nat} {h : MH} {a ci k : Nat} (ht : tyR (mTy ci k) = true) : mFv a0 h a ci k = va_rf (gRf a0 (h.2.2.1 a k)) := by
  unfold mFv; cases hq : mTy ci k <;> first | rfl | (rw [hq] at ht; cases ht)
/-- a write into the field k of a, told by its value -/
theorem mFs_set {a0 : Nat} {h h2 : MH} {a ci k : Nat} {v : Value} (he : ∀ j, j ≠ k → mFv a0 h2 a ci j = mFv a0 h a ci j) (hv : mFv a0 h2 a ci k = v) : mFs a0 h2 a ci = (mFs a0 h a ci).set k v := by
  apply List.ext_getElem?
  intro j
  by_cases hj : j < mN ci
  · rw [mFs_get hj]
    by_cases e : j = k
    · subst e
      rw [List.getElem?_set]
      simp [mFs_len, hj, hv]
    · rw [List.getElem?_set_ne (Ne.symm e), mFs_get hj, he j e]
  · rw [List.getElem?_eq_none (by rw [mFs_len]; omega), List.getElem?_eq_none (by rw [List.length_set, mFs_len]; omega)]
theorem up2_ne {α : Type} {f : Nat → Nat → α} {a k b j : Nat} {x : α} (h : ¬ (b = a ∧ j = k)) : up2 f a k x b j = f b j := if_neg h
theorem up2_eq {α : Type} {f : Nat → Nat → α} {a k : Nat} {x : α} : up2 f a k x a k = x := if_pos ⟨rfl, rfl⟩
theorem up2_row {α : Type} {f : Nat → Nat → α} {a k b : Nat} {x : α} (h : b ≠ a) : up2 f a k x b = f b := funext fun j => if_neg (fun q => h q.1)
theorem mEn_sI {g : GE} {h : MH} {a k b : Nat} {x : Int32} (hb : b ≠ a) : mEn g (sI h a k x) b = mEn g h b := by
  unfold mEn sI
  have e : up2 h.1 a k x b = h.1 b := up2_row hb
  cases hq : h.2.2.2[b]? with
  | none => simp only [hq]
  | some q =>
    simp only [hq, e]
    have hm : mFs g.1 (up2 h.1 a k x, h.2) b q.1 = mFs g.1 h b q.1 := by
      unfold mFs
      apply List.map_congr_left
      intro j _
      unfold mFv
      simp only [e]
    rw [hm]
theorem mEn_sJ {g : GE} {h : MH} {a k b : Nat} {x : Int64} (hb : b ≠ a) : mEn g (sJ h a k x) b = mEn g h b := by
  unfold mEn sJ
  have e : up2 h.2.1 a k x b = h.2.1 b := up2_row hb
  cases hq : h.2.2.2[b]? with
  | none => simp only [hq]
  | some q =>
    simp only [hq, e]
    have hm : mFs g.1 (h.1, up2 h.2.1 a k x, h.2.2) b q.1 = mFs g.1 h b q.1 := by
      unfold mFs
      apply List.map_congr_left
      intro j _
      unfold mFv
      simp only [e]
    rw [hm]
theorem mEn_sR {g : GE} {h : MH} {a k b : Nat} {x : Option Nat} (hb : b ≠ a) : mEn g (sR h a k x) b = mEn g h b := by
  unfold mEn sR
  have e : up2 h.2.2.1 a k x b = h.2.2.1 b := up2_row hb
  cases hq : h.2.2.2[b]? with
  | none => simp only [hq]
  | some q =>
    simp only [hq, e]
    have hm : mFs g.1 (h.1, h.2.1, up2 h.2.2.1 a k x, h.2.2.2) b q.1 = mFs g.1 h b q.1 := by
      unfold mFs
      apply List.map_congr_left
      intro j _
      unfold mFv
      simp only [e]
    rw [hm]
section VGF
variable {P : GE → Launch → Prop} {M : MD} {d : Nat} {r : Option Value} {h' h h2 : MH} {pc q : Nat} {L st : List Value} {idx ci k a : Nat}
theorem V.getI {x : Int32} (hf : fLk M.1.cls idx ci k) (ht : tyI (mTy ci k) = true) (hg : gI h a ci k = some x) (hd : decode M.2.1 pc = .ok (.getfield idx, 3)) (hq : pc + 3 = q) (kk : V P M d r h' h q L (.int x :: st)) : V P M d r h' h pc L (.ref a :: st) := by
  subst hq
  obtain ⟨hk, hx⟩ := some_if hg
  refine V.step (fun g p l e R s m args below meth c Q H locs cells slots ls _ C hL hR w => mGet C hR hf hk hd ?_) kk
  rw [mFv_I ht, hx]
  exact w
theorem V.getJ {x : Int64} (hf : fLk M.1.cls idx ci k) (ht : mTy ci k = .long) (hg : gJ h a ci k = some x) (hd : decode M.2.1 pc = .ok (.getfield idx, 3)) (hq : pc + 3 = q) (kk : V P M d r h' h q L (.long x :: st)) : V P M d r h' h pc L (.ref a :: st) := by
  subst hq
  obtain ⟨hk, hx⟩ := some_if hg
  refine V.step (fun g p l e R s m args below meth c Q H locs cells slots ls _ C hL hR w => mGet C hR hf hk hd ?_) kk
  rw [mFv_J ht, hx]
  exact w
theorem V.getR {x : Nat} (hf : fLk M.1.cls idx ci k) (ht : tyR (mTy ci k) = true) (hg : gR h a ci k = some x) (hd : decode M.2.1 pc = .ok (.getfield idx, 3)) (hq : pc + 3 = q) (kk : V P M d r h' h q L (.ref x :: st)) : V P M d r h' h pc L (.ref a :: st) := by
  subst hq
  obtain ⟨hk, hx⟩ := some_if' hg
  refine V.step (fun g p l e R s m args below meth c Q H locs cells slots ls _ C hL hR w => mGet C hR hf hk hd ?_) kk
  rw [mFv_R ht, hx]
  exact w
/-- getfield, and a test whether it is null -/
theorem V.getZ {z : Bool} {q2 tgt : Nat} {off : Int} (hf : fLk M.1.cls idx ci k) (ht : tyR (mTy ci k) = true) (hg : gZ h a ci k = some z) (hd : decode M.2.1 pc = .ok (.getfield idx, 3)) (hq : pc + 3 = q) (hd2 : decode M.2.1 q = .ok (.ifnull off, 3)) (hq2 : q + 3 = q2) (htg : (q : Int) + off = (tgt : Int)) (kt : z = true → V P M d r h' h tgt L st) (kf : ¬ z = true → V P M d r h' h q2 L st) : V P M d r h' h pc L (.ref a :: st) := by
  subst hq; subst hq2
  obtain ⟨hk, hx⟩ := some_if hg
  refine V.step2 (Decidable.em _) (fun g p l e R s m args below meth c Q H locs cells slots ls _ C hL hR w1 w2 => mGet C hR hf hk hd ?_) kt kf
  rw [mFv_R ht]
  cases ho : h.2.2.1 a k with
  | none =>
    rw [ho] at hx
    exact lv_ifnullN C.1 C.2.1 hd2 htg (w1 hx.symm)
  | some y =>
    rw [ho] at hx
    exact lv_ifnull C.1 C.2.1 hd2 (w2 (by rw [← hx]; simp))
theorem V.getZN {z : Bool} {q2 tgt : Nat} {off : Int} (hf : fLk M.1.cls idx ci k) (ht : tyR (mTy ci k) = true) (hg : gZ h a ci k = some z) (hd : decode M.2.1 pc = .ok (.getfield idx, 3)) (hq : pc + 3 = q) (hd2 : decode M.2.1 q = .ok (.ifnonnull off, 3)) (hq2 : q + 3 = q2) (htg : (q : Int) + off = (tgt : Int)) (kt : ¬ z = true → V P M d r h' h tgt L st) (kf : z = true → V P M d r h' h q2 L st) : V P M d r h' h pc L (.ref a :: st) := by
  subst hq; subst hq2
  obtain ⟨hk, hx⟩ := some_if hg
  refine V.step2 (Decidable.em (z = true)) (fun g p l e R s m args below meth c Q H locs cells slots ls _ C hL hR w1 w2 => mGet C hR hf hk hd ?_) kf kt
  rw [mFv_R ht]
  cases ho : h.2.2.1 a k with
  | none =>
    rw [ho] at hx
    exact lv_ifnonnullN C.1 C.2.1 hd2 (w1 hx.symm)
  | some y =>
    rw [ho] at hx
    exact lv_ifnonnull C.1 C.2.1 hd2 htg (w2 (by rw [← hx]; simp))
theorem V.put {v : Value} (hf : fPk M idx ci k) (hk : isK h a ci = true) (hs : h2.2.2.2 = h.2.2.2) (hn : ∀ g, narrow (mTy ci k) (enc g v) = enc g v) (hfit : ∀ g, fits (mTy ci k) (enc g v) = true)
    (hne : ∀ (g : GE) b, b ≠ a → mEn g h2 b = mEn g h b) (hat : ∀ g : GE, mFs g.1 h2 a ci = (mFs g.1 h a ci).set k (enc g v)) (hd : decode M.2.1 pc = .ok (.putfield idx, 3)) (hq : pc + 3 = q) (kk : V P M d r h' h2 q L st) : V P M d r h' h pc L (v :: .ref a :: st) := by
  subst hq
  have e1 : mLen h2 = mLen h := by unfold mLen; rw [hs]
  have e2 : mSl h2 = mSl h := by unfold mSl; rw [hs]
  refine ⟨⟨by rw [← e1]; exact kk.1.1, by rw [← e2]; exact kk.1.2⟩, fun g p l e R s m args below meth c Q o1 o2 hPg C hc hsl hr H locs cells slots ls f1 f2 hR hl hL => ?_⟩
  refine mPut (v := enc g v) C hR hf hk (hn g) (hfit g) hd (fun H' sl hA hz ho => ?_)
  obtain ⟨n, hsh, hlt⟩ := isK_at hk
  obtain ⟨Cn, T, N, hcc, -⟩ := id hf
  refine kk.2 g p l e R s m args below meth c Q o1 o2 hPg C hc hsl hr H' _ cells slots ls (by rw [e1]; exact f1) (by rw [e2]; exact f2) (hR.put hs (hne g) ?_ hz ho) ?_ hL
  · rw [mEn_obj (by rw [hs]; exact hsh) (vw_N hcc).2, hat g]
    exact hA
  · intro x hx
    rcases List.mem_append.mp hx with hx | hx
    · exact hl x hx
    · rw [List.mem_singleton.mp hx]; exact Nat.le_add_right _ _
theorem V.putI {x : Int32} (hf : fPk M idx ci k) (ht : mTy ci k = .int) (hp : pI h a ci k x = some h2) (hd : decode M.2.1 pc = .ok (.putfield idx, 3)) (hq : pc + 3 = q) (kk : V P M d r h' h2 q L st) : V P M d r h' h pc L (.int x :: .ref a :: st) := by
  obtain ⟨hk, rfl⟩ := some_if hp
  refine V.put (h2 := sI h a k x) hf hk rfl (fun g => by rw [ht]; rfl) (fun g => by rw [ht]; rfl) (fun g b hb => mEn_sI hb) (fun g => mFs_set (fun j hj => ?_) ?_) hd hq kk
  · unfold mFv sI; simp only [up2_ne (show ¬ (a = a ∧ j = k) from fun q => hj q.2)]
  · rw [mFv_I (by rw [ht]; rfl)]; show Value.int (up2 h.1 a k x a k) = _; rw [up2_eq]; rfl
theorem V.putB {x : Int32} (hf : fPk M idx ci k) (ht : mTy ci k = .boolean) (hp : pB h a ci k x = some h2) (hd : decode M.2.1 pc = .ok (.putfield idx, 3)) (hq : pc + 3 = q) (kk : V P M d r h' h2 q L st) : V P M d r h' h pc L (.int x :: .ref a :: st) := by
  obtain ⟨⟨hk, hx⟩, rfl⟩ := some_if hp
  refine V.put (h2 := sI h a k x) hf hk rfl (fun g => by rw [ht]; rcases hx with rfl | rfl <;> rfl) (fun g => by rw [ht]; rcases hx with rfl | rfl <;> rfl) (fun g b hb => mEn_sI hb) (fun g => mFs_set (fun j hj => ?_) ?_) hd hq kk
  · unfold mFv sI; simp only [up2_ne (show ¬ (a = a ∧ j = k) from fun q => hj q.2)]
  · rw [mFv_I (by rw [ht]; rfl)]; show Value.int (up2 h.1 a k x a k) = _; rw [up2_eq]; rfl
theorem V.putJ {x : Int64} (hf : fPk M idx ci k) (ht : mTy ci k = .long) (hp : pJ h a ci k x = some h2) (hd : decode M.2.1 pc = .ok (.putfield idx, 3)) (hq : pc + 3 = q) (kk : V P M d r h' h2 q L st) : V P M d r h' h pc L (.long x :: .ref a :: st) := by
  obtain ⟨hk, rfl⟩ := some_if hp
  refine V.put (h2 := sJ h a k x) hf hk rfl (fun g => by rw [ht]; rfl) (fun g => by rw [ht]; rfl) (fun g b hb => mEn_sJ hb) (fun g => mFs_set (fun j hj => ?_) ?_) hd hq kk
  · unfold mFv sJ; simp only [up2_ne (show ¬ (a = a ∧ j = k) from fun q => hj q.2)]
  · rw [mFv_J ht]; show Value.long (up2 h.2.1 a k x a k) = _; rw [up2_eq]; rfl
theorem V.putR {x : Nat} (hf : fPk M idx ci k) (ht : tyR (mTy ci k) = true) (hp : pR h a ci k x = some h2) (hd : decode M.2.1 pc = .ok (.putfield idx, 3)) (hq : pc + 3 = q) (kk : V P M d r h' h2 q L st) : V P M d r h' h pc L (.ref x :: .ref a :: st) := by
  obtain ⟨hk, rfl⟩ := some_if hp
  refine V.put (h2 := sR h a k (some x)) hf hk rfl (fun g => ?_) (fun g => ?_) (fun g b hb => mEn_sR hb) (fun g => mFs_set (fun j hj => ?_) ?_) hd hq kk
  · cases hq : mTy ci k <;> first | rfl | (rw [hq] at ht; cases ht)
  · cases hq : mTy ci k <;> first | rfl | (rw [hq] at ht; cases ht)
  · unfold mFv sR; simp only [up2_ne (show ¬ (a = a ∧ j = k) from fun q => hj q.2)]
  · rw [mFv_R ht]; show va_rf (gRf g.1 (up2 h.2.2.1 a k (some x) a k)) = _; rw [up2_eq]; rfl
end VGF
