def fX3_tryPair (kR : MH → Nat → Int32 → Int32 → Option MH) (h : MH) (a0 : Nat) (x1 : Int32) (x2 : Int32) (x3 : Int32) (x4 : Int32) : Option (MH) := bd (gR h a0 3 5) fun b1 => bd (tI h b1 x3 ((10 * x1) + x2)) fun h1 => bd (gR h1 a0 3 3) fun b2 => bd (lI h1 b2 x1) fun v3 => bd (tI h1 b2 x1 (v3 - 1)) fun h2 => bd (gR h2 a0 3 4) fun b4 => bd (lI h2 b4 x2) fun v5 => bd (tI h2 b4 x2 (v5 - 1)) fun h3 => bd (ck h3 a0 3) fun _ => bd (kR h3 a0 (x3 + 1) (x4 + 1)) fun h4 => bd (gR h4 a0 3 3) fun b7 => bd (lI h4 b7 x1) fun v8 => bd (tI h4 b7 x1 (v8 + 1)) fun h5 => bd (gR h5 a0 3 4) fun b9 => bd (lI h5 b9 x2) fun v10 => bd (tI h5 b9 x2 (v10 + 1)) fun h6 => some h6
set_option maxRecDepth 20000 in
theorem tX3_tryPair {D : Nat} (kR : MH → Nat → Int32 → Int32 → Option MH) (hkR : ∀ (h : MH) (a0 : Nat) (x1 x2 : Int32) (h' : MH), kR h a0 x1 x2 = some h' → VM mX3_tryPaper D none h' h [.ref a0, .int x1, .int x2]) {h' : MH} {h : MH} {a0 : Nat} {x1 : Int32} {x2 : Int32} {x3 : Int32} {x4 : Int32} (hf : fX3_tryPair kR h a0 x1 x2 x3 x4 = some h') : VM mX3_tryPair (D + 1) none h' h [.ref a0, .int x1, .int x2, .int x3, .int x4] := by
  show V TT mX3_tryPair (D + 1) _ h' h 0 [.ref a0, .int x1, .int x2, .int x3, .int x4] []
  unfold fX3_tryPair at hf
  refine V.aload_n (q := 1) rfl dX3_tryPair_0 rfl rfl ?_
  obtain ⟨b1, eb1, hf⟩ := bd_ex hf
  refine V.getR (q := 4) flX3_24 rfl eb1 dX3_tryPair_1 rfl ?_
  refine V.iload_n (q := 5) rfl dX3_tryPair_4 rfl rfl ?_
  refine V.bipush (q := 7) (v := 10) (by decide) dX3_tryPair_5 rfl ?_
  refine V.iload_n (q := 8) rfl dX3_tryPair_7 rfl rfl ?_
  refine V.imul (q := 9) dX3_tryPair_8 rfl ?_
  refine V.iload_n (q := 10) rfl dX3_tryPair_9 rfl rfl ?_
  refine V.iadd (q := 11) dX3_tryPair_10 rfl ?_
  obtain ⟨h1, eh1, hf⟩ := bd_ex hf
  refine V.iast (q := 12) eh1 dX3_tryPair_11 rfl ?_
  refine V.aload_n (q := 13) rfl dX3_tryPair_12 rfl rfl ?_
  obtain ⟨b2, eb2, hf⟩ := bd_ex hf
  refine V.getR (q := 16) flX3_18 rfl eb2 dX3_tryPair_13 rfl ?_
  refine V.iload_n (q := 17) rfl dX3_tryPair_16 rfl rfl ?_
  refine V.dup2 (q := 18) dX3_tryPair_17 rfl ?_
  obtain ⟨v3, ev3, hf⟩ := bd_ex hf
  refine V.iald (q := 19) ev3 dX3_tryPair_18 rfl ?_
  refine V.iconst (q := 20) (v := 1) (by decide) dX3_tryPair_19 rfl ?_
  refine V.isub (q := 21) dX3_tryPair_20 rfl ?_
  obtain ⟨h2, eh2, hf⟩ := bd_ex hf
  refine V.iast (q := 22) eh2 dX3_tryPair_21 rfl ?_
  refine V.aload_n (q := 23) rfl dX3_tryPair_22 rfl rfl ?_
  obtain ⟨b4, eb4, hf⟩ := bd_ex hf
  refine V.getR (q := 26) flX3_21 rfl eb4 dX3_tryPair_23 rfl ?_
  refine V.iload_n (q := 27) rfl dX3_tryPair_26 rfl rfl ?_
  refine V.dup2 (q := 28) dX3_tryPair_27 rfl ?_
  obtain ⟨v5, ev5, hf⟩ := bd_ex hf
  refine V.iald (q := 29) ev5 dX3_tryPair_28 rfl ?_
  refine V.iconst (q := 30) (v := 1) (by decide) dX3_tryPair_29 rfl ?_
  refine V.isub (q := 31) dX3_tryPair_30 rfl ?_
  obtain ⟨h3, eh3, hf⟩ := bd_ex hf
  refine V.iast (q := 32) eh3 dX3_tryPair_31 rfl ?_
  refine V.aload_n (q := 33) rfl dX3_tryPair_32 rfl rfl ?_
  refine V.iload_n (q := 34) rfl dX3_tryPair_33 rfl rfl ?_
  refine V.iconst (q := 35) (v := 1) (by decide) dX3_tryPair_34 rfl ?_
  refine V.iadd (q := 36) dX3_tryPair_35 rfl ?_
  refine V.iload (q := 38) dX3_tryPair_36 rfl rfl ?_
  refine V.iconst (q := 39) (v := 1) (by decide) dX3_tryPair_38 rfl ?_
  refine V.iadd (q := 40) dX3_tryPair_39 rfl ?_
  obtain ⟨_, e6, hf⟩ := bd_ex hf
  obtain ⟨h4, eh4, hf⟩ := bd_ex hf
  refine V.callV (q := 43) (ci := 3) (vs := [.int (x3 + 1), .int (x4 + 1)]) (st := []) (S2 := []) okX3_tryPaper imX3_tryPaper seX3_tryPaper rfl lkX3_67 (hkR _ _ _ _ _ eh4) rfl (ck_is e6) (by omega) rfl (Nat.le_of_ble_eq_true rfl) (Nat.le_of_ble_eq_true rfl) rfl dX3_tryPair_40 rfl rfl ?_
  refine V.aload_n (q := 44) rfl dX3_tryPair_43 rfl rfl ?_
  obtain ⟨b7, eb7, hf⟩ := bd_ex hf
  refine V.getR (q := 47) flX3_18 rfl eb7 dX3_tryPair_44 rfl ?_
  refine V.iload_n (q := 48) rfl dX3_tryPair_47 rfl rfl ?_
  refine V.dup2 (q := 49) dX3_tryPair_48 rfl ?_
  obtain ⟨v8, ev8, hf⟩ := bd_ex hf
  refine V.iald (q := 50) ev8 dX3_tryPair_49 rfl ?_
  refine V.iconst (q := 51) (v := 1) (by decide) dX3_tryPair_50 rfl ?_
  refine V.iadd (q := 52) dX3_tryPair_51 rfl ?_
  obtain ⟨h5, eh5, hf⟩ := bd_ex hf
  refine V.iast (q := 53) eh5 dX3_tryPair_52 rfl ?_
  refine V.aload_n (q := 54) rfl dX3_tryPair_53 rfl rfl ?_
  obtain ⟨b9, eb9, hf⟩ := bd_ex hf
  refine V.getR (q := 57) flX3_21 rfl eb9 dX3_tryPair_54 rfl ?_
  refine V.iload_n (q := 58) rfl dX3_tryPair_57 rfl rfl ?_
  refine V.dup2 (q := 59) dX3_tryPair_58 rfl ?_
  obtain ⟨v10, ev10, hf⟩ := bd_ex hf
  refine V.iald (q := 60) ev10 dX3_tryPair_59 rfl ?_
  refine V.iconst (q := 61) (v := 1) (by decide) dX3_tryPair_60 rfl ?_
  refine V.iadd (q := 62) dX3_tryPair_61 rfl ?_
  obtain ⟨h6, eh6, hf⟩ := bd_ex hf
  refine V.iast (q := 63) eh6 dX3_tryPair_62 rfl ?_
  cases hf
  exact V.ret (r := none) trivial dX3_tryPair_63
def bX3_tryPaper_80 (kR : MH → Nat → Int32 → Int32 → Option MH) (k63 : MH → Nat → Int32 → Int32 → Int32 → Option (MH)) (k80 : MH → Nat → Int32 → Int32 → Int32 → Int32 → Option (MH)) (h : MH) (a0 : Nat) (x1 : Int32) (x2 : Int32) (x3 : Int32) (x4 : Int32) : Option (MH) := bd (gR h a0 3 0) fun b1 => bd (gR h b1 5 1) fun b2 => bd (gI h b2 7 17) fun v3 => if v3 ≤ x4 then (bd (some (x3 + 1)) fun v4 => k63 h a0 x1 x2 v4) else (bd (ck h a0 3) fun _ => bd2 (fX3_canPress h a0 x3 x4 x1) fun v5 h1 => if v5 = 0 then (bd (some (x4 + 1)) fun v6 => k80 h1 a0 x1 x2 x3 v6) else (bd (ck h1 a0 3) fun _ => bd (fX3_tryPair kR h1 a0 x3 x4 x1 x2) fun h2 => bd (some (x4 + 1)) fun v7 => k80 h2 a0 x1 x2 x3 v7))
set_option maxRecDepth 20000 in
theorem tX3_tryPaper_80 {D : Nat} (kR : MH → Nat → Int32 → Int32 → Option MH) (hkR : ∀ (h : MH) (a0 : Nat) (x1 x2 : Int32) (h' : MH), kR h a0 x1 x2 = some h' → VM mX3_tryPaper D none h' h [.ref a0, .int x1, .int x2]) {h' : MH} (k63 : MH → Nat → Int32 → Int32 → Int32 → Option (MH)) (hk63 : ∀ (h : MH) (a0 : Nat) (x1 : Int32) (x2 : Int32) (x3 : Int32), k63 h a0 x1 x2 x3 = some h' → V TT mX3_tryPaper (D + 2) none h' h 63 [.ref a0, .int x1, .int x2, .int x3, Jk] []) (k80 : MH → Nat → Int32 → Int32 → Int32 → Int32 → Option (MH)) (hk80 : ∀ (h : MH) (a0 : Nat) (x1 : Int32) (x2 : Int32) (x3 : Int32) (x4 : Int32), k80 h a0 x1 x2 x3 x4 = some h' → V TT mX3_tryPaper (D + 2) none h' h 80 [.ref a0, .int x1, .int x2, .int x3, .int x4] [])  {h : MH} {a0 : Nat} {x1 : Int32} {x2 : Int32} {x3 : Int32} {x4 : Int32} (hf : bX3_tryPaper_80 kR k63 k80 h a0 x1 x2 x3 x4 = some h') : V TT mX3_tryPaper (D + 2) none h' h 80 [.ref a0, .int x1, .int x2, .int x3, .int x4] [] := by
  unfold bX3_tryPaper_80 at hf
  refine V.iload (q := 82) dX3_tryPaper_80 rfl rfl ?_
  refine V.aload_n (q := 83) rfl dX3_tryPaper_82 rfl rfl ?_
  obtain ⟨b1, eb1, hf⟩ := bd_ex hf
  refine V.getR (q := 86) flX3_30 rfl eb1 dX3_tryPaper_83 rfl ?_
  obtain ⟨b2, eb2, hf⟩ := bd_ex hf
  refine V.getR (q := 89) flX3_38 rfl eb2 dX3_tryPaper_86 rfl ?_
  obtain ⟨v3, ev3, hf⟩ := bd_ex hf
  refine V.getI (q := 92) flX3_81 rfl ev3 dX3_tryPaper_89 rfl ?_
  refine V.icmp_ge (q := 95) (tgt := 121) dX3_tryPaper_92 rfl (by decide) (fun c => ?_) (fun c => ?_)
  · rw [if_pos c] at hf
    obtain ⟨v4, ev4, hf⟩ := bd_ex hf
    refine V.iinc (q := 124) (v := v4) (L' := [.ref a0, .int x1, .int x2, .int v4, .int x4]) dX3_tryPaper_121 rfl rfl (Option.some.inj ev4) (by decide) rfl rfl ?_
    refine V.goto (q := 63) dX3_tryPaper_124 (by decide) ?_
    refine V.forget (L' := [.ref a0, .int x1, .int x2, .int v4, Jk]) ⟨Or.inr rfl, Or.inr rfl, Or.inr rfl, Or.inr rfl, Or.inl rfl, trivial⟩ ?_
    exact hk63 _ _ _ _ _ hf
  · rw [if_neg c] at hf
    refine V.aload_n (q := 96) rfl dX3_tryPaper_95 rfl rfl ?_
    refine V.iload_n (q := 97) rfl dX3_tryPaper_96 rfl rfl ?_
    refine V.iload (q := 99) dX3_tryPaper_97 rfl rfl ?_
    refine V.iload_n (q := 100) rfl dX3_tryPaper_99 rfl rfl ?_
    obtain ⟨_, e4, hf⟩ := bd_ex hf
    obtain ⟨v5, h1, eh1, hf⟩ := bd2_ex hf
    refine V.callV (q := 103) (ci := 3) (vs := [.int x3, .int x4, .int x1]) (st := []) (S2 := [.int v5]) okX3_canPress imX3_canPress seX3_canPress rfl lkX3_110 (tX3_canPress eh1) rfl (ck_is e4) (by omega) rfl (Nat.le_of_ble_eq_true rfl) (Nat.le_of_ble_eq_true rfl) rfl dX3_tryPaper_100 rfl rfl ?_
    refine V.if_eq (q := 106) (tgt := 115) dX3_tryPaper_103 rfl (by decide) (fun c => ?_) (fun c => ?_)
    · rw [if_pos c] at hf
      obtain ⟨v6, ev6, hf⟩ := bd_ex hf
      refine V.iinc (q := 118) (v := v6) (L' := [.ref a0, .int x1, .int x2, .int x3, .int v6]) dX3_tryPaper_115 rfl rfl (Option.some.inj ev6) (by decide) rfl rfl ?_
      refine V.goto (q := 80) dX3_tryPaper_118 (by decide) ?_
      exact hk80 _ _ _ _ _ _ hf
    · rw [if_neg c] at hf
      refine V.aload_n (q := 107) rfl dX3_tryPaper_106 rfl rfl ?_
      refine V.iload_n (q := 108) rfl dX3_tryPaper_107 rfl rfl ?_
      refine V.iload (q := 110) dX3_tryPaper_108 rfl rfl ?_
      refine V.iload_n (q := 111) rfl dX3_tryPaper_110 rfl rfl ?_
      refine V.iload_n (q := 112) rfl dX3_tryPaper_111 rfl rfl ?_
      obtain ⟨_, e6, hf⟩ := bd_ex hf
      obtain ⟨h2, eh2, hf⟩ := bd_ex hf
      refine V.callV (q := 115) (ci := 3) (vs := [.int x3, .int x4, .int x1, .int x2]) (st := []) (S2 := []) okX3_tryPair imX3_tryPair seX3_tryPair rfl lkX3_114 (tX3_tryPair kR hkR eh2) rfl (ck_is e6) (by omega) rfl (Nat.le_of_ble_eq_true rfl) (Nat.le_of_ble_eq_true rfl) rfl dX3_tryPaper_112 rfl rfl ?_
      obtain ⟨v7, ev7, hf⟩ := bd_ex hf
      refine V.iinc (q := 118) (v := v7) (L' := [.ref a0, .int x1, .int x2, .int x3, .int v7]) dX3_tryPaper_115 rfl rfl (Option.some.inj ev7) (by decide) rfl rfl ?_
      refine V.goto (q := 80) dX3_tryPaper_118 (by decide) ?_
      exact hk80 _ _ _ _ _ _ hf
def fX3_tryPaper_80 (kR : MH → Nat → Int32 → Int32 → Option MH) (k63 : MH → Nat → Int32 → Int32 → Int32 → Option (MH)) : Nat → MH → Nat → Int32 → Int32 → Int32 → Int32 → Option (MH)
  | 0 => fun _ _ _ _ _ _ => none
  | n + 1 => bX3_tryPaper_80 kR k63 (fX3_tryPaper_80 kR k63 n)
theorem tlX3_tryPaper_80 {D : Nat} (kR : MH → Nat → Int32 → Int32 → Option MH) (hkR : ∀ (h : MH) (a0 : Nat) (x1 x2 : Int32) (h' : MH), kR h a0 x1 x2 = some h' → VM mX3_tryPaper D none h' h [.ref a0, .int x1, .int x2]) {h' : MH} (k63 : MH → Nat → Int32 → Int32 → Int32 → Option (MH)) (hk63 : ∀ (h : MH) (a0 : Nat) (x1 : Int32) (x2 : Int32) (x3 : Int32), k63 h a0 x1 x2 x3 = some h' → V TT mX3_tryPaper (D + 2) none h' h 63 [.ref a0, .int x1, .int x2, .int x3, Jk] [])  : ∀ (n : Nat) (h : MH) (a0 : Nat) (x1 : Int32) (x2 : Int32) (x3 : Int32) (x4 : Int32), fX3_tryPaper_80 kR k63 n h a0 x1 x2 x3 x4 = some h' → V TT mX3_tryPaper (D + 2) none h' h 80 [.ref a0, .int x1, .int x2, .int x3, .int x4] [] := by
  intro n
  induction n with
  | zero => intro h a0 x1 x2 x3 x4 hf; exact nomatch (show (none : Option (MH)) = some h' from hf)
  | succ n ih => intro h a0 x1 x2 x3 x4 hf; exact tX3_tryPaper_80 kR hkR k63 hk63 (fX3_tryPaper_80 kR k63 n) ih hf
def bX3_tryPaper_63 (kR : MH → Nat → Int32 → Int32 → Option MH) (k63 : MH → Nat → Int32 → Int32 → Int32 → Option (MH)) (h : MH) (a0 : Nat) (x1 : Int32) (x2 : Int32) (x3 : Int32) : Option (MH) := bd (gR h a0 3 0) fun b1 => bd (gR h b1 5 1) fun b2 => bd (gI h b2 7 15) fun v3 => if v3 ≤ x3 then (bd (gR h a0 3 5) fun b4 => bd (tI h b4 x1 (-2)) fun h1 => bd (ck h1 a0 3) fun _ => bd (kR h1 a0 (x1 + 1) x2) fun h2 => some h2) else (fX3_tryPaper_80 kR k63 FU h a0 x1 x2 x3 0)
set_option maxRecDepth 20000 in
theorem tX3_tryPaper_63 {D : Nat} (kR : MH → Nat → Int32 → Int32 → Option MH) (hkR : ∀ (h : MH) (a0 : Nat) (x1 x2 : Int32) (h' : MH), kR h a0 x1 x2 = some h' → VM mX3_tryPaper D none h' h [.ref a0, .int x1, .int x2]) {h' : MH} (k63 : MH → Nat → Int32 → Int32 → Int32 → Option (MH)) (hk63 : ∀ (h : MH) (a0 : Nat) (x1 : Int32) (x2 : Int32) (x3 : Int32), k63 h a0 x1 x2 x3 = some h' → V TT mX3_tryPaper (D + 2) none h' h 63 [.ref a0, .int x1, .int x2, .int x3, Jk] [])  {h : MH} {a0 : Nat} {x1 : Int32} {x2 : Int32} {x3 : Int32} (hf : bX3_tryPaper_63 kR k63 h a0 x1 x2 x3 = some h') : V TT mX3_tryPaper (D + 2) none h' h 63 [.ref a0, .int x1, .int x2, .int x3, Jk] [] := by
  unfold bX3_tryPaper_63 at hf
  refine V.iload_n (q := 64) rfl dX3_tryPaper_63 rfl rfl ?_
  refine V.aload_n (q := 65) rfl dX3_tryPaper_64 rfl rfl ?_
  obtain ⟨b1, eb1, hf⟩ := bd_ex hf
  refine V.getR (q := 68) flX3_30 rfl eb1 dX3_tryPaper_65 rfl ?_
  obtain ⟨b2, eb2, hf⟩ := bd_ex hf
  refine V.getR (q := 71) flX3_38 rfl eb2 dX3_tryPaper_68 rfl ?_
  obtain ⟨v3, ev3, hf⟩ := bd_ex hf
  refine V.getI (q := 74) flX3_44 rfl ev3 dX3_tryPaper_71 rfl ?_
  refine V.icmp_ge (q := 77) (tgt := 127) dX3_tryPaper_74 rfl (by decide) (fun c => ?_) (fun c => ?_)
  · rw [if_pos c] at hf
    refine V.aload_n (q := 128) rfl dX3_tryPaper_127 rfl rfl ?_
    obtain ⟨b4, eb4, hf⟩ := bd_ex hf
    refine V.getR (q := 131) flX3_24 rfl eb4 dX3_tryPaper_128 rfl ?_
    refine V.iload_n (q := 132) rfl dX3_tryPaper_131 rfl rfl ?_
    refine V.bipush (q := 134) (v := (-2)) (by decide) dX3_tryPaper_132 rfl ?_
    obtain ⟨h1, eh1, hf⟩ := bd_ex hf
    refine V.iast (q := 135) eh1 dX3_tryPaper_134 rfl ?_
    refine V.aload_n (q := 136) rfl dX3_tryPaper_135 rfl rfl ?_
    refine V.iload_n (q := 137) rfl dX3_tryPaper_136 rfl rfl ?_
    refine V.iconst (q := 138) (v := 1) (by decide) dX3_tryPaper_137 rfl ?_
    refine V.iadd (q := 139) dX3_tryPaper_138 rfl ?_
    refine V.iload_n (q := 140) rfl dX3_tryPaper_139 rfl rfl ?_
    obtain ⟨_, e5, hf⟩ := bd_ex hf
    obtain ⟨h2, eh2, hf⟩ := bd_ex hf
    refine V.callV (q := 143) (ci := 3) (vs := [.int (x1 + 1), .int x2]) (st := []) (S2 := []) okX3_tryPaper imX3_tryPaper seX3_tryPaper rfl lkX3_67 (hkR _ _ _ _ _ eh2) rfl (ck_is e5) (by omega) rfl (Nat.le_of_ble_eq_true rfl) (Nat.le_of_ble_eq_true rfl) rfl dX3_tryPaper_140 rfl rfl ?_
    cases hf
    exact V.ret (r := none) trivial dX3_tryPaper_143
  · rw [if_neg c] at hf
    refine V.iconst (q := 78) (v := 0) (by decide) dX3_tryPaper_77 rfl ?_
    refine V.istore (q := 80) (L' := [.ref a0, .int x1, .int x2, .int x3, .int 0]) dX3_tryPaper_78 rfl (by decide) rfl rfl ?_
    exact tlX3_tryPaper_80 kR hkR k63 hk63 FU _ _ _ _ _ _ hf
def fX3_tryPaper_63 (kR : MH → Nat → Int32 → Int32 → Option MH)  : Nat → MH → Nat → Int32 → Int32 → Int32 → Option (MH)
  | 0 => fun _ _ _ _ _ => none
  | n + 1 => bX3_tryPaper_63 kR  (fX3_tryPaper_63 kR  n)
theorem tlX3_tryPaper_63 {D : Nat} (kR : MH → Nat → Int32 → Int32 → Option MH) (hkR : ∀ (h : MH) (a0 : Nat) (x1 x2 : Int32) (h' : MH), kR h a0 x1 x2 = some h' → VM mX3_tryPaper D none h' h [.ref a0, .int x1, .int x2]) {h' : MH}   : ∀ (n : Nat) (h : MH) (a0 : Nat) (x1 : Int32) (x2 : Int32) (x3 : Int32), fX3_tryPaper_63 kR  n h a0 x1 x2 x3 = some h' → V TT mX3_tryPaper (D + 2) none h' h 63 [.ref a0, .int x1, .int x2, .int x3, Jk] [] := by
  intro n
  induction n with
  | zero => intro h a0 x1 x2 x3 hf; exact nomatch (show (none : Option (MH)) = some h' from hf)
  | succ n ih => intro h a0 x1 x2 x3 hf; exact tX3_tryPaper_63 kR hkR  (fX3_tryPaper_63 kR  n) ih hf
def fX3_tryPaper (kR : MH → Nat → Int32 → Int32 → Option MH) (h : MH) (a0 : Nat) (x1 : Int32) (x2 : Int32) : Option (MH) := bd (gI h a0 3 7) fun v1 => bd (gI h a0 3 8) fun v2 => if v2 ≤ v1 then (some h) else (bd (gR h a0 3 0) fun b3 => bd (gR h b3 5 1) fun b4 => bd (gI h b4 7 14) fun v5 => if v5 < x1 then (some h) else (bd (gR h a0 3 2) fun b6 => bd (lI h b6 x1) fun v7 => bd (gI h a0 3 7) fun v8 => if v8 < (x2 + v7) then (bd (gR h a0 3 0) fun b9 => bd (gR h b9 5 1) fun b10 => bd (gI h b10 7 14) fun v11 => if x1 = v11 then (bd (ck h a0 3) fun _ => bd (fX3_keepTried h a0 x2) fun h1 => some h1) else (fX3_tryPaper_63 kR FU h a0 x1 x2 0)) else (some h)))
set_option maxRecDepth 20000 in
theorem tX3_tryPaper {D : Nat} (kR : MH → Nat → Int32 → Int32 → Option MH) (hkR : ∀ (h : MH) (a0 : Nat) (x1 x2 : Int32) (h' : MH), kR h a0 x1 x2 = some h' → VM mX3_tryPaper D none h' h [.ref a0, .int x1, .int x2]) {h' : MH} {h : MH} {a0 : Nat} {x1 : Int32} {x2 : Int32} (hf : fX3_tryPaper kR h a0 x1 x2 = some h') : VM mX3_tryPaper (D + 2) none h' h [.ref a0, .int x1, .int x2] := by
  show V TT mX3_tryPaper (D + 2) _ h' h 0 [.ref a0, .int x1, .int x2, Jk, Jk] []
  unfold fX3_tryPaper at hf
  refine V.aload_n (q := 1) rfl dX3_tryPaper_0 rfl rfl ?_
  obtain ⟨v1, ev1, hf⟩ := bd_ex hf
  refine V.getI (q := 4) flX3_64 rfl ev1 dX3_tryPaper_1 rfl ?_
  refine V.aload_n (q := 5) rfl dX3_tryPaper_4 rfl rfl ?_
  obtain ⟨v2, ev2, hf⟩ := bd_ex hf
  refine V.getI (q := 8) flX3_61 rfl ev2 dX3_tryPaper_5 rfl ?_
  refine V.icmp_ge (q := 11) (tgt := 40) dX3_tryPaper_8 rfl (by decide) (fun c => ?_) (fun c => ?_)
  · rw [if_pos c] at hf
    cases hf
    exact V.ret (r := none) trivial dX3_tryPaper_40
  · rw [if_neg c] at hf
    refine V.iload_n (q := 12) rfl dX3_tryPaper_11 rfl rfl ?_
    refine V.aload_n (q := 13) rfl dX3_tryPaper_12 rfl rfl ?_
    obtain ⟨b3, eb3, hf⟩ := bd_ex hf
    refine V.getR (q := 16) flX3_30 rfl eb3 dX3_tryPaper_13 rfl ?_
    obtain ⟨b4, eb4, hf⟩ := bd_ex hf
    refine V.getR (q := 19) flX3_38 rfl eb4 dX3_tryPaper_16 rfl ?_
    obtain ⟨v5, ev5, hf⟩ := bd_ex hf
    refine V.getI (q := 22) flX3_84 rfl ev5 dX3_tryPaper_19 rfl ?_
    refine V.icmp_gt (q := 25) (tgt := 40) dX3_tryPaper_22 rfl (by decide) (fun c => ?_) (fun c => ?_)
    · rw [if_pos c] at hf
      cases hf
      exact V.ret (r := none) trivial dX3_tryPaper_40
    · rw [if_neg c] at hf
      refine V.iload_n (q := 26) rfl dX3_tryPaper_25 rfl rfl ?_
      refine V.aload_n (q := 27) rfl dX3_tryPaper_26 rfl rfl ?_
      obtain ⟨b6, eb6, hf⟩ := bd_ex hf
      refine V.getR (q := 30) flX3_15 rfl eb6 dX3_tryPaper_27 rfl ?_
      refine V.iload_n (q := 31) rfl dX3_tryPaper_30 rfl rfl ?_
      obtain ⟨v7, ev7, hf⟩ := bd_ex hf
      refine V.iald (q := 32) ev7 dX3_tryPaper_31 rfl ?_
      refine V.iadd (q := 33) dX3_tryPaper_32 rfl ?_
      refine V.aload_n (q := 34) rfl dX3_tryPaper_33 rfl rfl ?_
      obtain ⟨v8, ev8, hf⟩ := bd_ex hf
      refine V.getI (q := 37) flX3_64 rfl ev8 dX3_tryPaper_34 rfl ?_
      refine V.icmp_gt (q := 40) (tgt := 41) dX3_tryPaper_37 rfl (by decide) (fun c => ?_) (fun c => ?_)
      · rw [if_pos c] at hf
        refine V.iload_n (q := 42) rfl dX3_tryPaper_41 rfl rfl ?_
        refine V.aload_n (q := 43) rfl dX3_tryPaper_42 rfl rfl ?_
        obtain ⟨b9, eb9, hf⟩ := bd_ex hf
        refine V.getR (q := 46) flX3_30 rfl eb9 dX3_tryPaper_43 rfl ?_
        obtain ⟨b10, eb10, hf⟩ := bd_ex hf
        refine V.getR (q := 49) flX3_38 rfl eb10 dX3_tryPaper_46 rfl ?_
        obtain ⟨v11, ev11, hf⟩ := bd_ex hf
        refine V.getI (q := 52) flX3_84 rfl ev11 dX3_tryPaper_49 rfl ?_
        refine V.icmp_ne (q := 55) (tgt := 61) dX3_tryPaper_52 rfl (by decide) (fun c => ?_) (fun c => ?_)
        · rw [if_neg c] at hf
          refine V.iconst (q := 62) (v := 0) (by decide) dX3_tryPaper_61 rfl ?_
          refine V.istore_n (q := 63) (L' := [.ref a0, .int x1, .int x2, .int 0, Jk]) rfl dX3_tryPaper_62 rfl (by decide) rfl rfl ?_
          exact tlX3_tryPaper_63 kR hkR  FU _ _ _ _ _ hf
        · rw [if_pos c] at hf
          refine V.aload_n (q := 56) rfl dX3_tryPaper_55 rfl rfl ?_
          refine V.iload_n (q := 57) rfl dX3_tryPaper_56 rfl rfl ?_
          obtain ⟨_, e12, hf⟩ := bd_ex hf
          obtain ⟨h1, eh1, hf⟩ := bd_ex hf
          refine V.callV (q := 60) (ci := 3) (vs := [.int x2]) (st := []) (S2 := []) okX3_keepTried imX3_keepTried seX3_keepTried rfl lkX3_107 (tX3_keepTried eh1) rfl (ck_is e12) (by omega) rfl (Nat.le_of_ble_eq_true rfl) (Nat.le_of_ble_eq_true rfl) rfl dX3_tryPaper_57 rfl rfl ?_
          cases hf
          exact V.ret (r := none) trivial dX3_tryPaper_60
      · rw [if_neg c] at hf
        cases hf
        exact V.ret (r := none) trivial dX3_tryPaper_40
def FX3_tryPaper : Nat → MH → Nat → Int32 → Int32 → Option MH
  | 0 => fun _ _ _ _ => none
  | n + 1 => fX3_tryPaper (FX3_tryPaper n)
theorem TX3_tryPaper : ∀ (n : Nat) (h : MH) (a0 : Nat) (x1 x2 : Int32) (h' : MH), FX3_tryPaper n h a0 x1 x2 = some h' → VM mX3_tryPaper (2 * n) none h' h [.ref a0, .int x1, .int x2] := by
  intro n
  induction n with
  | zero => intro h a0 x1 x2 h' hf; exact nomatch (show (none : Option MH) = some h' from hf)
  | succ n ih => intro h a0 x1 x2 h' hf; exact tX3_tryPaper (FX3_tryPaper n) ih hf

def fX3_mostWants (h : MH) (a0 : Nat) (x1 : Int32) (x2 : Int32) : Option (Int32 × MH) := bd (ck h a0 3) fun _ => bd (fX3_setRooms h a0 x1) fun h1 => bd (ck h1 a0 3) fun _ => bd (fX3_setFits h1 a0 ) fun h2 => bd (ck h2 a0 3) fun _ => bd2 (fX3_mostThatCanBe h2 a0 ) fun v4 h3 => bd (pI h3 a0 3 8 v4) fun h4 => bd (pI h4 a0 3 7 x2) fun h5 => bd (ck h5 a0 3) fun _ => bd (FX3_tryPaper 7 h5 a0 0 0) fun h6 => bd (gI h6 a0 3 7) fun v6 => some (v6, h6)
set_option maxRecDepth 20000 in
theorem tX3_mostWants {r : Int32} {h' : MH} {h : MH} {a0 : Nat} {x1 : Int32} {x2 : Int32} (hf : fX3_mostWants h a0 x1 x2 = some (r, h')) : VM mX3_mostWants 15 (some (.int r)) h' h [.ref a0, .int x1, .int x2] := by
  show V TT mX3_mostWants 15 _ h' h 0 [.ref a0, .int x1, .int x2] []
  unfold fX3_mostWants at hf
  refine V.aload_n (q := 1) rfl dX3_mostWants_0 rfl rfl ?_
  refine V.iload_n (q := 2) rfl dX3_mostWants_1 rfl rfl ?_
  obtain ⟨_, e1, hf⟩ := bd_ex hf
  obtain ⟨h1, eh1, hf⟩ := bd_ex hf
  refine V.callV (q := 5) (ci := 3) (vs := [.int x1]) (st := []) (S2 := []) okX3_setRooms imX3_setRooms seX3_setRooms rfl lkX3_50 (tX3_setRooms eh1) rfl (ck_is e1) (by decide) rfl (Nat.le_of_ble_eq_true rfl) (Nat.le_of_ble_eq_true rfl) rfl dX3_mostWants_2 rfl rfl ?_
  refine V.aload_n (q := 6) rfl dX3_mostWants_5 rfl rfl ?_
  obtain ⟨_, e2, hf⟩ := bd_ex hf
  obtain ⟨h2, eh2, hf⟩ := bd_ex hf
  refine V.callV (q := 9) (ci := 3) (vs := []) (st := []) (S2 := []) okX3_setFits imX3_setFits seX3_setFits rfl lkX3_54 (tX3_setFits eh2) rfl (ck_is e2) (by decide) rfl (Nat.le_of_ble_eq_true rfl) (Nat.le_of_ble_eq_true rfl) rfl dX3_mostWants_6 rfl rfl ?_
  refine V.aload_n (q := 10) rfl dX3_mostWants_9 rfl rfl ?_
  refine V.aload_n (q := 11) rfl dX3_mostWants_10 rfl rfl ?_
  obtain ⟨_, e3, hf⟩ := bd_ex hf
  obtain ⟨v4, h3, eh3, hf⟩ := bd2_ex hf
  refine V.callV (q := 14) (ci := 3) (vs := []) (st := [.ref a0]) (S2 := [.int v4, .ref a0]) okX3_mostThatCanBe imX3_mostThatCanBe seX3_mostThatCanBe rfl lkX3_57 (tX3_mostThatCanBe eh3) rfl (ck_is e3) (by decide) rfl (Nat.le_of_ble_eq_true rfl) (Nat.le_of_ble_eq_true rfl) rfl dX3_mostWants_11 rfl rfl ?_
  obtain ⟨h4, eh4, hf⟩ := bd_ex hf
  refine V.putI (q := 17) (fpX3_61 rfl) rfl eh4 dX3_mostWants_14 rfl ?_
  refine V.aload_n (q := 18) rfl dX3_mostWants_17 rfl rfl ?_
  refine V.iload_n (q := 19) rfl dX3_mostWants_18 rfl rfl ?_
  obtain ⟨h5, eh5, hf⟩ := bd_ex hf
  refine V.putI (q := 22) (fpX3_64 rfl) rfl eh5 dX3_mostWants_19 rfl ?_
  refine V.aload_n (q := 23) rfl dX3_mostWants_22 rfl rfl ?_
  refine V.iconst (q := 24) (v := 0) (by decide) dX3_mostWants_23 rfl ?_
  refine V.iconst (q := 25) (v := 0) (by decide) dX3_mostWants_24 rfl ?_
  obtain ⟨_, e5, hf⟩ := bd_ex hf
  obtain ⟨h6, eh6, hf⟩ := bd_ex hf
  refine V.callV (q := 28) (ci := 3) (vs := [.int 0, .int 0]) (st := []) (S2 := []) okX3_tryPaper imX3_tryPaper seX3_tryPaper rfl lkX3_67 (TX3_tryPaper 7 _ _ _ _ _ eh6) rfl (ck_is e5) (by decide) rfl (Nat.le_of_ble_eq_true rfl) (Nat.le_of_ble_eq_true rfl) rfl dX3_mostWants_25 rfl rfl ?_
  refine V.aload_n (q := 29) rfl dX3_mostWants_28 rfl rfl ?_
  obtain ⟨v6, ev6, hf⟩ := bd_ex hf
  refine V.getI (q := 32) flX3_64 rfl ev6 dX3_mostWants_29 rfl ?_
  obtain ⟨rfl, rfl⟩ := ret_inj hf
  exact V.ret (r := some (.int v6)) trivial dX3_mostWants_32
def fX11_kept (h : MH) (a0 : Nat) : Option (Int32 × MH) := bd (gI h a0 11 9) fun v1 => if v1 = 0 then (bd (ck h a0 11) fun _ => bd2 (fX11_refuse h a0 1) fun v3 h1 => some (v3, h1)) else (bd (gR h a0 11 4) fun b2 => bd (ck h b2 3) fun _ => bd2 (fX3_mostWants h b2 (-1) (-1)) fun v4 h1 => bd (ck h1 a0 11) fun _ => bd2 (fX11_answer h1 a0 v4) fun v6 h2 => some (v6, h2))
set_option maxRecDepth 20000 in
theorem tX11_kept {r : Int32} {h' : MH} {h : MH} {a0 : Nat} (hf : fX11_kept h a0 = some (r, h')) : VM mX11_kept 16 (some (.int r)) h' h [.ref a0] := by
  show V TT mX11_kept 16 _ h' h 0 [.ref a0] []
  unfold fX11_kept at hf
  refine V.aload_n (q := 1) rfl dX11_kept_0 rfl rfl ?_
  obtain ⟨v1, ev1, hf⟩ := bd_ex hf
  refine V.getI (q := 4) flX11_76 rfl ev1 dX11_kept_1 rfl ?_
  refine V.if_ne (q := 7) (tgt := 13) dX11_kept_4 rfl (by decide) (fun c => ?_) (fun c => ?_)
  · rw [if_neg c] at hf
    refine V.aload_n (q := 14) rfl dX11_kept_13 rfl rfl ?_
    refine V.aload_n (q := 15) rfl dX11_kept_14 rfl rfl ?_
    obtain ⟨b2, eb2, hf⟩ := bd_ex hf
    refine V.getR (q := 18) flX11_44 rfl eb2 dX11_kept_15 rfl ?_
    refine V.iconst (q := 19) (v := (-1)) (by decide) dX11_kept_18 rfl ?_
    refine V.iconst (q := 20) (v := (-1)) (by decide) dX11_kept_19 rfl ?_
    obtain ⟨_, e3, hf⟩ := bd_ex hf
    obtain ⟨v4, h1, eh1, hf⟩ := bd2_ex hf
    refine V.callV (q := 23) (ci := 3) (vs := [.int (-1), .int (-1)]) (st := [.ref a0]) (S2 := [.int v4, .ref a0]) okX3_mostWants imX3_mostWants seX3_mostWants rfl lkX11_230 (tX3_mostWants eh1) rfl (ck_is e3) (by decide) rfl (Nat.le_of_ble_eq_true rfl) (Nat.le_of_ble_eq_true rfl) rfl dX11_kept_20 rfl rfl ?_
    obtain ⟨_, e5, hf⟩ := bd_ex hf
    obtain ⟨v6, h2, eh2, hf⟩ := bd2_ex hf
    refine V.callV (q := 26) (ci := 11) (vs := [.int v4]) (st := []) (S2 := [.int v6]) okX11_answer imX11_answer seX11_answer rfl lkX11_127 (tX11_answer eh2) rfl (ck_is e5) (by decide) rfl (Nat.le_of_ble_eq_true rfl) (Nat.le_of_ble_eq_true rfl) rfl dX11_kept_23 rfl rfl ?_
    obtain ⟨rfl, rfl⟩ := ret_inj hf
    exact V.ret (r := some (.int v6)) trivial dX11_kept_26
  · rw [if_pos c] at hf
    refine V.aload_n (q := 8) rfl dX11_kept_7 rfl rfl ?_
    refine V.iconst (q := 9) (v := 1) (by decide) dX11_kept_8 rfl ?_
    obtain ⟨_, e2, hf⟩ := bd_ex hf
    obtain ⟨v3, h1, eh1, hf⟩ := bd2_ex hf
    refine V.callV (q := 12) (ci := 11) (vs := [.int 1]) (st := []) (S2 := [.int v3]) okX11_refuse imX11_refuse seX11_refuse rfl lkX11_101 (tX11_refuse eh1) rfl (ck_is e2) (by decide) rfl (Nat.le_of_ble_eq_true rfl) (Nat.le_of_ble_eq_true rfl) rfl dX11_kept_9 rfl rfl ?_
    obtain ⟨rfl, rfl⟩ := ret_inj hf
    exact V.ret (r := some (.int v3)) trivial dX11_kept_12
def fX3_pairFor (h : MH) (a0 : Nat) (x1 : Int32) : Option (Int32 × MH) := bd (ck h a0 3) fun _ => bd2 (fX3_mostWants h a0 (-1) (-1)) fun v2 h1 => bd (gR h1 a0 3 6) fun b3 => bd (lI h1 b3 x1) fun v4 => some (v4, h1)
set_option maxRecDepth 20000 in
theorem tX3_pairFor {r : Int32} {h' : MH} {h : MH} {a0 : Nat} {x1 : Int32} (hf : fX3_pairFor h a0 x1 = some (r, h')) : VM mX3_pairFor 16 (some (.int r)) h' h [.ref a0, .int x1] := by
  show V TT mX3_pairFor 16 _ h' h 0 [.ref a0, .int x1] []
  unfold fX3_pairFor at hf
  refine V.aload_n (q := 1) rfl dX3_pairFor_0 rfl rfl ?_
  refine V.iconst (q := 2) (v := (-1)) (by decide) dX3_pairFor_1 rfl ?_
  refine V.iconst (q := 3) (v := (-1)) (by decide) dX3_pairFor_2 rfl ?_
  obtain ⟨_, e1, hf⟩ := bd_ex hf
  obtain ⟨v2, h1, eh1, hf⟩ := bd2_ex hf
  refine V.callV (q := 6) (ci := 3) (vs := [.int (-1), .int (-1)]) (st := []) (S2 := [.int v2]) okX3_mostWants imX3_mostWants seX3_mostWants rfl lkX3_34 (tX3_mostWants eh1) rfl (ck_is e1) (by decide) rfl (Nat.le_of_ble_eq_true rfl) (Nat.le_of_ble_eq_true rfl) rfl dX3_pairFor_3 rfl rfl ?_
  refine V.popI (q := 7) dX3_pairFor_6 rfl ?_
  refine V.aload_n (q := 8) rfl dX3_pairFor_7 rfl rfl ?_
  obtain ⟨b3, eb3, hf⟩ := bd_ex hf
  refine V.getR (q := 11) flX3_27 rfl eb3 dX3_pairFor_8 rfl ?_
  refine V.iload_n (q := 12) rfl dX3_pairFor_11 rfl rfl ?_
  obtain ⟨v4, ev4, hf⟩ := bd_ex hf
  refine V.iald (q := 13) ev4 dX3_pairFor_12 rfl ?_
  obtain ⟨rfl, rfl⟩ := ret_inj hf
  exact V.ret (r := some (.int v4)) trivial dX3_pairFor_13
def fX11_keptBy (h : MH) (a0 : Nat) (x1 : Int32) : Option (Int32 × MH) := bd (gR h a0 11 2) fun b1 => bd (ck h b1 5) fun _ => bd2 (fX5_hasPaper h b1 x1) fun v3 h1 => if v3 = 0 then (bd (ck h1 a0 11) fun _ => bd2 (fX11_refuse h1 a0 1) fun v5 h2 => some (v5, h2)) else (bd (gR h1 a0 11 4) fun b4 => bd (ck h1 b4 3) fun _ => bd2 (fX3_pairFor h1 b4 x1) fun v6 h2 => bd (ck h2 a0 11) fun _ => bd2 (fX11_answer h2 a0 v6) fun v8 h3 => some (v8, h3))
set_option maxRecDepth 20000 in
theorem tX11_keptBy {r : Int32} {h' : MH} {h : MH} {a0 : Nat} {x1 : Int32} (hf : fX11_keptBy h a0 x1 = some (r, h')) : VM mX11_keptBy 17 (some (.int r)) h' h [.ref a0, .int x1] := by
  show V TT mX11_keptBy 17 _ h' h 0 [.ref a0, .int x1] []
  unfold fX11_keptBy at hf
  refine V.aload_n (q := 1) rfl dX11_keptBy_0 rfl rfl ?_
  obtain ⟨b1, eb1, hf⟩ := bd_ex hf
  refine V.getR (q := 4) flX11_28 rfl eb1 dX11_keptBy_1 rfl ?_
  refine V.iload_n (q := 5) rfl dX11_keptBy_4 rfl rfl ?_
  obtain ⟨_, e2, hf⟩ := bd_ex hf
  obtain ⟨v3, h1, eh1, hf⟩ := bd2_ex hf
  refine V.callV (q := 8) (ci := 5) (vs := [.int x1]) (st := []) (S2 := [.int v3]) okX5_hasPaper imX5_hasPaper seX5_hasPaper rfl lkX11_130 (tX5_hasPaper eh1) rfl (ck_is e2) (by decide) rfl (Nat.le_of_ble_eq_true rfl) (Nat.le_of_ble_eq_true rfl) rfl dX11_keptBy_5 rfl rfl ?_
  refine V.if_ne (q := 11) (tgt := 17) dX11_keptBy_8 rfl (by decide) (fun c => ?_) (fun c => ?_)
  · rw [if_neg c] at hf
    refine V.aload_n (q := 18) rfl dX11_keptBy_17 rfl rfl ?_
    refine V.aload_n (q := 19) rfl dX11_keptBy_18 rfl rfl ?_
    obtain ⟨b4, eb4, hf⟩ := bd_ex hf
    refine V.getR (q := 22) flX11_44 rfl eb4 dX11_keptBy_19 rfl ?_
    refine V.iload_n (q := 23) rfl dX11_keptBy_22 rfl rfl ?_
    obtain ⟨_, e5, hf⟩ := bd_ex hf
    obtain ⟨v6, h2, eh2, hf⟩ := bd2_ex hf
    refine V.callV (q := 26) (ci := 3) (vs := [.int x1]) (st := [.ref a0]) (S2 := [.int v6, .ref a0]) okX3_pairFor imX3_pairFor seX3_pairFor rfl lkX11_233 (tX3_pairFor eh2) rfl (ck_is e5) (by decide) rfl (Nat.le_of_ble_eq_true rfl) (Nat.le_of_ble_eq_true rfl) rfl dX11_keptBy_23 rfl rfl ?_
    obtain ⟨_, e7, hf⟩ := bd_ex hf
    obtain ⟨v8, h3, eh3, hf⟩ := bd2_ex hf
    refine V.callV (q := 29) (ci := 11) (vs := [.int v6]) (st := []) (S2 := [.int v8]) okX11_answer imX11_answer seX11_answer rfl lkX11_127 (tX11_answer eh3) rfl (ck_is e7) (by decide) rfl (Nat.le_of_ble_eq_true rfl) (Nat.le_of_ble_eq_true rfl) rfl dX11_keptBy_26 rfl rfl ?_
    obtain ⟨rfl, rfl⟩ := ret_inj hf
    exact V.ret (r := some (.int v8)) trivial dX11_keptBy_29
  · rw [if_pos c] at hf
    refine V.aload_n (q := 12) rfl dX11_keptBy_11 rfl rfl ?_
    refine V.iconst (q := 13) (v := 1) (by decide) dX11_keptBy_12 rfl ?_
    obtain ⟨_, e4, hf⟩ := bd_ex hf
    obtain ⟨v5, h2, eh2, hf⟩ := bd2_ex hf
    refine V.callV (q := 16) (ci := 11) (vs := [.int 1]) (st := []) (S2 := [.int v5]) okX11_refuse imX11_refuse seX11_refuse rfl lkX11_101 (tX11_refuse eh2) rfl (ck_is e4) (by decide) rfl (Nat.le_of_ble_eq_true rfl) (Nat.le_of_ble_eq_true rfl) rfl dX11_keptBy_13 rfl rfl ?_
    obtain ⟨rfl, rfl⟩ := ret_inj hf
    exact V.ret (r := some (.int v5)) trivial dX11_keptBy_16
def bX3_stampToFill_9 (k9 : MH → Nat → Int32 → Int32 → Option (Int32 × MH)) (h : MH) (a0 : Nat) (x1 : Int32) (x2 : Int32) : Option (Int32 × MH) := bd (gR h a0 3 0) fun b1 => bd (gR h b1 5 1) fun b2 => bd (gI h b2 7 15) fun v3 => if v3 ≤ x2 then (some ((-2), h)) else (bd (ck h a0 3) fun _ => bd2 (fX3_mostWants h a0 x2 x1) fun v5 h1 => if v5 ≤ x1 then (bd (some (x2 + 1)) fun v6 => k9 h1 a0 x1 v6) else (some (x2, h1)))
set_option maxRecDepth 20000 in
theorem tX3_stampToFill_9 {r : Int32} {h' : MH} (k9 : MH → Nat → Int32 → Int32 → Option (Int32 × MH)) (hk9 : ∀ (h : MH) (a0 : Nat) (x1 : Int32) (x2 : Int32), k9 h a0 x1 x2 = some (r, h') → V TT mX3_stampToFill 16 (some (.int r)) h' h 9 [.ref a0, .int x1, .int x2] [])  {h : MH} {a0 : Nat} {x1 : Int32} {x2 : Int32} (hf : bX3_stampToFill_9 k9 h a0 x1 x2 = some (r, h')) : V TT mX3_stampToFill 16 (some (.int r)) h' h 9 [.ref a0, .int x1, .int x2] [] := by
  unfold bX3_stampToFill_9 at hf
  refine V.iload_n (q := 10) rfl dX3_stampToFill_9 rfl rfl ?_
  refine V.aload_n (q := 11) rfl dX3_stampToFill_10 rfl rfl ?_
  obtain ⟨b1, eb1, hf⟩ := bd_ex hf
  refine V.getR (q := 14) flX3_30 rfl eb1 dX3_stampToFill_11 rfl ?_
  obtain ⟨b2, eb2, hf⟩ := bd_ex hf
  refine V.getR (q := 17) flX3_38 rfl eb2 dX3_stampToFill_14 rfl ?_
  obtain ⟨v3, ev3, hf⟩ := bd_ex hf
  refine V.getI (q := 20) flX3_44 rfl ev3 dX3_stampToFill_17 rfl ?_
  refine V.icmp_ge (q := 23) (tgt := 41) dX3_stampToFill_20 rfl (by decide) (fun c => ?_) (fun c => ?_)
  · rw [if_pos c] at hf
    refine V.bipush (q := 43) (v := (-2)) (by decide) dX3_stampToFill_41 rfl ?_
    obtain ⟨rfl, rfl⟩ := ret_inj hf
    exact V.ret (r := some (.int (-2))) trivial dX3_stampToFill_43
  · rw [if_neg c] at hf
    refine V.aload_n (q := 24) rfl dX3_stampToFill_23 rfl rfl ?_
    refine V.iload_n (q := 25) rfl dX3_stampToFill_24 rfl rfl ?_
    refine V.iload_n (q := 26) rfl dX3_stampToFill_25 rfl rfl ?_
    obtain ⟨_, e4, hf⟩ := bd_ex hf
    obtain ⟨v5, h1, eh1, hf⟩ := bd2_ex hf
    refine V.callV (q := 29) (ci := 3) (vs := [.int x2, .int x1]) (st := []) (S2 := [.int v5]) okX3_mostWants imX3_mostWants seX3_mostWants rfl lkX3_34 (tX3_mostWants eh1) rfl (ck_is e4) (by decide) rfl (Nat.le_of_ble_eq_true rfl) (Nat.le_of_ble_eq_true rfl) rfl dX3_stampToFill_26 rfl rfl ?_
    refine V.iload_n (q := 30) rfl dX3_stampToFill_29 rfl rfl ?_
    refine V.icmp_le (q := 33) (tgt := 35) dX3_stampToFill_30 rfl (by decide) (fun c => ?_) (fun c => ?_)
    · rw [if_pos c] at hf
      obtain ⟨v6, ev6, hf⟩ := bd_ex hf
      refine V.iinc (q := 38) (v := v6) (L' := [.ref a0, .int x1, .int v6]) dX3_stampToFill_35 rfl rfl (Option.some.inj ev6) (by decide) rfl rfl ?_
      refine V.goto (q := 9) dX3_stampToFill_38 (by decide) ?_
      exact hk9 _ _ _ _ hf
    · rw [if_neg c] at hf
      refine V.iload_n (q := 34) rfl dX3_stampToFill_33 rfl rfl ?_
      obtain ⟨rfl, rfl⟩ := ret_inj hf
      exact V.ret (r := some (.int x2)) trivial dX3_stampToFill_34
def fX3_stampToFill_9  : Nat → MH → Nat → Int32 → Int32 → Option (Int32 × MH)
  | 0 => fun _ _ _ _ => none
  | n + 1 => bX3_stampToFill_9  (fX3_stampToFill_9  n)
theorem tlX3_stampToFill_9 {r : Int32} {h' : MH}   : ∀ (n : Nat) (h : MH) (a0 : Nat) (x1 : Int32) (x2 : Int32), fX3_stampToFill_9  n h a0 x1 x2 = some (r, h') → V TT mX3_stampToFill 16 (some (.int r)) h' h 9 [.ref a0, .int x1, .int x2] [] := by
  intro n
  induction n with
  | zero => intro h a0 x1 x2 hf; exact nomatch (show (none : Option (Int32 × MH)) = some (r, h') from hf)
  | succ n ih => intro h a0 x1 x2 hf; exact tX3_stampToFill_9  (fX3_stampToFill_9  n) ih hf
def fX3_stampToFill (h : MH) (a0 : Nat) : Option (Int32 × MH) := bd (ck h a0 3) fun _ => bd2 (fX3_mostWants h a0 (-1) (-1)) fun v2 h1 => fX3_stampToFill_9 FU h1 a0 v2 0
set_option maxRecDepth 20000 in
theorem tX3_stampToFill {r : Int32} {h' : MH} {h : MH} {a0 : Nat} (hf : fX3_stampToFill h a0 = some (r, h')) : VM mX3_stampToFill 16 (some (.int r)) h' h [.ref a0] := by
  show V TT mX3_stampToFill 16 _ h' h 0 [.ref a0, Jk, Jk] []
  unfold fX3_stampToFill at hf
  refine V.aload_n (q := 1) rfl dX3_stampToFill_0 rfl rfl ?_
  refine V.iconst (q := 2) (v := (-1)) (by decide) dX3_stampToFill_1 rfl ?_
  refine V.iconst (q := 3) (v := (-1)) (by decide) dX3_stampToFill_2 rfl ?_
  obtain ⟨_, e1, hf⟩ := bd_ex hf
  obtain ⟨v2, h1, eh1, hf⟩ := bd2_ex hf
  refine V.callV (q := 6) (ci := 3) (vs := [.int (-1), .int (-1)]) (st := []) (S2 := [.int v2]) okX3_mostWants imX3_mostWants seX3_mostWants rfl lkX3_34 (tX3_mostWants eh1) rfl (ck_is e1) (by decide) rfl (Nat.le_of_ble_eq_true rfl) (Nat.le_of_ble_eq_true rfl) rfl dX3_stampToFill_3 rfl rfl ?_
  refine V.istore_n (q := 7) (L' := [.ref a0, .int v2, Jk]) rfl dX3_stampToFill_6 rfl (by decide) rfl rfl ?_
  refine V.iconst (q := 8) (v := 0) (by decide) dX3_stampToFill_7 rfl ?_
  refine V.istore_n (q := 9) (L' := [.ref a0, .int v2, .int 0]) rfl dX3_stampToFill_8 rfl (by decide) rfl rfl ?_
  exact tlX3_stampToFill_9  FU _ _ _ _ hf
def fX11_toFill (h : MH) (a0 : Nat) : Option (Int32 × MH) := bd (gI h a0 11 9) fun v1 => if v1 = 0 then (bd (ck h a0 11) fun _ => bd2 (fX11_refuse h a0 1) fun v3 h1 => some (v3, h1)) else (bd (gR h a0 11 4) fun b2 => bd (ck h b2 3) fun _ => bd2 (fX3_stampToFill h b2 ) fun v4 h1 => bd (ck h1 a0 11) fun _ => bd2 (fX11_answer h1 a0 v4) fun v6 h2 => some (v6, h2))
set_option maxRecDepth 20000 in
theorem tX11_toFill {r : Int32} {h' : MH} {h : MH} {a0 : Nat} (hf : fX11_toFill h a0 = some (r, h')) : VM mX11_toFill 17 (some (.int r)) h' h [.ref a0] := by
  show V TT mX11_toFill 17 _ h' h 0 [.ref a0] []
  unfold fX11_toFill at hf
  refine V.aload_n (q := 1) rfl dX11_toFill_0 rfl rfl ?_
  obtain ⟨v1, ev1, hf⟩ := bd_ex hf
  refine V.getI (q := 4) flX11_76 rfl ev1 dX11_toFill_1 rfl ?_
  refine V.if_ne (q := 7) (tgt := 13) dX11_toFill_4 rfl (by decide) (fun c => ?_) (fun c => ?_)
  · rw [if_neg c] at hf
    refine V.aload_n (q := 14) rfl dX11_toFill_13 rfl rfl ?_
    refine V.aload_n (q := 15) rfl dX11_toFill_14 rfl rfl ?_
    obtain ⟨b2, eb2, hf⟩ := bd_ex hf
    refine V.getR (q := 18) flX11_44 rfl eb2 dX11_toFill_15 rfl ?_
    obtain ⟨_, e3, hf⟩ := bd_ex hf
    obtain ⟨v4, h1, eh1, hf⟩ := bd2_ex hf
    refine V.callV (q := 21) (ci := 3) (vs := []) (st := [.ref a0]) (S2 := [.int v4, .ref a0]) okX3_stampToFill imX3_stampToFill seX3_stampToFill rfl lkX11_236 (tX3_stampToFill eh1) rfl (ck_is e3) (by decide) rfl (Nat.le_of_ble_eq_true rfl) (Nat.le_of_ble_eq_true rfl) rfl dX11_toFill_18 rfl rfl ?_
    obtain ⟨_, e5, hf⟩ := bd_ex hf
    obtain ⟨v6, h2, eh2, hf⟩ := bd2_ex hf
    refine V.callV (q := 24) (ci := 11) (vs := [.int v4]) (st := []) (S2 := [.int v6]) okX11_answer imX11_answer seX11_answer rfl lkX11_127 (tX11_answer eh2) rfl (ck_is e5) (by decide) rfl (Nat.le_of_ble_eq_true rfl) (Nat.le_of_ble_eq_true rfl) rfl dX11_toFill_21 rfl rfl ?_
    obtain ⟨rfl, rfl⟩ := ret_inj hf
    exact V.ret (r := some (.int v6)) trivial dX11_toFill_24
  · rw [if_pos c] at hf
    refine V.aload_n (q := 8) rfl dX11_toFill_7 rfl rfl ?_
    refine V.iconst (q := 9) (v := 1) (by decide) dX11_toFill_8 rfl ?_
    obtain ⟨_, e2, hf⟩ := bd_ex hf
    obtain ⟨v3, h1, eh1, hf⟩ := bd2_ex hf
    refine V.callV (q := 12) (ci := 11) (vs := [.int 1]) (st := []) (S2 := [.int v3]) okX11_refuse imX11_refuse seX11_refuse rfl lkX11_101 (tX11_refuse eh1) rfl (ck_is e2) (by decide) rfl (Nat.le_of_ble_eq_true rfl) (Nat.le_of_ble_eq_true rfl) rfl dX11_toFill_9 rfl rfl ?_
    obtain ⟨rfl, rfl⟩ := ret_inj hf
    exact V.ret (r := some (.int v3)) trivial dX11_toFill_12
