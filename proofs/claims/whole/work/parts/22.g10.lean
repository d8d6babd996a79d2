def fX13_press (h : MH) (a0 : Nat) (x1 : Int32) (x2 : Int32) (x3 : Int32) : Option (Int32 × MH) := bd (pI h a0 13 0 0) fun h1 => bd (ck h1 a0 13) fun _ => bd2 (fX13_isStamp h1 a0 x1) fun v2 h2 => if v2 = 0 then (bd (ck h2 a0 13) fun _ => bd2 (fX13_refused h2 a0 1) fun v4 h3 => some (v4, h3)) else (bd (ck h2 a0 13) fun _ => bd2 (fX13_isHand h2 a0 x2) fun v4 h3 => if v4 = 0 then (bd (ck h3 a0 13) fun _ => bd2 (fX13_refused h3 a0 1) fun v6 h4 => some (v6, h4)) else (bd (ck h3 a0 13) fun _ => bd2 (fX13_isPaper h3 a0 x3) fun v6 h4 => if v6 = 0 then (bd (ck h4 a0 13) fun _ => bd2 (fX13_refused h4 a0 1) fun v8 h5 => some (v8, h5)) else (bd (gR h4 a0 13 15) fun b7 => bd (lI h4 b7 (0 + x1)) fun v8 => if v8 = 0 then (bd (ck h4 a0 13) fun _ => bd2 (fX13_refused h4 a0 6) fun v10 h5 => some (v10, h5)) else (bd (ck h4 a0 13) fun _ => bd (fX13_remembers h4 a0 ) fun h5 => bd (gR h5 a0 13 15) fun b10 => bd (lI h5 b10 (0 + x1)) fun v11 => bd (tI h5 b10 (0 + x1) (v11 - 1)) fun h6 => bd (gR h6 a0 13 15) fun b12 => bd (lI h6 b12 (4 + x1)) fun v13 => bd (tI h6 b12 (4 + x1) (v13 + 1)) fun h7 => bd (gR h7 a0 13 15) fun b14 => bd (lI h7 b14 (8 + x2)) fun v15 => bd (tI h7 b14 (8 + x2) (v15 + 1)) fun h8 => bd (gR h8 a0 13 15) fun b16 => bd (ck h8 a0 13) fun _ => bd2 (fX13_saysNow h8 a0 x1 x3) fun v18 h9 => bd (ck h9 a0 13) fun _ => bd2 (fX13_printsBy h9 a0 x2 v18) fun v20 h10 => bd (tI h10 b16 (16 + x3) v20) fun h11 => bd (gR h11 a0 13 15) fun b21 => bd (lI h11 b21 (16 + x3)) fun v22 => bd (ck h11 a0 13) fun _ => bd2 (fX13_good1 h11 a0 v22) fun v24 h12 => some (v24, h12)))))
set_option maxRecDepth 20000 in
theorem tX13_press {r : Int32} {h' : MH} {h : MH} {a0 : Nat} {x1 : Int32} {x2 : Int32} {x3 : Int32} (hf : fX13_press h a0 x1 x2 x3 = some (r, h')) : VM mX13_press 4 (some (.int r)) h' h [.ref a0, .int x1, .int x2, .int x3] := by
  show V TT mX13_press 4 _ h' h 0 [.ref a0, .int x1, .int x2, .int x3] []
  unfold fX13_press at hf
  refine V.aload_n (q := 1) rfl dX13_press_0 rfl rfl ?_
  refine V.iconst (q := 2) (v := 0) (by decide) dX13_press_1 rfl ?_
  obtain ⟨h1, eh1, hf⟩ := bd_ex hf
  refine V.putI (q := 5) (fpX13_48 rfl) rfl eh1 dX13_press_2 rfl ?_
  refine V.aload_n (q := 6) rfl dX13_press_5 rfl rfl ?_
  refine V.iload_n (q := 7) rfl dX13_press_6 rfl rfl ?_
  obtain ⟨_, e1, hf⟩ := bd_ex hf
  obtain ⟨v2, h2, eh2, hf⟩ := bd2_ex hf
  refine V.callV (q := 10) (ci := 13) (vs := [.int x1]) (st := []) (S2 := [.int v2]) okX13_isStamp imX13_isStamp seX13_isStamp rfl lkX13_358 (tX13_isStamp eh2) rfl (ck_is e1) (by decide) rfl (Nat.le_of_ble_eq_true rfl) (Nat.le_of_ble_eq_true rfl) rfl dX13_press_7 rfl rfl ?_
  refine V.if_eq (q := 13) (tgt := 29) dX13_press_10 rfl (by decide) (fun c => ?_) (fun c => ?_)
  · rw [if_pos c] at hf
    refine V.aload_n (q := 30) rfl dX13_press_29 rfl rfl ?_
    refine V.iconst (q := 31) (v := 1) (by decide) dX13_press_30 rfl ?_
    obtain ⟨_, e3, hf⟩ := bd_ex hf
    obtain ⟨v4, h3, eh3, hf⟩ := bd2_ex hf
    refine V.callV (q := 34) (ci := 13) (vs := [.int 1]) (st := []) (S2 := [.int v4]) okX13_refused imX13_refused seX13_refused rfl lkX13_54 (tX13_refused eh3) rfl (ck_is e3) (by decide) rfl (Nat.le_of_ble_eq_true rfl) (Nat.le_of_ble_eq_true rfl) rfl dX13_press_31 rfl rfl ?_
    obtain ⟨rfl, rfl⟩ := ret_inj hf
    exact V.ret (r := some (.int v4)) trivial dX13_press_34
  · rw [if_neg c] at hf
    refine V.aload_n (q := 14) rfl dX13_press_13 rfl rfl ?_
    refine V.iload_n (q := 15) rfl dX13_press_14 rfl rfl ?_
    obtain ⟨_, e3, hf⟩ := bd_ex hf
    obtain ⟨v4, h3, eh3, hf⟩ := bd2_ex hf
    refine V.callV (q := 18) (ci := 13) (vs := [.int x2]) (st := []) (S2 := [.int v4]) okX13_isHand imX13_isHand seX13_isHand rfl lkX13_361 (tX13_isHand eh3) rfl (ck_is e3) (by decide) rfl (Nat.le_of_ble_eq_true rfl) (Nat.le_of_ble_eq_true rfl) rfl dX13_press_15 rfl rfl ?_
    refine V.if_eq (q := 21) (tgt := 29) dX13_press_18 rfl (by decide) (fun c => ?_) (fun c => ?_)
    · rw [if_pos c] at hf
      refine V.aload_n (q := 30) rfl dX13_press_29 rfl rfl ?_
      refine V.iconst (q := 31) (v := 1) (by decide) dX13_press_30 rfl ?_
      obtain ⟨_, e5, hf⟩ := bd_ex hf
      obtain ⟨v6, h4, eh4, hf⟩ := bd2_ex hf
      refine V.callV (q := 34) (ci := 13) (vs := [.int 1]) (st := []) (S2 := [.int v6]) okX13_refused imX13_refused seX13_refused rfl lkX13_54 (tX13_refused eh4) rfl (ck_is e5) (by decide) rfl (Nat.le_of_ble_eq_true rfl) (Nat.le_of_ble_eq_true rfl) rfl dX13_press_31 rfl rfl ?_
      obtain ⟨rfl, rfl⟩ := ret_inj hf
      exact V.ret (r := some (.int v6)) trivial dX13_press_34
    · rw [if_neg c] at hf
      refine V.aload_n (q := 22) rfl dX13_press_21 rfl rfl ?_
      refine V.iload_n (q := 23) rfl dX13_press_22 rfl rfl ?_
      obtain ⟨_, e5, hf⟩ := bd_ex hf
      obtain ⟨v6, h4, eh4, hf⟩ := bd2_ex hf
      refine V.callV (q := 26) (ci := 13) (vs := [.int x3]) (st := []) (S2 := [.int v6]) okX13_isPaper imX13_isPaper seX13_isPaper rfl lkX13_355 (tX13_isPaper eh4) rfl (ck_is e5) (by decide) rfl (Nat.le_of_ble_eq_true rfl) (Nat.le_of_ble_eq_true rfl) rfl dX13_press_23 rfl rfl ?_
      refine V.if_ne (q := 29) (tgt := 35) dX13_press_26 rfl (by decide) (fun c => ?_) (fun c => ?_)
      · rw [if_neg c] at hf
        refine V.aload_n (q := 36) rfl dX13_press_35 rfl rfl ?_
        obtain ⟨b7, eb7, hf⟩ := bd_ex hf
        refine V.getR (q := 39) flX13_17 rfl eb7 dX13_press_36 rfl ?_
        refine V.iconst (q := 40) (v := 0) (by decide) dX13_press_39 rfl ?_
        refine V.iload_n (q := 41) rfl dX13_press_40 rfl rfl ?_
        refine V.iadd (q := 42) dX13_press_41 rfl ?_
        obtain ⟨v8, ev8, hf⟩ := bd_ex hf
        refine V.iald (q := 43) ev8 dX13_press_42 rfl ?_
        refine V.if_ne (q := 46) (tgt := 53) dX13_press_43 rfl (by decide) (fun c => ?_) (fun c => ?_)
        · rw [if_neg c] at hf
          refine V.aload_n (q := 54) rfl dX13_press_53 rfl rfl ?_
          obtain ⟨_, e9, hf⟩ := bd_ex hf
          obtain ⟨h5, eh5, hf⟩ := bd_ex hf
          refine V.callV (q := 57) (ci := 13) (vs := []) (st := []) (S2 := []) okX13_remembers imX13_remembers seX13_remembers rfl lkX13_484 (tX13_remembers eh5) rfl (ck_is e9) (by decide) rfl (Nat.le_of_ble_eq_true rfl) (Nat.le_of_ble_eq_true rfl) rfl dX13_press_54 rfl rfl ?_
          refine V.aload_n (q := 58) rfl dX13_press_57 rfl rfl ?_
          obtain ⟨b10, eb10, hf⟩ := bd_ex hf
          refine V.getR (q := 61) flX13_17 rfl eb10 dX13_press_58 rfl ?_
          refine V.iconst (q := 62) (v := 0) (by decide) dX13_press_61 rfl ?_
          refine V.iload_n (q := 63) rfl dX13_press_62 rfl rfl ?_
          refine V.iadd (q := 64) dX13_press_63 rfl ?_
          refine V.dup2 (q := 65) dX13_press_64 rfl ?_
          obtain ⟨v11, ev11, hf⟩ := bd_ex hf
          refine V.iald (q := 66) ev11 dX13_press_65 rfl ?_
          refine V.iconst (q := 67) (v := 1) (by decide) dX13_press_66 rfl ?_
          refine V.isub (q := 68) dX13_press_67 rfl ?_
          obtain ⟨h6, eh6, hf⟩ := bd_ex hf
          refine V.iast (q := 69) eh6 dX13_press_68 rfl ?_
          refine V.aload_n (q := 70) rfl dX13_press_69 rfl rfl ?_
          obtain ⟨b12, eb12, hf⟩ := bd_ex hf
          refine V.getR (q := 73) flX13_17 rfl eb12 dX13_press_70 rfl ?_
          refine V.iconst (q := 74) (v := 4) (by decide) dX13_press_73 rfl ?_
          refine V.iload_n (q := 75) rfl dX13_press_74 rfl rfl ?_
          refine V.iadd (q := 76) dX13_press_75 rfl ?_
          refine V.dup2 (q := 77) dX13_press_76 rfl ?_
          obtain ⟨v13, ev13, hf⟩ := bd_ex hf
          refine V.iald (q := 78) ev13 dX13_press_77 rfl ?_
          refine V.iconst (q := 79) (v := 1) (by decide) dX13_press_78 rfl ?_
          refine V.iadd (q := 80) dX13_press_79 rfl ?_
          obtain ⟨h7, eh7, hf⟩ := bd_ex hf
          refine V.iast (q := 81) eh7 dX13_press_80 rfl ?_
          refine V.aload_n (q := 82) rfl dX13_press_81 rfl rfl ?_
          obtain ⟨b14, eb14, hf⟩ := bd_ex hf
          refine V.getR (q := 85) flX13_17 rfl eb14 dX13_press_82 rfl ?_
          refine V.bipush (q := 87) (v := 8) (by decide) dX13_press_85 rfl ?_
          refine V.iload_n (q := 88) rfl dX13_press_87 rfl rfl ?_
          refine V.iadd (q := 89) dX13_press_88 rfl ?_
          refine V.dup2 (q := 90) dX13_press_89 rfl ?_
          obtain ⟨v15, ev15, hf⟩ := bd_ex hf
          refine V.iald (q := 91) ev15 dX13_press_90 rfl ?_
          refine V.iconst (q := 92) (v := 1) (by decide) dX13_press_91 rfl ?_
          refine V.iadd (q := 93) dX13_press_92 rfl ?_
          obtain ⟨h8, eh8, hf⟩ := bd_ex hf
          refine V.iast (q := 94) eh8 dX13_press_93 rfl ?_
          refine V.aload_n (q := 95) rfl dX13_press_94 rfl rfl ?_
          obtain ⟨b16, eb16, hf⟩ := bd_ex hf
          refine V.getR (q := 98) flX13_17 rfl eb16 dX13_press_95 rfl ?_
          refine V.bipush (q := 100) (v := 16) (by decide) dX13_press_98 rfl ?_
          refine V.iload_n (q := 101) rfl dX13_press_100 rfl rfl ?_
          refine V.iadd (q := 102) dX13_press_101 rfl ?_
          refine V.aload_n (q := 103) rfl dX13_press_102 rfl rfl ?_
          refine V.iload_n (q := 104) rfl dX13_press_103 rfl rfl ?_
          refine V.aload_n (q := 105) rfl dX13_press_104 rfl rfl ?_
          refine V.iload_n (q := 106) rfl dX13_press_105 rfl rfl ?_
          refine V.iload_n (q := 107) rfl dX13_press_106 rfl rfl ?_
          obtain ⟨_, e17, hf⟩ := bd_ex hf
          obtain ⟨v18, h9, eh9, hf⟩ := bd2_ex hf
          refine V.callV (q := 110) (ci := 13) (vs := [.int x1, .int x3]) (st := [.int x2, .ref a0, .int (16 + x3), .ref b16]) (S2 := [.int v18, .int x2, .ref a0, .int (16 + x3), .ref b16]) okX13_saysNow imX13_saysNow seX13_saysNow rfl lkX13_367 (tX13_saysNow eh9) rfl (ck_is e17) (by decide) rfl (Nat.le_of_ble_eq_true rfl) (Nat.le_of_ble_eq_true rfl) rfl dX13_press_107 rfl rfl ?_
          obtain ⟨_, e19, hf⟩ := bd_ex hf
          obtain ⟨v20, h10, eh10, hf⟩ := bd2_ex hf
          refine V.callV (q := 113) (ci := 13) (vs := [.int x2, .int v18]) (st := [.int (16 + x3), .ref b16]) (S2 := [.int v20, .int (16 + x3), .ref b16]) okX13_printsBy imX13_printsBy seX13_printsBy rfl lkX13_352 (tX13_printsBy eh10) rfl (ck_is e19) (by decide) rfl (Nat.le_of_ble_eq_true rfl) (Nat.le_of_ble_eq_true rfl) rfl dX13_press_110 rfl rfl ?_
          obtain ⟨h11, eh11, hf⟩ := bd_ex hf
          refine V.iast (q := 114) eh11 dX13_press_113 rfl ?_
          refine V.aload_n (q := 115) rfl dX13_press_114 rfl rfl ?_
          refine V.aload_n (q := 116) rfl dX13_press_115 rfl rfl ?_
          obtain ⟨b21, eb21, hf⟩ := bd_ex hf
          refine V.getR (q := 119) flX13_17 rfl eb21 dX13_press_116 rfl ?_
          refine V.bipush (q := 121) (v := 16) (by decide) dX13_press_119 rfl ?_
          refine V.iload_n (q := 122) rfl dX13_press_121 rfl rfl ?_
          refine V.iadd (q := 123) dX13_press_122 rfl ?_
          obtain ⟨v22, ev22, hf⟩ := bd_ex hf
          refine V.iald (q := 124) ev22 dX13_press_123 rfl ?_
          obtain ⟨_, e23, hf⟩ := bd_ex hf
          obtain ⟨v24, h12, eh12, hf⟩ := bd2_ex hf
          refine V.callV (q := 127) (ci := 13) (vs := [.int v22]) (st := []) (S2 := [.int v24]) okX13_good1 imX13_good1 seX13_good1 rfl lkX13_58 (tX13_good1 eh12) rfl (ck_is e23) (by decide) rfl (Nat.le_of_ble_eq_true rfl) (Nat.le_of_ble_eq_true rfl) rfl dX13_press_124 rfl rfl ?_
          obtain ⟨rfl, rfl⟩ := ret_inj hf
          exact V.ret (r := some (.int v24)) trivial dX13_press_127
        · rw [if_pos c] at hf
          refine V.aload_n (q := 47) rfl dX13_press_46 rfl rfl ?_
          refine V.bipush (q := 49) (v := 6) (by decide) dX13_press_47 rfl ?_
          obtain ⟨_, e9, hf⟩ := bd_ex hf
          obtain ⟨v10, h5, eh5, hf⟩ := bd2_ex hf
          refine V.callV (q := 52) (ci := 13) (vs := [.int 6]) (st := []) (S2 := [.int v10]) okX13_refused imX13_refused seX13_refused rfl lkX13_54 (tX13_refused eh5) rfl (ck_is e9) (by decide) rfl (Nat.le_of_ble_eq_true rfl) (Nat.le_of_ble_eq_true rfl) rfl dX13_press_49 rfl rfl ?_
          obtain ⟨rfl, rfl⟩ := ret_inj hf
          exact V.ret (r := some (.int v10)) trivial dX13_press_52
      · rw [if_pos c] at hf
        refine V.aload_n (q := 30) rfl dX13_press_29 rfl rfl ?_
        refine V.iconst (q := 31) (v := 1) (by decide) dX13_press_30 rfl ?_
        obtain ⟨_, e7, hf⟩ := bd_ex hf
        obtain ⟨v8, h5, eh5, hf⟩ := bd2_ex hf
        refine V.callV (q := 34) (ci := 13) (vs := [.int 1]) (st := []) (S2 := [.int v8]) okX13_refused imX13_refused seX13_refused rfl lkX13_54 (tX13_refused eh5) rfl (ck_is e7) (by decide) rfl (Nat.le_of_ble_eq_true rfl) (Nat.le_of_ble_eq_true rfl) rfl dX13_press_31 rfl rfl ?_
        obtain ⟨rfl, rfl⟩ := ret_inj hf
        exact V.ret (r := some (.int v8)) trivial dX13_press_34
def bX13_pressedAll_4 (k4 : MH → Nat → Int32 → Int32 → Option (Int32 × MH)) (h : MH) (a0 : Nat) (x1 : Int32) (x2 : Int32) : Option (Int32 × MH) := if 4 ≤ x2 then (some (x1, h)) else (bd (gR h a0 13 15) fun b1 => bd (lI h b1 (4 + x2)) fun v2 => bd (some (x1 + v2)) fun v3 => bd (some (x2 + 1)) fun v4 => k4 h a0 v3 v4)
set_option maxRecDepth 20000 in
theorem tX13_pressedAll_4 {r : Int32} {h' : MH} (k4 : MH → Nat → Int32 → Int32 → Option (Int32 × MH)) (hk4 : ∀ (h : MH) (a0 : Nat) (x1 : Int32) (x2 : Int32), k4 h a0 x1 x2 = some (r, h') → V TT mX13_pressedAll 0 (some (.int r)) h' h 4 [.ref a0, .int x1, .int x2] [])  {h : MH} {a0 : Nat} {x1 : Int32} {x2 : Int32} (hf : bX13_pressedAll_4 k4 h a0 x1 x2 = some (r, h')) : V TT mX13_pressedAll 0 (some (.int r)) h' h 4 [.ref a0, .int x1, .int x2] [] := by
  unfold bX13_pressedAll_4 at hf
  refine V.iload_n (q := 5) rfl dX13_pressedAll_4 rfl rfl ?_
  refine V.iconst (q := 6) (v := 4) (by decide) dX13_pressedAll_5 rfl ?_
  refine V.icmp_ge (q := 9) (tgt := 26) dX13_pressedAll_6 rfl (by decide) (fun c => ?_) (fun c => ?_)
  · rw [if_pos c] at hf
    refine V.iload_n (q := 27) rfl dX13_pressedAll_26 rfl rfl ?_
    obtain ⟨rfl, rfl⟩ := ret_inj hf
    exact V.ret (r := some (.int x1)) trivial dX13_pressedAll_27
  · rw [if_neg c] at hf
    refine V.iload_n (q := 10) rfl dX13_pressedAll_9 rfl rfl ?_
    refine V.aload_n (q := 11) rfl dX13_pressedAll_10 rfl rfl ?_
    obtain ⟨b1, eb1, hf⟩ := bd_ex hf
    refine V.getR (q := 14) flX13_17 rfl eb1 dX13_pressedAll_11 rfl ?_
    refine V.iconst (q := 15) (v := 4) (by decide) dX13_pressedAll_14 rfl ?_
    refine V.iload_n (q := 16) rfl dX13_pressedAll_15 rfl rfl ?_
    refine V.iadd (q := 17) dX13_pressedAll_16 rfl ?_
    obtain ⟨v2, ev2, hf⟩ := bd_ex hf
    refine V.iald (q := 18) ev2 dX13_pressedAll_17 rfl ?_
    refine V.iadd (q := 19) dX13_pressedAll_18 rfl ?_
    obtain ⟨v3, ev3, hf⟩ := bd_ex hf
    refine V.topI (Option.some.inj ev3) ?_
    refine V.istore_n (q := 20) (L' := [.ref a0, .int v3, .int x2]) rfl dX13_pressedAll_19 rfl (by decide) rfl rfl ?_
    obtain ⟨v4, ev4, hf⟩ := bd_ex hf
    refine V.iinc (q := 23) (v := v4) (L' := [.ref a0, .int v3, .int v4]) dX13_pressedAll_20 rfl rfl (Option.some.inj ev4) (by decide) rfl rfl ?_
    refine V.goto (q := 4) dX13_pressedAll_23 (by decide) ?_
    exact hk4 _ _ _ _ hf
def fX13_pressedAll_4  : Nat → MH → Nat → Int32 → Int32 → Option (Int32 × MH)
  | 0 => fun _ _ _ _ => none
  | n + 1 => bX13_pressedAll_4  (fX13_pressedAll_4  n)
theorem tlX13_pressedAll_4 {r : Int32} {h' : MH}   : ∀ (n : Nat) (h : MH) (a0 : Nat) (x1 : Int32) (x2 : Int32), fX13_pressedAll_4  n h a0 x1 x2 = some (r, h') → V TT mX13_pressedAll 0 (some (.int r)) h' h 4 [.ref a0, .int x1, .int x2] [] := by
  intro n
  induction n with
  | zero => intro h a0 x1 x2 hf; exact nomatch (show (none : Option (Int32 × MH)) = some (r, h') from hf)
  | succ n ih => intro h a0 x1 x2 hf; exact tX13_pressedAll_4  (fX13_pressedAll_4  n) ih hf
def fX13_pressedAll (h : MH) (a0 : Nat) : Option (Int32 × MH) := fX13_pressedAll_4 FU h a0 0 0
set_option maxRecDepth 20000 in
theorem tX13_pressedAll {r : Int32} {h' : MH} {h : MH} {a0 : Nat} (hf : fX13_pressedAll h a0 = some (r, h')) : VM mX13_pressedAll 0 (some (.int r)) h' h [.ref a0] := by
  show V TT mX13_pressedAll 0 _ h' h 0 [.ref a0, Jk, Jk] []
  unfold fX13_pressedAll at hf
  refine V.iconst (q := 1) (v := 0) (by decide) dX13_pressedAll_0 rfl ?_
  refine V.istore_n (q := 2) (L' := [.ref a0, .int 0, Jk]) rfl dX13_pressedAll_1 rfl (by decide) rfl rfl ?_
  refine V.iconst (q := 3) (v := 0) (by decide) dX13_pressedAll_2 rfl ?_
  refine V.istore_n (q := 4) (L' := [.ref a0, .int 0, .int 0]) rfl dX13_pressedAll_3 rfl (by decide) rfl rfl ?_
  exact tlX13_pressedAll_4  FU _ _ _ _ hf
def bX13_presses_25  (h : MH) (a0 : Nat) (x1 : Int32) (x2 : Int32) (x3 : Int32) : Option (Int32 × MH) := bd (ck h a0 13) fun _ => bd2 (fX13_refusesPresses h a0 x2 x3) fun v2 h1 => if v2 ≤ 0 then (bd (ck h1 a0 13) fun _ => bd (fX13_pressesAll h1 a0 x2 x3) fun h2 => bd (gR h2 a0 13 28) fun b4 => bd (lI h2 b4 x1) fun v5 => bd (ck h2 a0 13) fun _ => bd2 (fX13_good1 h2 a0 v5) fun v7 h3 => some (v7, h3)) else (bd (ck h1 a0 13) fun _ => bd2 (fX13_refused h1 a0 v2) fun v4 h2 => some (v4, h2))
set_option maxRecDepth 20000 in
theorem tX13_presses_25 {r : Int32} {h' : MH}   {h : MH} {a0 : Nat} {x1 : Int32} {x2 : Int32} {x3 : Int32} (hf : bX13_presses_25  h a0 x1 x2 x3 = some (r, h')) : V TT mX13_presses 5 (some (.int r)) h' h 25 [.ref a0, .int x1, .int x2, .int x3, Jk] [] := by
  unfold bX13_presses_25 at hf
  refine V.aload_n (q := 26) rfl dX13_presses_25 rfl rfl ?_
  refine V.iload_n (q := 27) rfl dX13_presses_26 rfl rfl ?_
  refine V.iload_n (q := 28) rfl dX13_presses_27 rfl rfl ?_
  obtain ⟨_, e1, hf⟩ := bd_ex hf
  obtain ⟨v2, h1, eh1, hf⟩ := bd2_ex hf
  refine V.callV (q := 31) (ci := 13) (vs := [.int x2, .int x3]) (st := []) (S2 := [.int v2]) okX13_refusesPresses imX13_refusesPresses seX13_refusesPresses rfl lkX13_478 (tX13_refusesPresses eh1) rfl (ck_is e1) (by decide) rfl (Nat.le_of_ble_eq_true rfl) (Nat.le_of_ble_eq_true rfl) rfl dX13_presses_28 rfl rfl ?_
  refine V.istore (q := 33) (L' := [.ref a0, .int x1, .int x2, .int x3, .int v2]) dX13_presses_31 rfl (by decide) rfl rfl ?_
  refine V.iload (q := 35) dX13_presses_33 rfl rfl ?_
  refine V.if_le (q := 38) (tgt := 45) dX13_presses_35 rfl (by decide) (fun c => ?_) (fun c => ?_)
  · rw [if_pos c] at hf
    refine V.aload_n (q := 46) rfl dX13_presses_45 rfl rfl ?_
    refine V.iload_n (q := 47) rfl dX13_presses_46 rfl rfl ?_
    refine V.iload_n (q := 48) rfl dX13_presses_47 rfl rfl ?_
    obtain ⟨_, e3, hf⟩ := bd_ex hf
    obtain ⟨h2, eh2, hf⟩ := bd_ex hf
    refine V.callV (q := 51) (ci := 13) (vs := [.int x2, .int x3]) (st := []) (S2 := []) okX13_pressesAll imX13_pressesAll seX13_pressesAll rfl lkX13_481 (tX13_pressesAll eh2) rfl (ck_is e3) (by decide) rfl (Nat.le_of_ble_eq_true rfl) (Nat.le_of_ble_eq_true rfl) rfl dX13_presses_48 rfl rfl ?_
    refine V.aload_n (q := 52) rfl dX13_presses_51 rfl rfl ?_
    refine V.aload_n (q := 53) rfl dX13_presses_52 rfl rfl ?_
    obtain ⟨b4, eb4, hf⟩ := bd_ex hf
    refine V.getR (q := 56) flX13_42 rfl eb4 dX13_presses_53 rfl ?_
    refine V.iload_n (q := 57) rfl dX13_presses_56 rfl rfl ?_
    obtain ⟨v5, ev5, hf⟩ := bd_ex hf
    refine V.iald (q := 58) ev5 dX13_presses_57 rfl ?_
    obtain ⟨_, e6, hf⟩ := bd_ex hf
    obtain ⟨v7, h3, eh3, hf⟩ := bd2_ex hf
    refine V.callV (q := 61) (ci := 13) (vs := [.int v5]) (st := []) (S2 := [.int v7]) okX13_good1 imX13_good1 seX13_good1 rfl lkX13_58 (tX13_good1 eh3) rfl (ck_is e6) (by decide) rfl (Nat.le_of_ble_eq_true rfl) (Nat.le_of_ble_eq_true rfl) rfl dX13_presses_58 rfl rfl ?_
    obtain ⟨rfl, rfl⟩ := ret_inj hf
    exact V.ret (r := some (.int v7)) trivial dX13_presses_61
  · rw [if_neg c] at hf
    refine V.aload_n (q := 39) rfl dX13_presses_38 rfl rfl ?_
    refine V.iload (q := 41) dX13_presses_39 rfl rfl ?_
    obtain ⟨_, e3, hf⟩ := bd_ex hf
    obtain ⟨v4, h2, eh2, hf⟩ := bd2_ex hf
    refine V.callV (q := 44) (ci := 13) (vs := [.int v2]) (st := []) (S2 := [.int v4]) okX13_refused imX13_refused seX13_refused rfl lkX13_54 (tX13_refused eh2) rfl (ck_is e3) (by decide) rfl (Nat.le_of_ble_eq_true rfl) (Nat.le_of_ble_eq_true rfl) rfl dX13_presses_41 rfl rfl ?_
    obtain ⟨rfl, rfl⟩ := ret_inj hf
    exact V.ret (r := some (.int v4)) trivial dX13_presses_44
def fX13_presses (h : MH) (a0 : Nat) (x1 : Int32) (x2 : Int32) (x3 : Int32) : Option (Int32 × MH) := bd (pI h a0 13 0 0) fun h1 => bd (gZ h1 a0 13 3) fun z1 => if z1 = true then (bX13_presses_25 h1 a0 x1 x2 x3) else (bd2 (fX13_isVerdict h1 x1) fun v2 h2 => if v2 = 0 then (bd (ck h2 a0 13) fun _ => bd2 (fX13_refused h2 a0 2) fun v4 h3 => some (v4, h3)) else (bX13_presses_25 h2 a0 x1 x2 x3))
set_option maxRecDepth 20000 in
theorem tX13_presses {r : Int32} {h' : MH} {h : MH} {a0 : Nat} {x1 : Int32} {x2 : Int32} {x3 : Int32} (hf : fX13_presses h a0 x1 x2 x3 = some (r, h')) : VM mX13_presses 5 (some (.int r)) h' h [.ref a0, .int x1, .int x2, .int x3] := by
  show V TT mX13_presses 5 _ h' h 0 [.ref a0, .int x1, .int x2, .int x3, Jk] []
  unfold fX13_presses at hf
  refine V.aload_n (q := 1) rfl dX13_presses_0 rfl rfl ?_
  refine V.iconst (q := 2) (v := 0) (by decide) dX13_presses_1 rfl ?_
  obtain ⟨h1, eh1, hf⟩ := bd_ex hf
  refine V.putI (q := 5) (fpX13_48 rfl) rfl eh1 dX13_presses_2 rfl ?_
  refine V.aload_n (q := 6) rfl dX13_presses_5 rfl rfl ?_
  obtain ⟨z1, ez1, hf⟩ := bd_ex hf
  refine V.getZ (q := 9) (q2 := 12) (tgt := 25) flX13_338 rfl ez1 dX13_presses_6 rfl dX13_presses_9 rfl (by decide) (fun c => ?_) (fun c => ?_)
  · rw [if_pos c] at hf
    exact tX13_presses_25  hf
  · rw [if_neg c] at hf
    refine V.iload_n (q := 13) rfl dX13_presses_12 rfl rfl ?_
    obtain ⟨v2, h2, eh2, hf⟩ := bd2_ex hf
    refine V.callS (q := 16) (vs := [.int x1]) (st := []) (S2 := [.int v2]) okX13_isVerdict stX13_isVerdict lkX13_373 (tX13_isVerdict eh2) rfl (by decide) rfl (Nat.le_of_ble_eq_true rfl) (Nat.le_of_ble_eq_true rfl) rfl dX13_presses_13 rfl rfl ?_
    refine V.if_ne (q := 19) (tgt := 25) dX13_presses_16 rfl (by decide) (fun c => ?_) (fun c => ?_)
    · rw [if_neg c] at hf
      exact tX13_presses_25  hf
    · rw [if_pos c] at hf
      refine V.aload_n (q := 20) rfl dX13_presses_19 rfl rfl ?_
      refine V.iconst (q := 21) (v := 2) (by decide) dX13_presses_20 rfl ?_
      obtain ⟨_, e3, hf⟩ := bd_ex hf
      obtain ⟨v4, h3, eh3, hf⟩ := bd2_ex hf
      refine V.callV (q := 24) (ci := 13) (vs := [.int 2]) (st := []) (S2 := [.int v4]) okX13_refused imX13_refused seX13_refused rfl lkX13_54 (tX13_refused eh3) rfl (ck_is e3) (by decide) rfl (Nat.le_of_ble_eq_true rfl) (Nat.le_of_ble_eq_true rfl) rfl dX13_presses_21 rfl rfl ?_
      obtain ⟨rfl, rfl⟩ := ret_inj hf
      exact V.ret (r := some (.int v4)) trivial dX13_presses_24
def fX13_printed (h : MH) (a0 : Nat) (x1 : Int32) (x2 : Int32) (x3 : Int32) : Option (Int32 × MH) := bd (pI h a0 13 0 0) fun h1 => bd (ck h1 a0 13) fun _ => bd2 (fX13_isPaper h1 a0 x1) fun v2 h2 => if v2 = 0 then (bd (ck h2 a0 13) fun _ => bd2 (fX13_refused h2 a0 1) fun v4 h3 => some (v4, h3)) else (bd (ck h2 a0 13) fun _ => bd2 (fX13_refusesPresses h2 a0 x2 x3) fun v4 h3 => if v4 ≤ 0 then (bd (ck h3 a0 13) fun _ => bd (fX13_pressesAll h3 a0 x2 x3) fun h4 => bd (gR h4 a0 13 29) fun b6 => bd (lI h4 b6 x1) fun v7 => bd (ck h4 a0 13) fun _ => bd2 (fX13_good1 h4 a0 v7) fun v9 h5 => some (v9, h5)) else (bd (ck h3 a0 13) fun _ => bd2 (fX13_refused h3 a0 v4) fun v6 h4 => some (v6, h4)))
set_option maxRecDepth 20000 in
theorem tX13_printed {r : Int32} {h' : MH} {h : MH} {a0 : Nat} {x1 : Int32} {x2 : Int32} {x3 : Int32} (hf : fX13_printed h a0 x1 x2 x3 = some (r, h')) : VM mX13_printed 5 (some (.int r)) h' h [.ref a0, .int x1, .int x2, .int x3] := by
  show V TT mX13_printed 5 _ h' h 0 [.ref a0, .int x1, .int x2, .int x3, Jk] []
  unfold fX13_printed at hf
  refine V.aload_n (q := 1) rfl dX13_printed_0 rfl rfl ?_
  refine V.iconst (q := 2) (v := 0) (by decide) dX13_printed_1 rfl ?_
  obtain ⟨h1, eh1, hf⟩ := bd_ex hf
  refine V.putI (q := 5) (fpX13_48 rfl) rfl eh1 dX13_printed_2 rfl ?_
  refine V.aload_n (q := 6) rfl dX13_printed_5 rfl rfl ?_
  refine V.iload_n (q := 7) rfl dX13_printed_6 rfl rfl ?_
  obtain ⟨_, e1, hf⟩ := bd_ex hf
  obtain ⟨v2, h2, eh2, hf⟩ := bd2_ex hf
  refine V.callV (q := 10) (ci := 13) (vs := [.int x1]) (st := []) (S2 := [.int v2]) okX13_isPaper imX13_isPaper seX13_isPaper rfl lkX13_355 (tX13_isPaper eh2) rfl (ck_is e1) (by decide) rfl (Nat.le_of_ble_eq_true rfl) (Nat.le_of_ble_eq_true rfl) rfl dX13_printed_7 rfl rfl ?_
  refine V.if_ne (q := 13) (tgt := 19) dX13_printed_10 rfl (by decide) (fun c => ?_) (fun c => ?_)
  · rw [if_neg c] at hf
    refine V.aload_n (q := 20) rfl dX13_printed_19 rfl rfl ?_
    refine V.iload_n (q := 21) rfl dX13_printed_20 rfl rfl ?_
    refine V.iload_n (q := 22) rfl dX13_printed_21 rfl rfl ?_
    obtain ⟨_, e3, hf⟩ := bd_ex hf
    obtain ⟨v4, h3, eh3, hf⟩ := bd2_ex hf
    refine V.callV (q := 25) (ci := 13) (vs := [.int x2, .int x3]) (st := []) (S2 := [.int v4]) okX13_refusesPresses imX13_refusesPresses seX13_refusesPresses rfl lkX13_478 (tX13_refusesPresses eh3) rfl (ck_is e3) (by decide) rfl (Nat.le_of_ble_eq_true rfl) (Nat.le_of_ble_eq_true rfl) rfl dX13_printed_22 rfl rfl ?_
    refine V.istore (q := 27) (L' := [.ref a0, .int x1, .int x2, .int x3, .int v4]) dX13_printed_25 rfl (by decide) rfl rfl ?_
    refine V.iload (q := 29) dX13_printed_27 rfl rfl ?_
    refine V.if_le (q := 32) (tgt := 39) dX13_printed_29 rfl (by decide) (fun c => ?_) (fun c => ?_)
    · rw [if_pos c] at hf
      refine V.aload_n (q := 40) rfl dX13_printed_39 rfl rfl ?_
      refine V.iload_n (q := 41) rfl dX13_printed_40 rfl rfl ?_
      refine V.iload_n (q := 42) rfl dX13_printed_41 rfl rfl ?_
      obtain ⟨_, e5, hf⟩ := bd_ex hf
      obtain ⟨h4, eh4, hf⟩ := bd_ex hf
      refine V.callV (q := 45) (ci := 13) (vs := [.int x2, .int x3]) (st := []) (S2 := []) okX13_pressesAll imX13_pressesAll seX13_pressesAll rfl lkX13_481 (tX13_pressesAll eh4) rfl (ck_is e5) (by decide) rfl (Nat.le_of_ble_eq_true rfl) (Nat.le_of_ble_eq_true rfl) rfl dX13_printed_42 rfl rfl ?_
      refine V.aload_n (q := 46) rfl dX13_printed_45 rfl rfl ?_
      refine V.aload_n (q := 47) rfl dX13_printed_46 rfl rfl ?_
      obtain ⟨b6, eb6, hf⟩ := bd_ex hf
      refine V.getR (q := 50) flX13_45 rfl eb6 dX13_printed_47 rfl ?_
      refine V.iload_n (q := 51) rfl dX13_printed_50 rfl rfl ?_
      obtain ⟨v7, ev7, hf⟩ := bd_ex hf
      refine V.iald (q := 52) ev7 dX13_printed_51 rfl ?_
      obtain ⟨_, e8, hf⟩ := bd_ex hf
      obtain ⟨v9, h5, eh5, hf⟩ := bd2_ex hf
      refine V.callV (q := 55) (ci := 13) (vs := [.int v7]) (st := []) (S2 := [.int v9]) okX13_good1 imX13_good1 seX13_good1 rfl lkX13_58 (tX13_good1 eh5) rfl (ck_is e8) (by decide) rfl (Nat.le_of_ble_eq_true rfl) (Nat.le_of_ble_eq_true rfl) rfl dX13_printed_52 rfl rfl ?_
      obtain ⟨rfl, rfl⟩ := ret_inj hf
      exact V.ret (r := some (.int v9)) trivial dX13_printed_55
    · rw [if_neg c] at hf
      refine V.aload_n (q := 33) rfl dX13_printed_32 rfl rfl ?_
      refine V.iload (q := 35) dX13_printed_33 rfl rfl ?_
      obtain ⟨_, e5, hf⟩ := bd_ex hf
      obtain ⟨v6, h4, eh4, hf⟩ := bd2_ex hf
      refine V.callV (q := 38) (ci := 13) (vs := [.int v4]) (st := []) (S2 := [.int v6]) okX13_refused imX13_refused seX13_refused rfl lkX13_54 (tX13_refused eh4) rfl (ck_is e5) (by decide) rfl (Nat.le_of_ble_eq_true rfl) (Nat.le_of_ble_eq_true rfl) rfl dX13_printed_35 rfl rfl ?_
      obtain ⟨rfl, rfl⟩ := ret_inj hf
      exact V.ret (r := some (.int v6)) trivial dX13_printed_38
  · rw [if_pos c] at hf
    refine V.aload_n (q := 14) rfl dX13_printed_13 rfl rfl ?_
    refine V.iconst (q := 15) (v := 1) (by decide) dX13_printed_14 rfl ?_
    obtain ⟨_, e3, hf⟩ := bd_ex hf
    obtain ⟨v4, h3, eh3, hf⟩ := bd2_ex hf
    refine V.callV (q := 18) (ci := 13) (vs := [.int 1]) (st := []) (S2 := [.int v4]) okX13_refused imX13_refused seX13_refused rfl lkX13_54 (tX13_refused eh3) rfl (ck_is e3) (by decide) rfl (Nat.le_of_ble_eq_true rfl) (Nat.le_of_ble_eq_true rfl) rfl dX13_printed_15 rfl rfl ?_
    obtain ⟨rfl, rfl⟩ := ret_inj hf
    exact V.ret (r := some (.int v4)) trivial dX13_printed_18
def fX13_prints (h : MH) (a0 : Nat) (x1 : Int32) (x2 : Int32) (x3 : Int32) : Option (Int32 × MH) := bd (pI h a0 13 0 0) fun h1 => bd (ck h1 a0 13) fun _ => bd2 (fX13_isStamp h1 a0 x1) fun v2 h2 => if v2 = 0 then (bd (ck h2 a0 13) fun _ => bd2 (fX13_refused h2 a0 1) fun v4 h3 => some (v4, h3)) else (bd (ck h2 a0 13) fun _ => bd2 (fX13_isHand h2 a0 x2) fun v4 h3 => if v4 = 0 then (bd (ck h3 a0 13) fun _ => bd2 (fX13_refused h3 a0 1) fun v6 h4 => some (v6, h4)) else (bd (ck h3 a0 13) fun _ => bd2 (fX13_isPaper h3 a0 x3) fun v6 h4 => if v6 = 0 then (bd (ck h4 a0 13) fun _ => bd2 (fX13_refused h4 a0 1) fun v8 h5 => some (v8, h5)) else (bd (ck h4 a0 13) fun _ => bd2 (fX13_saysNow h4 a0 x1 x3) fun v8 h5 => bd (ck h5 a0 13) fun _ => bd2 (fX13_printsBy h5 a0 x2 v8) fun v10 h6 => bd (ck h6 a0 13) fun _ => bd2 (fX13_good1 h6 a0 v10) fun v12 h7 => some (v12, h7))))
set_option maxRecDepth 20000 in
theorem tX13_prints {r : Int32} {h' : MH} {h : MH} {a0 : Nat} {x1 : Int32} {x2 : Int32} {x3 : Int32} (hf : fX13_prints h a0 x1 x2 x3 = some (r, h')) : VM mX13_prints 4 (some (.int r)) h' h [.ref a0, .int x1, .int x2, .int x3] := by
  show V TT mX13_prints 4 _ h' h 0 [.ref a0, .int x1, .int x2, .int x3] []
  unfold fX13_prints at hf
  refine V.aload_n (q := 1) rfl dX13_prints_0 rfl rfl ?_
  refine V.iconst (q := 2) (v := 0) (by decide) dX13_prints_1 rfl ?_
  obtain ⟨h1, eh1, hf⟩ := bd_ex hf
  refine V.putI (q := 5) (fpX13_48 rfl) rfl eh1 dX13_prints_2 rfl ?_
  refine V.aload_n (q := 6) rfl dX13_prints_5 rfl rfl ?_
  refine V.iload_n (q := 7) rfl dX13_prints_6 rfl rfl ?_
  obtain ⟨_, e1, hf⟩ := bd_ex hf
  obtain ⟨v2, h2, eh2, hf⟩ := bd2_ex hf
  refine V.callV (q := 10) (ci := 13) (vs := [.int x1]) (st := []) (S2 := [.int v2]) okX13_isStamp imX13_isStamp seX13_isStamp rfl lkX13_358 (tX13_isStamp eh2) rfl (ck_is e1) (by decide) rfl (Nat.le_of_ble_eq_true rfl) (Nat.le_of_ble_eq_true rfl) rfl dX13_prints_7 rfl rfl ?_
  refine V.if_eq (q := 13) (tgt := 47) dX13_prints_10 rfl (by decide) (fun c => ?_) (fun c => ?_)
  · rw [if_pos c] at hf
    refine V.aload_n (q := 48) rfl dX13_prints_47 rfl rfl ?_
    refine V.iconst (q := 49) (v := 1) (by decide) dX13_prints_48 rfl ?_
    obtain ⟨_, e3, hf⟩ := bd_ex hf
    obtain ⟨v4, h3, eh3, hf⟩ := bd2_ex hf
    refine V.callV (q := 52) (ci := 13) (vs := [.int 1]) (st := []) (S2 := [.int v4]) okX13_refused imX13_refused seX13_refused rfl lkX13_54 (tX13_refused eh3) rfl (ck_is e3) (by decide) rfl (Nat.le_of_ble_eq_true rfl) (Nat.le_of_ble_eq_true rfl) rfl dX13_prints_49 rfl rfl ?_
    obtain ⟨rfl, rfl⟩ := ret_inj hf
    exact V.ret (r := some (.int v4)) trivial dX13_prints_52
  · rw [if_neg c] at hf
    refine V.aload_n (q := 14) rfl dX13_prints_13 rfl rfl ?_
    refine V.iload_n (q := 15) rfl dX13_prints_14 rfl rfl ?_
    obtain ⟨_, e3, hf⟩ := bd_ex hf
    obtain ⟨v4, h3, eh3, hf⟩ := bd2_ex hf
    refine V.callV (q := 18) (ci := 13) (vs := [.int x2]) (st := []) (S2 := [.int v4]) okX13_isHand imX13_isHand seX13_isHand rfl lkX13_361 (tX13_isHand eh3) rfl (ck_is e3) (by decide) rfl (Nat.le_of_ble_eq_true rfl) (Nat.le_of_ble_eq_true rfl) rfl dX13_prints_15 rfl rfl ?_
    refine V.if_eq (q := 21) (tgt := 47) dX13_prints_18 rfl (by decide) (fun c => ?_) (fun c => ?_)
    · rw [if_pos c] at hf
      refine V.aload_n (q := 48) rfl dX13_prints_47 rfl rfl ?_
      refine V.iconst (q := 49) (v := 1) (by decide) dX13_prints_48 rfl ?_
      obtain ⟨_, e5, hf⟩ := bd_ex hf
      obtain ⟨v6, h4, eh4, hf⟩ := bd2_ex hf
      refine V.callV (q := 52) (ci := 13) (vs := [.int 1]) (st := []) (S2 := [.int v6]) okX13_refused imX13_refused seX13_refused rfl lkX13_54 (tX13_refused eh4) rfl (ck_is e5) (by decide) rfl (Nat.le_of_ble_eq_true rfl) (Nat.le_of_ble_eq_true rfl) rfl dX13_prints_49 rfl rfl ?_
      obtain ⟨rfl, rfl⟩ := ret_inj hf
      exact V.ret (r := some (.int v6)) trivial dX13_prints_52
    · rw [if_neg c] at hf
      refine V.aload_n (q := 22) rfl dX13_prints_21 rfl rfl ?_
      refine V.iload_n (q := 23) rfl dX13_prints_22 rfl rfl ?_
      obtain ⟨_, e5, hf⟩ := bd_ex hf
      obtain ⟨v6, h4, eh4, hf⟩ := bd2_ex hf
      refine V.callV (q := 26) (ci := 13) (vs := [.int x3]) (st := []) (S2 := [.int v6]) okX13_isPaper imX13_isPaper seX13_isPaper rfl lkX13_355 (tX13_isPaper eh4) rfl (ck_is e5) (by decide) rfl (Nat.le_of_ble_eq_true rfl) (Nat.le_of_ble_eq_true rfl) rfl dX13_prints_23 rfl rfl ?_
      refine V.if_eq (q := 29) (tgt := 47) dX13_prints_26 rfl (by decide) (fun c => ?_) (fun c => ?_)
      · rw [if_pos c] at hf
        refine V.aload_n (q := 48) rfl dX13_prints_47 rfl rfl ?_
        refine V.iconst (q := 49) (v := 1) (by decide) dX13_prints_48 rfl ?_
        obtain ⟨_, e7, hf⟩ := bd_ex hf
        obtain ⟨v8, h5, eh5, hf⟩ := bd2_ex hf
        refine V.callV (q := 52) (ci := 13) (vs := [.int 1]) (st := []) (S2 := [.int v8]) okX13_refused imX13_refused seX13_refused rfl lkX13_54 (tX13_refused eh5) rfl (ck_is e7) (by decide) rfl (Nat.le_of_ble_eq_true rfl) (Nat.le_of_ble_eq_true rfl) rfl dX13_prints_49 rfl rfl ?_
        obtain ⟨rfl, rfl⟩ := ret_inj hf
        exact V.ret (r := some (.int v8)) trivial dX13_prints_52
      · rw [if_neg c] at hf
        refine V.aload_n (q := 30) rfl dX13_prints_29 rfl rfl ?_
        refine V.aload_n (q := 31) rfl dX13_prints_30 rfl rfl ?_
        refine V.iload_n (q := 32) rfl dX13_prints_31 rfl rfl ?_
        refine V.aload_n (q := 33) rfl dX13_prints_32 rfl rfl ?_
        refine V.iload_n (q := 34) rfl dX13_prints_33 rfl rfl ?_
        refine V.iload_n (q := 35) rfl dX13_prints_34 rfl rfl ?_
        obtain ⟨_, e7, hf⟩ := bd_ex hf
        obtain ⟨v8, h5, eh5, hf⟩ := bd2_ex hf
        refine V.callV (q := 38) (ci := 13) (vs := [.int x1, .int x3]) (st := [.int x2, .ref a0, .ref a0]) (S2 := [.int v8, .int x2, .ref a0, .ref a0]) okX13_saysNow imX13_saysNow seX13_saysNow rfl lkX13_367 (tX13_saysNow eh5) rfl (ck_is e7) (by decide) rfl (Nat.le_of_ble_eq_true rfl) (Nat.le_of_ble_eq_true rfl) rfl dX13_prints_35 rfl rfl ?_
        obtain ⟨_, e9, hf⟩ := bd_ex hf
        obtain ⟨v10, h6, eh6, hf⟩ := bd2_ex hf
        refine V.callV (q := 41) (ci := 13) (vs := [.int x2, .int v8]) (st := [.ref a0]) (S2 := [.int v10, .ref a0]) okX13_printsBy imX13_printsBy seX13_printsBy rfl lkX13_352 (tX13_printsBy eh6) rfl (ck_is e9) (by decide) rfl (Nat.le_of_ble_eq_true rfl) (Nat.le_of_ble_eq_true rfl) rfl dX13_prints_38 rfl rfl ?_
        obtain ⟨_, e11, hf⟩ := bd_ex hf
        obtain ⟨v12, h7, eh7, hf⟩ := bd2_ex hf
        refine V.callV (q := 44) (ci := 13) (vs := [.int v10]) (st := []) (S2 := [.int v12]) okX13_good1 imX13_good1 seX13_good1 rfl lkX13_58 (tX13_good1 eh7) rfl (ck_is e11) (by decide) rfl (Nat.le_of_ble_eq_true rfl) (Nat.le_of_ble_eq_true rfl) rfl dX13_prints_41 rfl rfl ?_
        refine V.goto (q := 52) dX13_prints_44 (by decide) ?_
        obtain ⟨rfl, rfl⟩ := ret_inj hf
        exact V.ret (r := some (.int v12)) trivial dX13_prints_52
def bX13_reword_47 (k47 : MH → Nat → Int32 → Int32 → Int32 → Int32 → Int32 → Option (Int32 × MH)) (h : MH) (a0 : Nat) (x1 : Int32) (x2 : Int32) (x3 : Int32) (x4 : Int32) (x5 : Int32) : Option (Int32 × MH) := bd (ck h a0 13) fun _ => bd2 (fX13_allMarks h a0 ) fun v2 h1 => if v2 ≤ x5 then (bd (ck h1 a0 13) fun _ => bd2 (fX13_good1 h1 a0 x4) fun v4 h2 => some (v4, h2)) else (bd (gR h1 a0 13 15) fun b3 => bd (lI h1 b3 (11 + x1)) fun v4 => bd (ck h1 a0 13) fun _ => bd2 (fX13_saysBy h1 a0 x2 (v4 ^^^ x5)) fun v6 h2 => if v6 = x3 then (if x4 = (-2) then (bd (some (x5 + 1)) fun v7 => k47 h2 a0 x1 x2 x3 x5 v7) else (bd2 (fX13_bits h2 x5) fun v7 h3 => bd2 (fX13_bits h3 x4) fun v8 h4 => if v8 ≤ v7 then (bd (some (x5 + 1)) fun v9 => k47 h4 a0 x1 x2 x3 x4 v9) else (bd (some (x5 + 1)) fun v9 => k47 h4 a0 x1 x2 x3 x5 v9))) else (bd (some (x5 + 1)) fun v7 => k47 h2 a0 x1 x2 x3 x4 v7))
set_option maxRecDepth 20000 in
theorem tX13_reword_47 {r : Int32} {h' : MH} (k47 : MH → Nat → Int32 → Int32 → Int32 → Int32 → Int32 → Option (Int32 × MH)) (hk47 : ∀ (h : MH) (a0 : Nat) (x1 : Int32) (x2 : Int32) (x3 : Int32) (x4 : Int32) (x5 : Int32), k47 h a0 x1 x2 x3 x4 x5 = some (r, h') → V TT mX13_reword 3 (some (.int r)) h' h 47 [.ref a0, .int x1, .int x2, .int x3, .int x4, .int x5] [])  {h : MH} {a0 : Nat} {x1 : Int32} {x2 : Int32} {x3 : Int32} {x4 : Int32} {x5 : Int32} (hf : bX13_reword_47 k47 h a0 x1 x2 x3 x4 x5 = some (r, h')) : V TT mX13_reword 3 (some (.int r)) h' h 47 [.ref a0, .int x1, .int x2, .int x3, .int x4, .int x5] [] := by
  unfold bX13_reword_47 at hf
  refine V.iload (q := 49) dX13_reword_47 rfl rfl ?_
  refine V.aload_n (q := 50) rfl dX13_reword_49 rfl rfl ?_
  obtain ⟨_, e1, hf⟩ := bd_ex hf
  obtain ⟨v2, h1, eh1, hf⟩ := bd2_ex hf
  refine V.callV (q := 53) (ci := 13) (vs := []) (st := [.int x5]) (S2 := [.int v2, .int x5]) okX13_allMarks imX13_allMarks seX13_allMarks rfl lkX13_370 (tX13_allMarks eh1) rfl (ck_is e1) (by decide) rfl (Nat.le_of_ble_eq_true rfl) (Nat.le_of_ble_eq_true rfl) rfl dX13_reword_50 rfl rfl ?_
  refine V.icmp_ge (q := 56) (tgt := 107) dX13_reword_53 rfl (by decide) (fun c => ?_) (fun c => ?_)
  · rw [if_pos c] at hf
    refine V.aload_n (q := 108) rfl dX13_reword_107 rfl rfl ?_
    refine V.iload (q := 110) dX13_reword_108 rfl rfl ?_
    obtain ⟨_, e3, hf⟩ := bd_ex hf
    obtain ⟨v4, h2, eh2, hf⟩ := bd2_ex hf
    refine V.callV (q := 113) (ci := 13) (vs := [.int x4]) (st := []) (S2 := [.int v4]) okX13_good1 imX13_good1 seX13_good1 rfl lkX13_58 (tX13_good1 eh2) rfl (ck_is e3) (by decide) rfl (Nat.le_of_ble_eq_true rfl) (Nat.le_of_ble_eq_true rfl) rfl dX13_reword_110 rfl rfl ?_
    obtain ⟨rfl, rfl⟩ := ret_inj hf
    exact V.ret (r := some (.int v4)) trivial dX13_reword_113
  · rw [if_neg c] at hf
    refine V.aload_n (q := 57) rfl dX13_reword_56 rfl rfl ?_
    refine V.iload_n (q := 58) rfl dX13_reword_57 rfl rfl ?_
    refine V.aload_n (q := 59) rfl dX13_reword_58 rfl rfl ?_
    obtain ⟨b3, eb3, hf⟩ := bd_ex hf
    refine V.getR (q := 62) flX13_17 rfl eb3 dX13_reword_59 rfl ?_
    refine V.bipush (q := 64) (v := 11) (by decide) dX13_reword_62 rfl ?_
    refine V.iload_n (q := 65) rfl dX13_reword_64 rfl rfl ?_
    refine V.iadd (q := 66) dX13_reword_65 rfl ?_
    obtain ⟨v4, ev4, hf⟩ := bd_ex hf
    refine V.iald (q := 67) ev4 dX13_reword_66 rfl ?_
    refine V.iload (q := 69) dX13_reword_67 rfl rfl ?_
    refine V.ixor (q := 70) dX13_reword_69 rfl ?_
    obtain ⟨_, e5, hf⟩ := bd_ex hf
    obtain ⟨v6, h2, eh2, hf⟩ := bd2_ex hf
    refine V.callV (q := 73) (ci := 13) (vs := [.int x2, .int (v4 ^^^ x5)]) (st := []) (S2 := [.int v6]) okX13_saysBy imX13_saysBy seX13_saysBy rfl lkX13_349 (tX13_saysBy eh2) rfl (ck_is e5) (by decide) rfl (Nat.le_of_ble_eq_true rfl) (Nat.le_of_ble_eq_true rfl) rfl dX13_reword_70 rfl rfl ?_
    refine V.iload_n (q := 74) rfl dX13_reword_73 rfl rfl ?_
    refine V.icmp_ne (q := 77) (tgt := 101) dX13_reword_74 rfl (by decide) (fun c => ?_) (fun c => ?_)
    · rw [if_neg c] at hf
      obtain ⟨v7, ev7, hf⟩ := bd_ex hf
      refine V.iinc (q := 104) (v := v7) (L' := [.ref a0, .int x1, .int x2, .int x3, .int x4, .int v7]) dX13_reword_101 rfl rfl (Option.some.inj ev7) (by decide) rfl rfl ?_
      refine V.goto (q := 47) dX13_reword_104 (by decide) ?_
      exact hk47 _ _ _ _ _ _ _ hf
    · rw [if_pos c] at hf
      refine V.iload (q := 79) dX13_reword_77 rfl rfl ?_
      refine V.bipush (q := 81) (v := (-2)) (by decide) dX13_reword_79 rfl ?_
      refine V.icmp_eq (q := 84) (tgt := 97) dX13_reword_81 rfl (by decide) (fun c => ?_) (fun c => ?_)
      · rw [if_pos c] at hf
        refine V.iload (q := 99) dX13_reword_97 rfl rfl ?_
        refine V.istore (q := 101) (L' := [.ref a0, .int x1, .int x2, .int x3, .int x5, .int x5]) dX13_reword_99 rfl (by decide) rfl rfl ?_
        obtain ⟨v7, ev7, hf⟩ := bd_ex hf
        refine V.iinc (q := 104) (v := v7) (L' := [.ref a0, .int x1, .int x2, .int x3, .int x5, .int v7]) dX13_reword_101 rfl rfl (Option.some.inj ev7) (by decide) rfl rfl ?_
        refine V.goto (q := 47) dX13_reword_104 (by decide) ?_
        exact hk47 _ _ _ _ _ _ _ hf
      · rw [if_neg c] at hf
        refine V.iload (q := 86) dX13_reword_84 rfl rfl ?_
        obtain ⟨v7, h3, eh3, hf⟩ := bd2_ex hf
        refine V.callS (q := 89) (vs := [.int x5]) (st := []) (S2 := [.int v7]) okX13_bits stX13_bits lkX13_400 (tX13_bits eh3) rfl (by decide) rfl (Nat.le_of_ble_eq_true rfl) (Nat.le_of_ble_eq_true rfl) rfl dX13_reword_86 rfl rfl ?_
        refine V.iload (q := 91) dX13_reword_89 rfl rfl ?_
        obtain ⟨v8, h4, eh4, hf⟩ := bd2_ex hf
        refine V.callS (q := 94) (vs := [.int x4]) (st := [.int v7]) (S2 := [.int v8, .int v7]) okX13_bits stX13_bits lkX13_400 (tX13_bits eh4) rfl (by decide) rfl (Nat.le_of_ble_eq_true rfl) (Nat.le_of_ble_eq_true rfl) rfl dX13_reword_91 rfl rfl ?_
        refine V.icmp_ge (q := 97) (tgt := 101) dX13_reword_94 rfl (by decide) (fun c => ?_) (fun c => ?_)
        · rw [if_pos c] at hf
          obtain ⟨v9, ev9, hf⟩ := bd_ex hf
          refine V.iinc (q := 104) (v := v9) (L' := [.ref a0, .int x1, .int x2, .int x3, .int x4, .int v9]) dX13_reword_101 rfl rfl (Option.some.inj ev9) (by decide) rfl rfl ?_
          refine V.goto (q := 47) dX13_reword_104 (by decide) ?_
          exact hk47 _ _ _ _ _ _ _ hf
        · rw [if_neg c] at hf
          refine V.iload (q := 99) dX13_reword_97 rfl rfl ?_
          refine V.istore (q := 101) (L' := [.ref a0, .int x1, .int x2, .int x3, .int x5, .int x5]) dX13_reword_99 rfl (by decide) rfl rfl ?_
          obtain ⟨v9, ev9, hf⟩ := bd_ex hf
          refine V.iinc (q := 104) (v := v9) (L' := [.ref a0, .int x1, .int x2, .int x3, .int x5, .int v9]) dX13_reword_101 rfl rfl (Option.some.inj ev9) (by decide) rfl rfl ?_
          refine V.goto (q := 47) dX13_reword_104 (by decide) ?_
          exact hk47 _ _ _ _ _ _ _ hf
def fX13_reword_47  : Nat → MH → Nat → Int32 → Int32 → Int32 → Int32 → Int32 → Option (Int32 × MH)
  | 0 => fun _ _ _ _ _ _ _ => none
  | n + 1 => bX13_reword_47  (fX13_reword_47  n)
theorem tlX13_reword_47 {r : Int32} {h' : MH}   : ∀ (n : Nat) (h : MH) (a0 : Nat) (x1 : Int32) (x2 : Int32) (x3 : Int32) (x4 : Int32) (x5 : Int32), fX13_reword_47  n h a0 x1 x2 x3 x4 x5 = some (r, h') → V TT mX13_reword 3 (some (.int r)) h' h 47 [.ref a0, .int x1, .int x2, .int x3, .int x4, .int x5] [] := by
  intro n
  induction n with
  | zero => intro h a0 x1 x2 x3 x4 x5 hf; exact nomatch (show (none : Option (Int32 × MH)) = some (r, h') from hf)
  | succ n ih => intro h a0 x1 x2 x3 x4 x5 hf; exact tX13_reword_47  (fX13_reword_47  n) ih hf
def fX13_reword (h : MH) (a0 : Nat) (x1 : Int32) (x2 : Int32) (x3 : Int32) : Option (Int32 × MH) := bd (pI h a0 13 0 0) fun h1 => bd (ck h1 a0 13) fun _ => bd2 (fX13_isPaper h1 a0 x1) fun v2 h2 => if v2 = 0 then (bd (ck h2 a0 13) fun _ => bd2 (fX13_refused h2 a0 1) fun v4 h3 => some (v4, h3)) else (bd (ck h2 a0 13) fun _ => bd2 (fX13_isStamp h2 a0 x2) fun v4 h3 => if v4 = 0 then (bd (ck h3 a0 13) fun _ => bd2 (fX13_refused h3 a0 1) fun v6 h4 => some (v6, h4)) else (bd2 (fX13_isVerdict h3 x3) fun v5 h4 => if v5 = 0 then (bd (ck h4 a0 13) fun _ => bd2 (fX13_refused h4 a0 2) fun v7 h5 => some (v7, h5)) else (fX13_reword_47 FU h4 a0 x1 x2 x3 (-2) 0)))
set_option maxRecDepth 20000 in
theorem tX13_reword {r : Int32} {h' : MH} {h : MH} {a0 : Nat} {x1 : Int32} {x2 : Int32} {x3 : Int32} (hf : fX13_reword h a0 x1 x2 x3 = some (r, h')) : VM mX13_reword 3 (some (.int r)) h' h [.ref a0, .int x1, .int x2, .int x3] := by
  show V TT mX13_reword 3 _ h' h 0 [.ref a0, .int x1, .int x2, .int x3, Jk, Jk] []
  unfold fX13_reword at hf
  refine V.aload_n (q := 1) rfl dX13_reword_0 rfl rfl ?_
  refine V.iconst (q := 2) (v := 0) (by decide) dX13_reword_1 rfl ?_
  obtain ⟨h1, eh1, hf⟩ := bd_ex hf
  refine V.putI (q := 5) (fpX13_48 rfl) rfl eh1 dX13_reword_2 rfl ?_
  refine V.aload_n (q := 6) rfl dX13_reword_5 rfl rfl ?_
  refine V.iload_n (q := 7) rfl dX13_reword_6 rfl rfl ?_
  obtain ⟨_, e1, hf⟩ := bd_ex hf
  obtain ⟨v2, h2, eh2, hf⟩ := bd2_ex hf
  refine V.callV (q := 10) (ci := 13) (vs := [.int x1]) (st := []) (S2 := [.int v2]) okX13_isPaper imX13_isPaper seX13_isPaper rfl lkX13_355 (tX13_isPaper eh2) rfl (ck_is e1) (by decide) rfl (Nat.le_of_ble_eq_true rfl) (Nat.le_of_ble_eq_true rfl) rfl dX13_reword_7 rfl rfl ?_
  refine V.if_eq (q := 13) (tgt := 21) dX13_reword_10 rfl (by decide) (fun c => ?_) (fun c => ?_)
  · rw [if_pos c] at hf
    refine V.aload_n (q := 22) rfl dX13_reword_21 rfl rfl ?_
    refine V.iconst (q := 23) (v := 1) (by decide) dX13_reword_22 rfl ?_
    obtain ⟨_, e3, hf⟩ := bd_ex hf
    obtain ⟨v4, h3, eh3, hf⟩ := bd2_ex hf
    refine V.callV (q := 26) (ci := 13) (vs := [.int 1]) (st := []) (S2 := [.int v4]) okX13_refused imX13_refused seX13_refused rfl lkX13_54 (tX13_refused eh3) rfl (ck_is e3) (by decide) rfl (Nat.le_of_ble_eq_true rfl) (Nat.le_of_ble_eq_true rfl) rfl dX13_reword_23 rfl rfl ?_
    obtain ⟨rfl, rfl⟩ := ret_inj hf
    exact V.ret (r := some (.int v4)) trivial dX13_reword_26
  · rw [if_neg c] at hf
    refine V.aload_n (q := 14) rfl dX13_reword_13 rfl rfl ?_
    refine V.iload_n (q := 15) rfl dX13_reword_14 rfl rfl ?_
    obtain ⟨_, e3, hf⟩ := bd_ex hf
    obtain ⟨v4, h3, eh3, hf⟩ := bd2_ex hf
    refine V.callV (q := 18) (ci := 13) (vs := [.int x2]) (st := []) (S2 := [.int v4]) okX13_isStamp imX13_isStamp seX13_isStamp rfl lkX13_358 (tX13_isStamp eh3) rfl (ck_is e3) (by decide) rfl (Nat.le_of_ble_eq_true rfl) (Nat.le_of_ble_eq_true rfl) rfl dX13_reword_15 rfl rfl ?_
    refine V.if_ne (q := 21) (tgt := 27) dX13_reword_18 rfl (by decide) (fun c => ?_) (fun c => ?_)
    · rw [if_neg c] at hf
      refine V.iload_n (q := 28) rfl dX13_reword_27 rfl rfl ?_
      obtain ⟨v5, h4, eh4, hf⟩ := bd2_ex hf
      refine V.callS (q := 31) (vs := [.int x3]) (st := []) (S2 := [.int v5]) okX13_isVerdict stX13_isVerdict lkX13_373 (tX13_isVerdict eh4) rfl (by decide) rfl (Nat.le_of_ble_eq_true rfl) (Nat.le_of_ble_eq_true rfl) rfl dX13_reword_28 rfl rfl ?_
      refine V.if_ne (q := 34) (tgt := 40) dX13_reword_31 rfl (by decide) (fun c => ?_) (fun c => ?_)
      · rw [if_neg c] at hf
        refine V.bipush (q := 42) (v := (-2)) (by decide) dX13_reword_40 rfl ?_
        refine V.istore (q := 44) (L' := [.ref a0, .int x1, .int x2, .int x3, .int (-2), Jk]) dX13_reword_42 rfl (by decide) rfl rfl ?_
        refine V.iconst (q := 45) (v := 0) (by decide) dX13_reword_44 rfl ?_
        refine V.istore (q := 47) (L' := [.ref a0, .int x1, .int x2, .int x3, .int (-2), .int 0]) dX13_reword_45 rfl (by decide) rfl rfl ?_
        exact tlX13_reword_47  FU _ _ _ _ _ _ _ hf
      · rw [if_pos c] at hf
        refine V.aload_n (q := 35) rfl dX13_reword_34 rfl rfl ?_
        refine V.iconst (q := 36) (v := 2) (by decide) dX13_reword_35 rfl ?_
        obtain ⟨_, e6, hf⟩ := bd_ex hf
        obtain ⟨v7, h5, eh5, hf⟩ := bd2_ex hf
        refine V.callV (q := 39) (ci := 13) (vs := [.int 2]) (st := []) (S2 := [.int v7]) okX13_refused imX13_refused seX13_refused rfl lkX13_54 (tX13_refused eh5) rfl (ck_is e6) (by decide) rfl (Nat.le_of_ble_eq_true rfl) (Nat.le_of_ble_eq_true rfl) rfl dX13_reword_36 rfl rfl ?_
        obtain ⟨rfl, rfl⟩ := ret_inj hf
        exact V.ret (r := some (.int v7)) trivial dX13_reword_39
    · rw [if_pos c] at hf
      refine V.aload_n (q := 22) rfl dX13_reword_21 rfl rfl ?_
      refine V.iconst (q := 23) (v := 1) (by decide) dX13_reword_22 rfl ?_
      obtain ⟨_, e5, hf⟩ := bd_ex hf
      obtain ⟨v6, h4, eh4, hf⟩ := bd2_ex hf
      refine V.callV (q := 26) (ci := 13) (vs := [.int 1]) (st := []) (S2 := [.int v6]) okX13_refused imX13_refused seX13_refused rfl lkX13_54 (tX13_refused eh4) rfl (ck_is e5) (by decide) rfl (Nat.le_of_ble_eq_true rfl) (Nat.le_of_ble_eq_true rfl) rfl dX13_reword_23 rfl rfl ?_
      obtain ⟨rfl, rfl⟩ := ret_inj hf
      exact V.ret (r := some (.int v6)) trivial dX13_reword_26
def fX13_rule (h : MH) (a0 : Nat) (x1 : Int32) (x2 : Int32) : Option (Int32 × MH) := bd (pI h a0 13 0 0) fun h1 => bd (ck h1 a0 13) fun _ => bd2 (fX13_isRule h1 a0 x1) fun v2 h2 => if v2 = 0 then (bd (ck h2 a0 13) fun _ => bd2 (fX13_refused h2 a0 1) fun v4 h3 => some (v4, h3)) else (bd2 (fX13_in h2 x2 0 3) fun v3 h3 => if v3 = 0 then (bd (ck h3 a0 13) fun _ => bd2 (fX13_refused h3 a0 1) fun v5 h4 => some (v5, h4)) else (if x2 = 0 then (bd (gR h3 a0 13 3) fun b4 => bd (gR h3 b4 12 15) fun b5 => bd (lI h3 b5 x1) fun v6 => bd (ck h3 a0 13) fun _ => bd2 (fX13_good1 h3 a0 v6) fun v8 h4 => some (v8, h4)) else (if x2 = 1 then (bd (gR h3 a0 13 3) fun b4 => bd (gR h3 b4 12 16) fun b5 => bd (lI h3 b5 x1) fun v6 => bd (ck h3 a0 13) fun _ => bd2 (fX13_good1 h3 a0 v6) fun v8 h4 => some (v8, h4)) else (if x2 = 2 then (bd (gR h3 a0 13 3) fun b4 => bd (gR h3 b4 12 17) fun b5 => bd (lI h3 b5 x1) fun v6 => bd (ck h3 a0 13) fun _ => bd2 (fX13_good1 h3 a0 v6) fun v8 h4 => some (v8, h4)) else (bd (gR h3 a0 13 15) fun b4 => bd (lI h3 b4 (21 + x1)) fun v5 => bd (ck h3 a0 13) fun _ => bd2 (fX13_good1 h3 a0 v5) fun v7 h4 => some (v7, h4))))))
set_option maxRecDepth 20000 in
theorem tX13_rule {r : Int32} {h' : MH} {h : MH} {a0 : Nat} {x1 : Int32} {x2 : Int32} (hf : fX13_rule h a0 x1 x2 = some (r, h')) : VM mX13_rule 1 (some (.int r)) h' h [.ref a0, .int x1, .int x2] := by
  show V TT mX13_rule 1 _ h' h 0 [.ref a0, .int x1, .int x2] []
  unfold fX13_rule at hf
  refine V.aload_n (q := 1) rfl dX13_rule_0 rfl rfl ?_
  refine V.iconst (q := 2) (v := 0) (by decide) dX13_rule_1 rfl ?_
  obtain ⟨h1, eh1, hf⟩ := bd_ex hf
  refine V.putI (q := 5) (fpX13_48 rfl) rfl eh1 dX13_rule_2 rfl ?_
  refine V.aload_n (q := 6) rfl dX13_rule_5 rfl rfl ?_
  refine V.iload_n (q := 7) rfl dX13_rule_6 rfl rfl ?_
  obtain ⟨_, e1, hf⟩ := bd_ex hf
  obtain ⟨v2, h2, eh2, hf⟩ := bd2_ex hf
  refine V.callV (q := 10) (ci := 13) (vs := [.int x1]) (st := []) (S2 := [.int v2]) okX13_isRule imX13_isRule seX13_isRule rfl lkX13_364 (tX13_isRule eh2) rfl (ck_is e1) (by decide) rfl (Nat.le_of_ble_eq_true rfl) (Nat.le_of_ble_eq_true rfl) rfl dX13_rule_7 rfl rfl ?_
  refine V.if_eq (q := 13) (tgt := 22) dX13_rule_10 rfl (by decide) (fun c => ?_) (fun c => ?_)
  · rw [if_pos c] at hf
    refine V.aload_n (q := 23) rfl dX13_rule_22 rfl rfl ?_
    refine V.iconst (q := 24) (v := 1) (by decide) dX13_rule_23 rfl ?_
    obtain ⟨_, e3, hf⟩ := bd_ex hf
    obtain ⟨v4, h3, eh3, hf⟩ := bd2_ex hf
    refine V.callV (q := 27) (ci := 13) (vs := [.int 1]) (st := []) (S2 := [.int v4]) okX13_refused imX13_refused seX13_refused rfl lkX13_54 (tX13_refused eh3) rfl (ck_is e3) (by decide) rfl (Nat.le_of_ble_eq_true rfl) (Nat.le_of_ble_eq_true rfl) rfl dX13_rule_24 rfl rfl ?_
    obtain ⟨rfl, rfl⟩ := ret_inj hf
    exact V.ret (r := some (.int v4)) trivial dX13_rule_27
  · rw [if_neg c] at hf
    refine V.iload_n (q := 14) rfl dX13_rule_13 rfl rfl ?_
    refine V.iconst (q := 15) (v := 0) (by decide) dX13_rule_14 rfl ?_
    refine V.iconst (q := 16) (v := 3) (by decide) dX13_rule_15 rfl ?_
    obtain ⟨v3, h3, eh3, hf⟩ := bd2_ex hf
    refine V.callS (q := 19) (vs := [.int x2, .int 0, .int 3]) (st := []) (S2 := [.int v3]) okX13_in stX13_in lkX13_127 (tX13_in eh3) rfl (by decide) rfl (Nat.le_of_ble_eq_true rfl) (Nat.le_of_ble_eq_true rfl) rfl dX13_rule_16 rfl rfl ?_
    refine V.if_ne (q := 22) (tgt := 28) dX13_rule_19 rfl (by decide) (fun c => ?_) (fun c => ?_)
    · rw [if_neg c] at hf
      refine V.aload_n (q := 29) rfl dX13_rule_28 rfl rfl ?_
      refine V.iload_n (q := 30) rfl dX13_rule_29 rfl rfl ?_
      refine V.if_ne (q := 33) (tgt := 45) dX13_rule_30 rfl (by decide) (fun c => ?_) (fun c => ?_)
      · rw [if_neg c] at hf
        refine V.iload_n (q := 46) rfl dX13_rule_45 rfl rfl ?_
        refine V.iconst (q := 47) (v := 1) (by decide) dX13_rule_46 rfl ?_
        refine V.icmp_ne (q := 50) (tgt := 62) dX13_rule_47 rfl (by decide) (fun c => ?_) (fun c => ?_)
        · rw [if_neg c] at hf
          refine V.iload_n (q := 63) rfl dX13_rule_62 rfl rfl ?_
          refine V.iconst (q := 64) (v := 2) (by decide) dX13_rule_63 rfl ?_
          refine V.icmp_ne (q := 67) (tgt := 79) dX13_rule_64 rfl (by decide) (fun c => ?_) (fun c => ?_)
          · rw [if_neg c] at hf
            refine V.aload_n (q := 80) rfl dX13_rule_79 rfl rfl ?_
            obtain ⟨b4, eb4, hf⟩ := bd_ex hf
            refine V.getR (q := 83) flX13_17 rfl eb4 dX13_rule_80 rfl ?_
            refine V.bipush (q := 85) (v := 21) (by decide) dX13_rule_83 rfl ?_
            refine V.iload_n (q := 86) rfl dX13_rule_85 rfl rfl ?_
            refine V.iadd (q := 87) dX13_rule_86 rfl ?_
            obtain ⟨v5, ev5, hf⟩ := bd_ex hf
            refine V.iald (q := 88) ev5 dX13_rule_87 rfl ?_
            obtain ⟨_, e6, hf⟩ := bd_ex hf
            obtain ⟨v7, h4, eh4, hf⟩ := bd2_ex hf
            refine V.callV (q := 91) (ci := 13) (vs := [.int v5]) (st := []) (S2 := [.int v7]) okX13_good1 imX13_good1 seX13_good1 rfl lkX13_58 (tX13_good1 eh4) rfl (ck_is e6) (by decide) rfl (Nat.le_of_ble_eq_true rfl) (Nat.le_of_ble_eq_true rfl) rfl dX13_rule_88 rfl rfl ?_
            obtain ⟨rfl, rfl⟩ := ret_inj hf
            exact V.ret (r := some (.int v7)) trivial dX13_rule_91
          · rw [if_pos c] at hf
            refine V.aload_n (q := 68) rfl dX13_rule_67 rfl rfl ?_
            obtain ⟨b4, eb4, hf⟩ := bd_ex hf
            refine V.getR (q := 71) flX13_338 rfl eb4 dX13_rule_68 rfl ?_
            obtain ⟨b5, eb5, hf⟩ := bd_ex hf
            refine V.getR (q := 74) flX13_292 rfl eb5 dX13_rule_71 rfl ?_
            refine V.iload_n (q := 75) rfl dX13_rule_74 rfl rfl ?_
            obtain ⟨v6, ev6, hf⟩ := bd_ex hf
            refine V.iald (q := 76) ev6 dX13_rule_75 rfl ?_
            refine V.goto (q := 88) dX13_rule_76 (by decide) ?_
            obtain ⟨_, e7, hf⟩ := bd_ex hf
            obtain ⟨v8, h4, eh4, hf⟩ := bd2_ex hf
            refine V.callV (q := 91) (ci := 13) (vs := [.int v6]) (st := []) (S2 := [.int v8]) okX13_good1 imX13_good1 seX13_good1 rfl lkX13_58 (tX13_good1 eh4) rfl (ck_is e7) (by decide) rfl (Nat.le_of_ble_eq_true rfl) (Nat.le_of_ble_eq_true rfl) rfl dX13_rule_88 rfl rfl ?_
            obtain ⟨rfl, rfl⟩ := ret_inj hf
            exact V.ret (r := some (.int v8)) trivial dX13_rule_91
        · rw [if_pos c] at hf
          refine V.aload_n (q := 51) rfl dX13_rule_50 rfl rfl ?_
          obtain ⟨b4, eb4, hf⟩ := bd_ex hf
          refine V.getR (q := 54) flX13_338 rfl eb4 dX13_rule_51 rfl ?_
          obtain ⟨b5, eb5, hf⟩ := bd_ex hf
          refine V.getR (q := 57) flX13_289 rfl eb5 dX13_rule_54 rfl ?_
          refine V.iload_n (q := 58) rfl dX13_rule_57 rfl rfl ?_
          obtain ⟨v6, ev6, hf⟩ := bd_ex hf
          refine V.iald (q := 59) ev6 dX13_rule_58 rfl ?_
          refine V.goto (q := 88) dX13_rule_59 (by decide) ?_
          obtain ⟨_, e7, hf⟩ := bd_ex hf
          obtain ⟨v8, h4, eh4, hf⟩ := bd2_ex hf
          refine V.callV (q := 91) (ci := 13) (vs := [.int v6]) (st := []) (S2 := [.int v8]) okX13_good1 imX13_good1 seX13_good1 rfl lkX13_58 (tX13_good1 eh4) rfl (ck_is e7) (by decide) rfl (Nat.le_of_ble_eq_true rfl) (Nat.le_of_ble_eq_true rfl) rfl dX13_rule_88 rfl rfl ?_
          obtain ⟨rfl, rfl⟩ := ret_inj hf
          exact V.ret (r := some (.int v8)) trivial dX13_rule_91
      · rw [if_pos c] at hf
        refine V.aload_n (q := 34) rfl dX13_rule_33 rfl rfl ?_
        obtain ⟨b4, eb4, hf⟩ := bd_ex hf
        refine V.getR (q := 37) flX13_338 rfl eb4 dX13_rule_34 rfl ?_
        obtain ⟨b5, eb5, hf⟩ := bd_ex hf
        refine V.getR (q := 40) flX13_286 rfl eb5 dX13_rule_37 rfl ?_
        refine V.iload_n (q := 41) rfl dX13_rule_40 rfl rfl ?_
        obtain ⟨v6, ev6, hf⟩ := bd_ex hf
        refine V.iald (q := 42) ev6 dX13_rule_41 rfl ?_
        refine V.goto (q := 88) dX13_rule_42 (by decide) ?_
        obtain ⟨_, e7, hf⟩ := bd_ex hf
        obtain ⟨v8, h4, eh4, hf⟩ := bd2_ex hf
        refine V.callV (q := 91) (ci := 13) (vs := [.int v6]) (st := []) (S2 := [.int v8]) okX13_good1 imX13_good1 seX13_good1 rfl lkX13_58 (tX13_good1 eh4) rfl (ck_is e7) (by decide) rfl (Nat.le_of_ble_eq_true rfl) (Nat.le_of_ble_eq_true rfl) rfl dX13_rule_88 rfl rfl ?_
        obtain ⟨rfl, rfl⟩ := ret_inj hf
        exact V.ret (r := some (.int v8)) trivial dX13_rule_91
    · rw [if_pos c] at hf
      refine V.aload_n (q := 23) rfl dX13_rule_22 rfl rfl ?_
      refine V.iconst (q := 24) (v := 1) (by decide) dX13_rule_23 rfl ?_
      obtain ⟨_, e4, hf⟩ := bd_ex hf
      obtain ⟨v5, h4, eh4, hf⟩ := bd2_ex hf
      refine V.callV (q := 27) (ci := 13) (vs := [.int 1]) (st := []) (S2 := [.int v5]) okX13_refused imX13_refused seX13_refused rfl lkX13_54 (tX13_refused eh4) rfl (ck_is e4) (by decide) rfl (Nat.le_of_ble_eq_true rfl) (Nat.le_of_ble_eq_true rfl) rfl dX13_rule_24 rfl rfl ?_
      obtain ⟨rfl, rfl⟩ := ret_inj hf
      exact V.ret (r := some (.int v5)) trivial dX13_rule_27
def bX13_sayers_37 (k37 : MH → Nat → Int32 → Int32 → Int32 → Int32 → Option (Int32 × MH)) (h : MH) (a0 : Nat) (x1 : Int32) (x2 : Int32) (x3 : Int32) (x4 : Int32) : Option (Int32 × MH) := bd (gR h a0 13 3) fun b1 => bd (gI h b1 12 3) fun v2 => if v2 ≤ x4 then (bd (ck h a0 13) fun _ => bd2 (fX13_good1 h a0 x3) fun v4 h1 => some (v4, h1)) else (bd (ck h a0 13) fun _ => bd2 (fX13_saysNow h a0 x4 x1) fun v4 h1 => if v4 = x2 then (bd (some (x3 ||| (1 <<< (x4 &&& 31)))) fun v5 => bd (some (x4 + 1)) fun v6 => k37 h1 a0 x1 x2 v5 v6) else (bd (some (x3 ||| 0)) fun v5 => bd (some (x4 + 1)) fun v6 => k37 h1 a0 x1 x2 v5 v6))
set_option maxRecDepth 20000 in
theorem tX13_sayers_37 {r : Int32} {h' : MH} (k37 : MH → Nat → Int32 → Int32 → Int32 → Int32 → Option (Int32 × MH)) (hk37 : ∀ (h : MH) (a0 : Nat) (x1 : Int32) (x2 : Int32) (x3 : Int32) (x4 : Int32), k37 h a0 x1 x2 x3 x4 = some (r, h') → V TT mX13_sayers 4 (some (.int r)) h' h 37 [.ref a0, .int x1, .int x2, .int x3, .int x4] [])  {h : MH} {a0 : Nat} {x1 : Int32} {x2 : Int32} {x3 : Int32} {x4 : Int32} (hf : bX13_sayers_37 k37 h a0 x1 x2 x3 x4 = some (r, h')) : V TT mX13_sayers 4 (some (.int r)) h' h 37 [.ref a0, .int x1, .int x2, .int x3, .int x4] [] := by
  unfold bX13_sayers_37 at hf
  refine V.iload (q := 39) dX13_sayers_37 rfl rfl ?_
  refine V.aload_n (q := 40) rfl dX13_sayers_39 rfl rfl ?_
  obtain ⟨b1, eb1, hf⟩ := bd_ex hf
  refine V.getR (q := 43) flX13_338 rfl eb1 dX13_sayers_40 rfl ?_
  obtain ⟨v2, ev2, hf⟩ := bd_ex hf
  refine V.getI (q := 46) flX13_262 rfl ev2 dX13_sayers_43 rfl ?_
  refine V.icmp_ge (q := 49) (tgt := 77) dX13_sayers_46 rfl (by decide) (fun c => ?_) (fun c => ?_)
  · rw [if_pos c] at hf
    refine V.aload_n (q := 78) rfl dX13_sayers_77 rfl rfl ?_
    refine V.iload_n (q := 79) rfl dX13_sayers_78 rfl rfl ?_
    obtain ⟨_, e3, hf⟩ := bd_ex hf
    obtain ⟨v4, h1, eh1, hf⟩ := bd2_ex hf
    refine V.callV (q := 82) (ci := 13) (vs := [.int x3]) (st := []) (S2 := [.int v4]) okX13_good1 imX13_good1 seX13_good1 rfl lkX13_58 (tX13_good1 eh1) rfl (ck_is e3) (by decide) rfl (Nat.le_of_ble_eq_true rfl) (Nat.le_of_ble_eq_true rfl) rfl dX13_sayers_79 rfl rfl ?_
    obtain ⟨rfl, rfl⟩ := ret_inj hf
    exact V.ret (r := some (.int v4)) trivial dX13_sayers_82
  · rw [if_neg c] at hf
    refine V.iload_n (q := 50) rfl dX13_sayers_49 rfl rfl ?_
    refine V.aload_n (q := 51) rfl dX13_sayers_50 rfl rfl ?_
    refine V.iload (q := 53) dX13_sayers_51 rfl rfl ?_
    refine V.iload_n (q := 54) rfl dX13_sayers_53 rfl rfl ?_
    obtain ⟨_, e3, hf⟩ := bd_ex hf
    obtain ⟨v4, h1, eh1, hf⟩ := bd2_ex hf
    refine V.callV (q := 57) (ci := 13) (vs := [.int x4, .int x1]) (st := [.int x3]) (S2 := [.int v4, .int x3]) okX13_saysNow imX13_saysNow seX13_saysNow rfl lkX13_367 (tX13_saysNow eh1) rfl (ck_is e3) (by decide) rfl (Nat.le_of_ble_eq_true rfl) (Nat.le_of_ble_eq_true rfl) rfl dX13_sayers_54 rfl rfl ?_
    refine V.iload_n (q := 58) rfl dX13_sayers_57 rfl rfl ?_
    refine V.icmp_ne (q := 61) (tgt := 68) dX13_sayers_58 rfl (by decide) (fun c => ?_) (fun c => ?_)
    · rw [if_neg c] at hf
      refine V.iconst (q := 69) (v := 0) (by decide) dX13_sayers_68 rfl ?_
      refine V.ior (q := 70) dX13_sayers_69 rfl ?_
      obtain ⟨v5, ev5, hf⟩ := bd_ex hf
      refine V.topI (Option.some.inj ev5) ?_
      refine V.istore_n (q := 71) (L' := [.ref a0, .int x1, .int x2, .int v5, .int x4]) rfl dX13_sayers_70 rfl (by decide) rfl rfl ?_
      obtain ⟨v6, ev6, hf⟩ := bd_ex hf
      refine V.iinc (q := 74) (v := v6) (L' := [.ref a0, .int x1, .int x2, .int v5, .int v6]) dX13_sayers_71 rfl rfl (Option.some.inj ev6) (by decide) rfl rfl ?_
      refine V.goto (q := 37) dX13_sayers_74 (by decide) ?_
      exact hk37 _ _ _ _ _ _ hf
    · rw [if_pos c] at hf
      refine V.iconst (q := 62) (v := 1) (by decide) dX13_sayers_61 rfl ?_
      refine V.iload (q := 64) dX13_sayers_62 rfl rfl ?_
      refine V.ishl (q := 65) dX13_sayers_64 rfl ?_
      refine V.goto (q := 69) dX13_sayers_65 (by decide) ?_
      refine V.ior (q := 70) dX13_sayers_69 rfl ?_
      obtain ⟨v5, ev5, hf⟩ := bd_ex hf
      refine V.topI (Option.some.inj ev5) ?_
      refine V.istore_n (q := 71) (L' := [.ref a0, .int x1, .int x2, .int v5, .int x4]) rfl dX13_sayers_70 rfl (by decide) rfl rfl ?_
      obtain ⟨v6, ev6, hf⟩ := bd_ex hf
      refine V.iinc (q := 74) (v := v6) (L' := [.ref a0, .int x1, .int x2, .int v5, .int v6]) dX13_sayers_71 rfl rfl (Option.some.inj ev6) (by decide) rfl rfl ?_
      refine V.goto (q := 37) dX13_sayers_74 (by decide) ?_
      exact hk37 _ _ _ _ _ _ hf
def fX13_sayers_37  : Nat → MH → Nat → Int32 → Int32 → Int32 → Int32 → Option (Int32 × MH)
  | 0 => fun _ _ _ _ _ _ => none
  | n + 1 => bX13_sayers_37  (fX13_sayers_37  n)
theorem tlX13_sayers_37 {r : Int32} {h' : MH}   : ∀ (n : Nat) (h : MH) (a0 : Nat) (x1 : Int32) (x2 : Int32) (x3 : Int32) (x4 : Int32), fX13_sayers_37  n h a0 x1 x2 x3 x4 = some (r, h') → V TT mX13_sayers 4 (some (.int r)) h' h 37 [.ref a0, .int x1, .int x2, .int x3, .int x4] [] := by
  intro n
  induction n with
  | zero => intro h a0 x1 x2 x3 x4 hf; exact nomatch (show (none : Option (Int32 × MH)) = some (r, h') from hf)
  | succ n ih => intro h a0 x1 x2 x3 x4 hf; exact tX13_sayers_37  (fX13_sayers_37  n) ih hf
def fX13_sayers (h : MH) (a0 : Nat) (x1 : Int32) (x2 : Int32) : Option (Int32 × MH) := bd (pI h a0 13 0 0) fun h1 => bd (ck h1 a0 13) fun _ => bd2 (fX13_isPaper h1 a0 x1) fun v2 h2 => if v2 = 0 then (bd (ck h2 a0 13) fun _ => bd2 (fX13_refused h2 a0 1) fun v4 h3 => some (v4, h3)) else (bd2 (fX13_isVerdict h2 x2) fun v3 h3 => if v3 = 0 then (bd (ck h3 a0 13) fun _ => bd2 (fX13_refused h3 a0 2) fun v5 h4 => some (v5, h4)) else (fX13_sayers_37 FU h3 a0 x1 x2 0 0))
set_option maxRecDepth 20000 in
theorem tX13_sayers {r : Int32} {h' : MH} {h : MH} {a0 : Nat} {x1 : Int32} {x2 : Int32} (hf : fX13_sayers h a0 x1 x2 = some (r, h')) : VM mX13_sayers 4 (some (.int r)) h' h [.ref a0, .int x1, .int x2] := by
  show V TT mX13_sayers 4 _ h' h 0 [.ref a0, .int x1, .int x2, Jk, Jk] []
  unfold fX13_sayers at hf
  refine V.aload_n (q := 1) rfl dX13_sayers_0 rfl rfl ?_
  refine V.iconst (q := 2) (v := 0) (by decide) dX13_sayers_1 rfl ?_
  obtain ⟨h1, eh1, hf⟩ := bd_ex hf
  refine V.putI (q := 5) (fpX13_48 rfl) rfl eh1 dX13_sayers_2 rfl ?_
  refine V.aload_n (q := 6) rfl dX13_sayers_5 rfl rfl ?_
  refine V.iload_n (q := 7) rfl dX13_sayers_6 rfl rfl ?_
  obtain ⟨_, e1, hf⟩ := bd_ex hf
  obtain ⟨v2, h2, eh2, hf⟩ := bd2_ex hf
  refine V.callV (q := 10) (ci := 13) (vs := [.int x1]) (st := []) (S2 := [.int v2]) okX13_isPaper imX13_isPaper seX13_isPaper rfl lkX13_355 (tX13_isPaper eh2) rfl (ck_is e1) (by decide) rfl (Nat.le_of_ble_eq_true rfl) (Nat.le_of_ble_eq_true rfl) rfl dX13_sayers_7 rfl rfl ?_
  refine V.if_ne (q := 13) (tgt := 19) dX13_sayers_10 rfl (by decide) (fun c => ?_) (fun c => ?_)
  · rw [if_neg c] at hf
    refine V.iload_n (q := 20) rfl dX13_sayers_19 rfl rfl ?_
    obtain ⟨v3, h3, eh3, hf⟩ := bd2_ex hf
    refine V.callS (q := 23) (vs := [.int x2]) (st := []) (S2 := [.int v3]) okX13_isVerdict stX13_isVerdict lkX13_373 (tX13_isVerdict eh3) rfl (by decide) rfl (Nat.le_of_ble_eq_true rfl) (Nat.le_of_ble_eq_true rfl) rfl dX13_sayers_20 rfl rfl ?_
    refine V.if_ne (q := 26) (tgt := 32) dX13_sayers_23 rfl (by decide) (fun c => ?_) (fun c => ?_)
    · rw [if_neg c] at hf
      refine V.iconst (q := 33) (v := 0) (by decide) dX13_sayers_32 rfl ?_
      refine V.istore_n (q := 34) (L' := [.ref a0, .int x1, .int x2, .int 0, Jk]) rfl dX13_sayers_33 rfl (by decide) rfl rfl ?_
      refine V.iconst (q := 35) (v := 0) (by decide) dX13_sayers_34 rfl ?_
      refine V.istore (q := 37) (L' := [.ref a0, .int x1, .int x2, .int 0, .int 0]) dX13_sayers_35 rfl (by decide) rfl rfl ?_
      exact tlX13_sayers_37  FU _ _ _ _ _ _ hf
    · rw [if_pos c] at hf
      refine V.aload_n (q := 27) rfl dX13_sayers_26 rfl rfl ?_
      refine V.iconst (q := 28) (v := 2) (by decide) dX13_sayers_27 rfl ?_
      obtain ⟨_, e4, hf⟩ := bd_ex hf
      obtain ⟨v5, h4, eh4, hf⟩ := bd2_ex hf
      refine V.callV (q := 31) (ci := 13) (vs := [.int 2]) (st := []) (S2 := [.int v5]) okX13_refused imX13_refused seX13_refused rfl lkX13_54 (tX13_refused eh4) rfl (ck_is e4) (by decide) rfl (Nat.le_of_ble_eq_true rfl) (Nat.le_of_ble_eq_true rfl) rfl dX13_sayers_28 rfl rfl ?_
      obtain ⟨rfl, rfl⟩ := ret_inj hf
      exact V.ret (r := some (.int v5)) trivial dX13_sayers_31
  · rw [if_pos c] at hf
    refine V.aload_n (q := 14) rfl dX13_sayers_13 rfl rfl ?_
    refine V.iconst (q := 15) (v := 1) (by decide) dX13_sayers_14 rfl ?_
    obtain ⟨_, e3, hf⟩ := bd_ex hf
    obtain ⟨v4, h3, eh3, hf⟩ := bd2_ex hf
    refine V.callV (q := 18) (ci := 13) (vs := [.int 1]) (st := []) (S2 := [.int v4]) okX13_refused imX13_refused seX13_refused rfl lkX13_54 (tX13_refused eh3) rfl (ck_is e3) (by decide) rfl (Nat.le_of_ble_eq_true rfl) (Nat.le_of_ble_eq_true rfl) rfl dX13_sayers_15 rfl rfl ?_
    obtain ⟨rfl, rfl⟩ := ret_inj hf
    exact V.ret (r := some (.int v4)) trivial dX13_sayers_18
def fX13_says (h : MH) (a0 : Nat) (x1 : Int32) (x2 : Int32) : Option (Int32 × MH) := bd (pI h a0 13 0 0) fun h1 => bd (ck h1 a0 13) fun _ => bd2 (fX13_isStamp h1 a0 x1) fun v2 h2 => if v2 = 0 then (bd (ck h2 a0 13) fun _ => bd2 (fX13_refused h2 a0 1) fun v4 h3 => some (v4, h3)) else (bd (ck h2 a0 13) fun _ => bd2 (fX13_isPaper h2 a0 x2) fun v4 h3 => if v4 = 0 then (bd (ck h3 a0 13) fun _ => bd2 (fX13_refused h3 a0 1) fun v6 h4 => some (v6, h4)) else (bd (ck h3 a0 13) fun _ => bd2 (fX13_saysNow h3 a0 x1 x2) fun v6 h4 => bd (ck h4 a0 13) fun _ => bd2 (fX13_good1 h4 a0 v6) fun v8 h5 => some (v8, h5)))
set_option maxRecDepth 20000 in
theorem tX13_says {r : Int32} {h' : MH} {h : MH} {a0 : Nat} {x1 : Int32} {x2 : Int32} (hf : fX13_says h a0 x1 x2 = some (r, h')) : VM mX13_says 4 (some (.int r)) h' h [.ref a0, .int x1, .int x2] := by
  show V TT mX13_says 4 _ h' h 0 [.ref a0, .int x1, .int x2] []
  unfold fX13_says at hf
  refine V.aload_n (q := 1) rfl dX13_says_0 rfl rfl ?_
  refine V.iconst (q := 2) (v := 0) (by decide) dX13_says_1 rfl ?_
  obtain ⟨h1, eh1, hf⟩ := bd_ex hf
  refine V.putI (q := 5) (fpX13_48 rfl) rfl eh1 dX13_says_2 rfl ?_
  refine V.aload_n (q := 6) rfl dX13_says_5 rfl rfl ?_
  refine V.iload_n (q := 7) rfl dX13_says_6 rfl rfl ?_
  obtain ⟨_, e1, hf⟩ := bd_ex hf
  obtain ⟨v2, h2, eh2, hf⟩ := bd2_ex hf
  refine V.callV (q := 10) (ci := 13) (vs := [.int x1]) (st := []) (S2 := [.int v2]) okX13_isStamp imX13_isStamp seX13_isStamp rfl lkX13_358 (tX13_isStamp eh2) rfl (ck_is e1) (by decide) rfl (Nat.le_of_ble_eq_true rfl) (Nat.le_of_ble_eq_true rfl) rfl dX13_says_7 rfl rfl ?_
  refine V.if_eq (q := 13) (tgt := 34) dX13_says_10 rfl (by decide) (fun c => ?_) (fun c => ?_)
  · rw [if_pos c] at hf
    refine V.aload_n (q := 35) rfl dX13_says_34 rfl rfl ?_
    refine V.iconst (q := 36) (v := 1) (by decide) dX13_says_35 rfl ?_
    obtain ⟨_, e3, hf⟩ := bd_ex hf
    obtain ⟨v4, h3, eh3, hf⟩ := bd2_ex hf
    refine V.callV (q := 39) (ci := 13) (vs := [.int 1]) (st := []) (S2 := [.int v4]) okX13_refused imX13_refused seX13_refused rfl lkX13_54 (tX13_refused eh3) rfl (ck_is e3) (by decide) rfl (Nat.le_of_ble_eq_true rfl) (Nat.le_of_ble_eq_true rfl) rfl dX13_says_36 rfl rfl ?_
    obtain ⟨rfl, rfl⟩ := ret_inj hf
    exact V.ret (r := some (.int v4)) trivial dX13_says_39
  · rw [if_neg c] at hf
    refine V.aload_n (q := 14) rfl dX13_says_13 rfl rfl ?_
    refine V.iload_n (q := 15) rfl dX13_says_14 rfl rfl ?_
    obtain ⟨_, e3, hf⟩ := bd_ex hf
    obtain ⟨v4, h3, eh3, hf⟩ := bd2_ex hf
    refine V.callV (q := 18) (ci := 13) (vs := [.int x2]) (st := []) (S2 := [.int v4]) okX13_isPaper imX13_isPaper seX13_isPaper rfl lkX13_355 (tX13_isPaper eh3) rfl (ck_is e3) (by decide) rfl (Nat.le_of_ble_eq_true rfl) (Nat.le_of_ble_eq_true rfl) rfl dX13_says_15 rfl rfl ?_
    refine V.if_eq (q := 21) (tgt := 34) dX13_says_18 rfl (by decide) (fun c => ?_) (fun c => ?_)
    · rw [if_pos c] at hf
      refine V.aload_n (q := 35) rfl dX13_says_34 rfl rfl ?_
      refine V.iconst (q := 36) (v := 1) (by decide) dX13_says_35 rfl ?_
      obtain ⟨_, e5, hf⟩ := bd_ex hf
      obtain ⟨v6, h4, eh4, hf⟩ := bd2_ex hf
      refine V.callV (q := 39) (ci := 13) (vs := [.int 1]) (st := []) (S2 := [.int v6]) okX13_refused imX13_refused seX13_refused rfl lkX13_54 (tX13_refused eh4) rfl (ck_is e5) (by decide) rfl (Nat.le_of_ble_eq_true rfl) (Nat.le_of_ble_eq_true rfl) rfl dX13_says_36 rfl rfl ?_
      obtain ⟨rfl, rfl⟩ := ret_inj hf
      exact V.ret (r := some (.int v6)) trivial dX13_says_39
    · rw [if_neg c] at hf
      refine V.aload_n (q := 22) rfl dX13_says_21 rfl rfl ?_
      refine V.aload_n (q := 23) rfl dX13_says_22 rfl rfl ?_
      refine V.iload_n (q := 24) rfl dX13_says_23 rfl rfl ?_
      refine V.iload_n (q := 25) rfl dX13_says_24 rfl rfl ?_
      obtain ⟨_, e5, hf⟩ := bd_ex hf
      obtain ⟨v6, h4, eh4, hf⟩ := bd2_ex hf
      refine V.callV (q := 28) (ci := 13) (vs := [.int x1, .int x2]) (st := [.ref a0]) (S2 := [.int v6, .ref a0]) okX13_saysNow imX13_saysNow seX13_saysNow rfl lkX13_367 (tX13_saysNow eh4) rfl (ck_is e5) (by decide) rfl (Nat.le_of_ble_eq_true rfl) (Nat.le_of_ble_eq_true rfl) rfl dX13_says_25 rfl rfl ?_
      obtain ⟨_, e7, hf⟩ := bd_ex hf
      obtain ⟨v8, h5, eh5, hf⟩ := bd2_ex hf
      refine V.callV (q := 31) (ci := 13) (vs := [.int v6]) (st := []) (S2 := [.int v8]) okX13_good1 imX13_good1 seX13_good1 rfl lkX13_58 (tX13_good1 eh5) rfl (ck_is e7) (by decide) rfl (Nat.le_of_ble_eq_true rfl) (Nat.le_of_ble_eq_true rfl) rfl dX13_says_28 rfl rfl ?_
      refine V.goto (q := 39) dX13_says_31 (by decide) ?_
      obtain ⟨rfl, rfl⟩ := ret_inj hf
      exact V.ret (r := some (.int v8)) trivial dX13_says_39
def fX13_saysOf (h : MH) (a0 : Nat) (x1 : Int32) (x2 : Int32) : Option (Int32 × MH) := bd (pI h a0 13 0 0) fun h1 => bd (ck h1 a0 13) fun _ => bd2 (fX13_isStamp h1 a0 x1) fun v2 h2 => if v2 = 0 then (bd (ck h2 a0 13) fun _ => bd2 (fX13_refused h2 a0 1) fun v4 h3 => some (v4, h3)) else (if x2 < 0 then (bd (ck h2 a0 13) fun _ => bd2 (fX13_refused h2 a0 1) fun v4 h3 => some (v4, h3)) else (bd (ck h2 a0 13) fun _ => bd2 (fX13_allMarks h2 a0 ) fun v4 h3 => if v4 ≤ x2 then (bd (ck h3 a0 13) fun _ => bd2 (fX13_refused h3 a0 1) fun v6 h4 => some (v6, h4)) else (bd (ck h3 a0 13) fun _ => bd2 (fX13_saysBy h3 a0 x1 x2) fun v6 h4 => bd (ck h4 a0 13) fun _ => bd2 (fX13_good1 h4 a0 v6) fun v8 h5 => some (v8, h5))))
set_option maxRecDepth 20000 in
theorem tX13_saysOf {r : Int32} {h' : MH} {h : MH} {a0 : Nat} {x1 : Int32} {x2 : Int32} (hf : fX13_saysOf h a0 x1 x2 = some (r, h')) : VM mX13_saysOf 3 (some (.int r)) h' h [.ref a0, .int x1, .int x2] := by
  show V TT mX13_saysOf 3 _ h' h 0 [.ref a0, .int x1, .int x2] []
  unfold fX13_saysOf at hf
  refine V.aload_n (q := 1) rfl dX13_saysOf_0 rfl rfl ?_
  refine V.iconst (q := 2) (v := 0) (by decide) dX13_saysOf_1 rfl ?_
  obtain ⟨h1, eh1, hf⟩ := bd_ex hf
  refine V.putI (q := 5) (fpX13_48 rfl) rfl eh1 dX13_saysOf_2 rfl ?_
  refine V.aload_n (q := 6) rfl dX13_saysOf_5 rfl rfl ?_
  refine V.iload_n (q := 7) rfl dX13_saysOf_6 rfl rfl ?_
  obtain ⟨_, e1, hf⟩ := bd_ex hf
  obtain ⟨v2, h2, eh2, hf⟩ := bd2_ex hf
  refine V.callV (q := 10) (ci := 13) (vs := [.int x1]) (st := []) (S2 := [.int v2]) okX13_isStamp imX13_isStamp seX13_isStamp rfl lkX13_358 (tX13_isStamp eh2) rfl (ck_is e1) (by decide) rfl (Nat.le_of_ble_eq_true rfl) (Nat.le_of_ble_eq_true rfl) rfl dX13_saysOf_7 rfl rfl ?_
  refine V.if_eq (q := 13) (tgt := 38) dX13_saysOf_10 rfl (by decide) (fun c => ?_) (fun c => ?_)
  · rw [if_pos c] at hf
    refine V.aload_n (q := 39) rfl dX13_saysOf_38 rfl rfl ?_
    refine V.iconst (q := 40) (v := 1) (by decide) dX13_saysOf_39 rfl ?_
    obtain ⟨_, e3, hf⟩ := bd_ex hf
    obtain ⟨v4, h3, eh3, hf⟩ := bd2_ex hf
    refine V.callV (q := 43) (ci := 13) (vs := [.int 1]) (st := []) (S2 := [.int v4]) okX13_refused imX13_refused seX13_refused rfl lkX13_54 (tX13_refused eh3) rfl (ck_is e3) (by decide) rfl (Nat.le_of_ble_eq_true rfl) (Nat.le_of_ble_eq_true rfl) rfl dX13_saysOf_40 rfl rfl ?_
    obtain ⟨rfl, rfl⟩ := ret_inj hf
    exact V.ret (r := some (.int v4)) trivial dX13_saysOf_43
  · rw [if_neg c] at hf
    refine V.iload_n (q := 14) rfl dX13_saysOf_13 rfl rfl ?_
    refine V.if_lt (q := 17) (tgt := 38) dX13_saysOf_14 rfl (by decide) (fun c => ?_) (fun c => ?_)
    · rw [if_pos c] at hf
      refine V.aload_n (q := 39) rfl dX13_saysOf_38 rfl rfl ?_
      refine V.iconst (q := 40) (v := 1) (by decide) dX13_saysOf_39 rfl ?_
      obtain ⟨_, e3, hf⟩ := bd_ex hf
      obtain ⟨v4, h3, eh3, hf⟩ := bd2_ex hf
      refine V.callV (q := 43) (ci := 13) (vs := [.int 1]) (st := []) (S2 := [.int v4]) okX13_refused imX13_refused seX13_refused rfl lkX13_54 (tX13_refused eh3) rfl (ck_is e3) (by decide) rfl (Nat.le_of_ble_eq_true rfl) (Nat.le_of_ble_eq_true rfl) rfl dX13_saysOf_40 rfl rfl ?_
      obtain ⟨rfl, rfl⟩ := ret_inj hf
      exact V.ret (r := some (.int v4)) trivial dX13_saysOf_43
    · rw [if_neg c] at hf
      refine V.iload_n (q := 18) rfl dX13_saysOf_17 rfl rfl ?_
      refine V.aload_n (q := 19) rfl dX13_saysOf_18 rfl rfl ?_
      obtain ⟨_, e3, hf⟩ := bd_ex hf
      obtain ⟨v4, h3, eh3, hf⟩ := bd2_ex hf
      refine V.callV (q := 22) (ci := 13) (vs := []) (st := [.int x2]) (S2 := [.int v4, .int x2]) okX13_allMarks imX13_allMarks seX13_allMarks rfl lkX13_370 (tX13_allMarks eh3) rfl (ck_is e3) (by decide) rfl (Nat.le_of_ble_eq_true rfl) (Nat.le_of_ble_eq_true rfl) rfl dX13_saysOf_19 rfl rfl ?_
      refine V.icmp_ge (q := 25) (tgt := 38) dX13_saysOf_22 rfl (by decide) (fun c => ?_) (fun c => ?_)
      · rw [if_pos c] at hf
        refine V.aload_n (q := 39) rfl dX13_saysOf_38 rfl rfl ?_
        refine V.iconst (q := 40) (v := 1) (by decide) dX13_saysOf_39 rfl ?_
        obtain ⟨_, e5, hf⟩ := bd_ex hf
        obtain ⟨v6, h4, eh4, hf⟩ := bd2_ex hf
        refine V.callV (q := 43) (ci := 13) (vs := [.int 1]) (st := []) (S2 := [.int v6]) okX13_refused imX13_refused seX13_refused rfl lkX13_54 (tX13_refused eh4) rfl (ck_is e5) (by decide) rfl (Nat.le_of_ble_eq_true rfl) (Nat.le_of_ble_eq_true rfl) rfl dX13_saysOf_40 rfl rfl ?_
        obtain ⟨rfl, rfl⟩ := ret_inj hf
        exact V.ret (r := some (.int v6)) trivial dX13_saysOf_43
      · rw [if_neg c] at hf
        refine V.aload_n (q := 26) rfl dX13_saysOf_25 rfl rfl ?_
        refine V.aload_n (q := 27) rfl dX13_saysOf_26 rfl rfl ?_
        refine V.iload_n (q := 28) rfl dX13_saysOf_27 rfl rfl ?_
        refine V.iload_n (q := 29) rfl dX13_saysOf_28 rfl rfl ?_
        obtain ⟨_, e5, hf⟩ := bd_ex hf
        obtain ⟨v6, h4, eh4, hf⟩ := bd2_ex hf
        refine V.callV (q := 32) (ci := 13) (vs := [.int x1, .int x2]) (st := [.ref a0]) (S2 := [.int v6, .ref a0]) okX13_saysBy imX13_saysBy seX13_saysBy rfl lkX13_349 (tX13_saysBy eh4) rfl (ck_is e5) (by decide) rfl (Nat.le_of_ble_eq_true rfl) (Nat.le_of_ble_eq_true rfl) rfl dX13_saysOf_29 rfl rfl ?_
        obtain ⟨_, e7, hf⟩ := bd_ex hf
        obtain ⟨v8, h5, eh5, hf⟩ := bd2_ex hf
        refine V.callV (q := 35) (ci := 13) (vs := [.int v6]) (st := []) (S2 := [.int v8]) okX13_good1 imX13_good1 seX13_good1 rfl lkX13_58 (tX13_good1 eh5) rfl (ck_is e7) (by decide) rfl (Nat.le_of_ble_eq_true rfl) (Nat.le_of_ble_eq_true rfl) rfl dX13_saysOf_32 rfl rfl ?_
        refine V.goto (q := 43) dX13_saysOf_35 (by decide) ?_
        obtain ⟨rfl, rfl⟩ := ret_inj hf
        exact V.ret (r := some (.int v8)) trivial dX13_saysOf_43
def bX13_settled_25 (k25 : MH → Nat → Int32 → Int32 → Option (Int32 × MH)) (h : MH) (a0 : Nat) (x1 : Int32) (x2 : Int32) : Option (Int32 × MH) := if 20 < x2 then (bd (ck h a0 13) fun _ => bd2 (fX13_good1 h a0 (-2)) fun v2 h1 => some (v2, h1)) else (bd (ck h a0 13) fun _ => bd2 (fX13_month h a0 x1) fun v2 h1 => if v2 = x1 then (bd (ck h1 a0 13) fun _ => bd2 (fX13_good1 h1 a0 x2) fun v4 h2 => some (v4, h2)) else (bd (ck h1 a0 13) fun _ => bd2 (fX13_month h1 a0 x1) fun v4 h2 => bd (some (x2 + 1)) fun v5 => k25 h2 a0 v4 v5))
set_option maxRecDepth 20000 in
theorem tX13_settled_25 {r : Int32} {h' : MH} (k25 : MH → Nat → Int32 → Int32 → Option (Int32 × MH)) (hk25 : ∀ (h : MH) (a0 : Nat) (x1 : Int32) (x2 : Int32), k25 h a0 x1 x2 = some (r, h') → V TT mX13_settled 4 (some (.int r)) h' h 25 [.ref a0, .int x1, .int x2] [])  {h : MH} {a0 : Nat} {x1 : Int32} {x2 : Int32} (hf : bX13_settled_25 k25 h a0 x1 x2 = some (r, h')) : V TT mX13_settled 4 (some (.int r)) h' h 25 [.ref a0, .int x1, .int x2] [] := by
  unfold bX13_settled_25 at hf
  refine V.iload_n (q := 26) rfl dX13_settled_25 rfl rfl ?_
  refine V.bipush (q := 28) (v := 20) (by decide) dX13_settled_26 rfl ?_
  refine V.icmp_gt (q := 31) (tgt := 58) dX13_settled_28 rfl (by decide) (fun c => ?_) (fun c => ?_)
  · rw [if_pos c] at hf
    refine V.aload_n (q := 59) rfl dX13_settled_58 rfl rfl ?_
    refine V.bipush (q := 61) (v := (-2)) (by decide) dX13_settled_59 rfl ?_
    obtain ⟨_, e1, hf⟩ := bd_ex hf
    obtain ⟨v2, h1, eh1, hf⟩ := bd2_ex hf
    refine V.callV (q := 64) (ci := 13) (vs := [.int (-2)]) (st := []) (S2 := [.int v2]) okX13_good1 imX13_good1 seX13_good1 rfl lkX13_58 (tX13_good1 eh1) rfl (ck_is e1) (by decide) rfl (Nat.le_of_ble_eq_true rfl) (Nat.le_of_ble_eq_true rfl) rfl dX13_settled_61 rfl rfl ?_
    obtain ⟨rfl, rfl⟩ := ret_inj hf
    exact V.ret (r := some (.int v2)) trivial dX13_settled_64
  · rw [if_neg c] at hf
    refine V.aload_n (q := 32) rfl dX13_settled_31 rfl rfl ?_
    refine V.iload_n (q := 33) rfl dX13_settled_32 rfl rfl ?_
    obtain ⟨_, e1, hf⟩ := bd_ex hf
    obtain ⟨v2, h1, eh1, hf⟩ := bd2_ex hf
    refine V.callV (q := 36) (ci := 13) (vs := [.int x1]) (st := []) (S2 := [.int v2]) okX13_month imX13_month seX13_month rfl lkX13_444 (tX13_month eh1) rfl (ck_is e1) (by decide) rfl (Nat.le_of_ble_eq_true rfl) (Nat.le_of_ble_eq_true rfl) rfl dX13_settled_33 rfl rfl ?_
    refine V.iload_n (q := 37) rfl dX13_settled_36 rfl rfl ?_
    refine V.icmp_ne (q := 40) (tgt := 46) dX13_settled_37 rfl (by decide) (fun c => ?_) (fun c => ?_)
    · rw [if_neg c] at hf
      refine V.aload_n (q := 47) rfl dX13_settled_46 rfl rfl ?_
      refine V.iload_n (q := 48) rfl dX13_settled_47 rfl rfl ?_
      obtain ⟨_, e3, hf⟩ := bd_ex hf
      obtain ⟨v4, h2, eh2, hf⟩ := bd2_ex hf
      refine V.callV (q := 51) (ci := 13) (vs := [.int x1]) (st := []) (S2 := [.int v4]) okX13_month imX13_month seX13_month rfl lkX13_444 (tX13_month eh2) rfl (ck_is e3) (by decide) rfl (Nat.le_of_ble_eq_true rfl) (Nat.le_of_ble_eq_true rfl) rfl dX13_settled_48 rfl rfl ?_
      refine V.istore_n (q := 52) (L' := [.ref a0, .int v4, .int x2]) rfl dX13_settled_51 rfl (by decide) rfl rfl ?_
      obtain ⟨v5, ev5, hf⟩ := bd_ex hf
      refine V.iinc (q := 55) (v := v5) (L' := [.ref a0, .int v4, .int v5]) dX13_settled_52 rfl rfl (Option.some.inj ev5) (by decide) rfl rfl ?_
      refine V.goto (q := 25) dX13_settled_55 (by decide) ?_
      exact hk25 _ _ _ _ hf
    · rw [if_pos c] at hf
      refine V.aload_n (q := 41) rfl dX13_settled_40 rfl rfl ?_
      refine V.iload_n (q := 42) rfl dX13_settled_41 rfl rfl ?_
      obtain ⟨_, e3, hf⟩ := bd_ex hf
      obtain ⟨v4, h2, eh2, hf⟩ := bd2_ex hf
      refine V.callV (q := 45) (ci := 13) (vs := [.int x2]) (st := []) (S2 := [.int v4]) okX13_good1 imX13_good1 seX13_good1 rfl lkX13_58 (tX13_good1 eh2) rfl (ck_is e3) (by decide) rfl (Nat.le_of_ble_eq_true rfl) (Nat.le_of_ble_eq_true rfl) rfl dX13_settled_42 rfl rfl ?_
      obtain ⟨rfl, rfl⟩ := ret_inj hf
      exact V.ret (r := some (.int v4)) trivial dX13_settled_45
def fX13_settled_25  : Nat → MH → Nat → Int32 → Int32 → Option (Int32 × MH)
  | 0 => fun _ _ _ _ => none
  | n + 1 => bX13_settled_25  (fX13_settled_25  n)
theorem tlX13_settled_25 {r : Int32} {h' : MH}   : ∀ (n : Nat) (h : MH) (a0 : Nat) (x1 : Int32) (x2 : Int32), fX13_settled_25  n h a0 x1 x2 = some (r, h') → V TT mX13_settled 4 (some (.int r)) h' h 25 [.ref a0, .int x1, .int x2] [] := by
  intro n
  induction n with
  | zero => intro h a0 x1 x2 hf; exact nomatch (show (none : Option (Int32 × MH)) = some (r, h') from hf)
  | succ n ih => intro h a0 x1 x2 hf; exact tX13_settled_25  (fX13_settled_25  n) ih hf
def fX13_settled (h : MH) (a0 : Nat) : Option (Int32 × MH) := bd (pI h a0 13 0 0) fun h1 => bd (gZ h1 a0 13 3) fun z1 => if z1 = true then (bd (ck h1 a0 13) fun _ => bd2 (fX13_refused h1 a0 1) fun v5 h3 => some (v5, h3)) else (bd (ck h1 a0 13) fun _ => bd2 (fX13_allStamps h1 a0 ) fun v3 h2 => fX13_settled_25 FU h2 a0 v3 0)
set_option maxRecDepth 20000 in
theorem tX13_settled {r : Int32} {h' : MH} {h : MH} {a0 : Nat} (hf : fX13_settled h a0 = some (r, h')) : VM mX13_settled 4 (some (.int r)) h' h [.ref a0] := by
  show V TT mX13_settled 4 _ h' h 0 [.ref a0, Jk, Jk] []
  unfold fX13_settled at hf
  refine V.aload_n (q := 1) rfl dX13_settled_0 rfl rfl ?_
  refine V.iconst (q := 2) (v := 0) (by decide) dX13_settled_1 rfl ?_
  obtain ⟨h1, eh1, hf⟩ := bd_ex hf
  refine V.putI (q := 5) (fpX13_48 rfl) rfl eh1 dX13_settled_2 rfl ?_
  refine V.aload_n (q := 6) rfl dX13_settled_5 rfl rfl ?_
  obtain ⟨z1, ez1, hf⟩ := bd_ex hf
  refine V.getZN (q := 9) (q2 := 12) (tgt := 18) flX13_338 rfl ez1 dX13_settled_6 rfl dX13_settled_9 rfl (by decide) (fun c => ?_) (fun c => ?_)
  · rw [if_neg c] at hf
    refine V.aload_n (q := 19) rfl dX13_settled_18 rfl rfl ?_
    obtain ⟨_, e2, hf⟩ := bd_ex hf
    obtain ⟨v3, h2, eh2, hf⟩ := bd2_ex hf
    refine V.callV (q := 22) (ci := 13) (vs := []) (st := []) (S2 := [.int v3]) okX13_allStamps imX13_allStamps seX13_allStamps rfl lkX13_441 (tX13_allStamps eh2) rfl (ck_is e2) (by decide) rfl (Nat.le_of_ble_eq_true rfl) (Nat.le_of_ble_eq_true rfl) rfl dX13_settled_19 rfl rfl ?_
    refine V.istore_n (q := 23) (L' := [.ref a0, .int v3, Jk]) rfl dX13_settled_22 rfl (by decide) rfl rfl ?_
    refine V.iconst (q := 24) (v := 0) (by decide) dX13_settled_23 rfl ?_
    refine V.istore_n (q := 25) (L' := [.ref a0, .int v3, .int 0]) rfl dX13_settled_24 rfl (by decide) rfl rfl ?_
    exact tlX13_settled_25  FU _ _ _ _ hf
  · rw [if_pos c] at hf
    refine V.aload_n (q := 13) rfl dX13_settled_12 rfl rfl ?_
    refine V.iconst (q := 14) (v := 1) (by decide) dX13_settled_13 rfl ?_
    obtain ⟨_, e4, hf⟩ := bd_ex hf
    obtain ⟨v5, h3, eh3, hf⟩ := bd2_ex hf
    refine V.callV (q := 17) (ci := 13) (vs := [.int 1]) (st := []) (S2 := [.int v5]) okX13_refused imX13_refused seX13_refused rfl lkX13_54 (tX13_refused eh3) rfl (ck_is e4) (by decide) rfl (Nat.le_of_ble_eq_true rfl) (Nat.le_of_ble_eq_true rfl) rfl dX13_settled_14 rfl rfl ?_
    obtain ⟨rfl, rfl⟩ := ret_inj hf
    exact V.ret (r := some (.int v5)) trivial dX13_settled_17
def fX13_size (h : MH) (a0 : Nat) (x1 : Int32) : Option (Int32 × MH) := bd (pI h a0 13 0 0) fun h1 => if x1 = 11 then (bd (gI h1 a0 13 6) fun v1 => some (v1, h1)) else (bd2 (fX13_in h1 x1 0 10) fun v1 h2 => if v1 = 0 then (some ((-1), h2)) else (bd (gZ h2 a0 13 3) fun z2 => if z2 = true then (some (0, h2)) else (if x1 = 0 then (bd (gR h2 a0 13 3) fun b3 => bd (gI h2 b3 12 0) fun v4 => some (v4, h2)) else (if x1 = 1 then (bd (gR h2 a0 13 3) fun b3 => bd (gI h2 b3 12 1) fun v4 => some (v4, h2)) else (if x1 = 2 then (bd (gR h2 a0 13 3) fun b3 => bd (gI h2 b3 12 2) fun v4 => some (v4, h2)) else (if x1 = 3 then (bd (gR h2 a0 13 3) fun b3 => bd (gI h2 b3 12 3) fun v4 => some (v4, h2)) else (if x1 = 4 then (bd (gR h2 a0 13 3) fun b3 => bd (gI h2 b3 12 4) fun v4 => some (v4, h2)) else (if x1 = 5 then (bd (gR h2 a0 13 3) fun b3 => bd (gI h2 b3 12 5) fun v4 => some (v4, h2)) else (if x1 = 6 then (bd (gR h2 a0 13 3) fun b3 => bd (gI h2 b3 12 6) fun v4 => some (v4, h2)) else (if x1 = 7 then (bd (gR h2 a0 13 3) fun b3 => bd (gI h2 b3 12 7) fun v4 => some (v4, h2)) else (if x1 = 8 then (bd (ck h2 a0 13) fun _ => bd2 (fX13_pressedAll h2 a0 ) fun v4 h3 => some (v4, h3)) else (if x1 = 9 then (bd (gI h2 a0 13 18) fun v3 => some (v3, h2)) else (bd (gI h2 a0 13 19) fun v3 => some (v3, h2))))))))))))))
set_option maxRecDepth 20000 in
theorem tX13_size {r : Int32} {h' : MH} {h : MH} {a0 : Nat} {x1 : Int32} (hf : fX13_size h a0 x1 = some (r, h')) : VM mX13_size 1 (some (.int r)) h' h [.ref a0, .int x1] := by
  show V TT mX13_size 1 _ h' h 0 [.ref a0, .int x1] []
  unfold fX13_size at hf
  refine V.aload_n (q := 1) rfl dX13_size_0 rfl rfl ?_
  refine V.iconst (q := 2) (v := 0) (by decide) dX13_size_1 rfl ?_
  obtain ⟨h1, eh1, hf⟩ := bd_ex hf
  refine V.putI (q := 5) (fpX13_48 rfl) rfl eh1 dX13_size_2 rfl ?_
  refine V.iload_n (q := 6) rfl dX13_size_5 rfl rfl ?_
  refine V.bipush (q := 8) (v := 11) (by decide) dX13_size_6 rfl ?_
  refine V.icmp_ne (q := 11) (tgt := 16) dX13_size_8 rfl (by decide) (fun c => ?_) (fun c => ?_)
  · rw [if_neg c] at hf
    refine V.iload_n (q := 17) rfl dX13_size_16 rfl rfl ?_
    refine V.iconst (q := 18) (v := 0) (by decide) dX13_size_17 rfl ?_
    refine V.bipush (q := 20) (v := 10) (by decide) dX13_size_18 rfl ?_
    obtain ⟨v1, h2, eh2, hf⟩ := bd2_ex hf
    refine V.callS (q := 23) (vs := [.int x1, .int 0, .int 10]) (st := []) (S2 := [.int v1]) okX13_in stX13_in lkX13_127 (tX13_in eh2) rfl (by decide) rfl (Nat.le_of_ble_eq_true rfl) (Nat.le_of_ble_eq_true rfl) rfl dX13_size_20 rfl rfl ?_
    refine V.if_ne (q := 26) (tgt := 28) dX13_size_23 rfl (by decide) (fun c => ?_) (fun c => ?_)
    · rw [if_neg c] at hf
      refine V.aload_n (q := 29) rfl dX13_size_28 rfl rfl ?_
      obtain ⟨z2, ez2, hf⟩ := bd_ex hf
      refine V.getZN (q := 32) (q2 := 35) (tgt := 37) flX13_338 rfl ez2 dX13_size_29 rfl dX13_size_32 rfl (by decide) (fun c => ?_) (fun c => ?_)
      · rw [if_neg c] at hf
        refine V.iload_n (q := 38) rfl dX13_size_37 rfl rfl ?_
        by_cases c0 : x1 = 0
        · rw [if_pos c0] at hf
          refine V.topI c0 ?_
          refine V.tableIn (q := 92) (off := 54) dX13_size_38 (by decide) (by decide) (by decide) (by decide) ?_
          refine V.aload_n (q := 93) rfl dX13_size_92 rfl rfl ?_
          obtain ⟨b3, eb3, hf⟩ := bd_ex hf
          refine V.getR (q := 96) flX13_338 rfl eb3 dX13_size_93 rfl ?_
          obtain ⟨v4, ev4, hf⟩ := bd_ex hf
          refine V.getI (q := 99) flX13_161 rfl ev4 dX13_size_96 rfl ?_
          obtain ⟨rfl, rfl⟩ := ret_inj hf
          exact V.ret (r := some (.int v4)) trivial dX13_size_99
        rw [if_neg c0] at hf
        by_cases c1 : x1 = 1
        · rw [if_pos c1] at hf
          refine V.topI c1 ?_
          refine V.tableIn (q := 100) (off := 62) dX13_size_38 (by decide) (by decide) (by decide) (by decide) ?_
          refine V.aload_n (q := 101) rfl dX13_size_100 rfl rfl ?_
          obtain ⟨b3, eb3, hf⟩ := bd_ex hf
          refine V.getR (q := 104) flX13_338 rfl eb3 dX13_size_101 rfl ?_
          obtain ⟨v4, ev4, hf⟩ := bd_ex hf
          refine V.getI (q := 107) flX13_238 rfl ev4 dX13_size_104 rfl ?_
          obtain ⟨rfl, rfl⟩ := ret_inj hf
          exact V.ret (r := some (.int v4)) trivial dX13_size_107
        rw [if_neg c1] at hf
        by_cases c2 : x1 = 2
        · rw [if_pos c2] at hf
          refine V.topI c2 ?_
          refine V.tableIn (q := 108) (off := 70) dX13_size_38 (by decide) (by decide) (by decide) (by decide) ?_
          refine V.aload_n (q := 109) rfl dX13_size_108 rfl rfl ?_
          obtain ⟨b3, eb3, hf⟩ := bd_ex hf
          refine V.getR (q := 112) flX13_338 rfl eb3 dX13_size_109 rfl ?_
          obtain ⟨v4, ev4, hf⟩ := bd_ex hf
          refine V.getI (q := 115) flX13_206 rfl ev4 dX13_size_112 rfl ?_
          obtain ⟨rfl, rfl⟩ := ret_inj hf
          exact V.ret (r := some (.int v4)) trivial dX13_size_115
        rw [if_neg c2] at hf
        by_cases c3 : x1 = 3
        · rw [if_pos c3] at hf
          refine V.topI c3 ?_
          refine V.tableIn (q := 116) (off := 78) dX13_size_38 (by decide) (by decide) (by decide) (by decide) ?_
          refine V.aload_n (q := 117) rfl dX13_size_116 rfl rfl ?_
          obtain ⟨b3, eb3, hf⟩ := bd_ex hf
          refine V.getR (q := 120) flX13_338 rfl eb3 dX13_size_117 rfl ?_
          obtain ⟨v4, ev4, hf⟩ := bd_ex hf
          refine V.getI (q := 123) flX13_262 rfl ev4 dX13_size_120 rfl ?_
          obtain ⟨rfl, rfl⟩ := ret_inj hf
          exact V.ret (r := some (.int v4)) trivial dX13_size_123
        rw [if_neg c3] at hf
        by_cases c4 : x1 = 4
        · rw [if_pos c4] at hf
          refine V.topI c4 ?_
          refine V.tableIn (q := 124) (off := 86) dX13_size_38 (by decide) (by decide) (by decide) (by decide) ?_
          refine V.aload_n (q := 125) rfl dX13_size_124 rfl rfl ?_
          obtain ⟨b3, eb3, hf⟩ := bd_ex hf
          refine V.getR (q := 128) flX13_338 rfl eb3 dX13_size_125 rfl ?_
          obtain ⟨v4, ev4, hf⟩ := bd_ex hf
          refine V.getI (q := 131) flX13_280 rfl ev4 dX13_size_128 rfl ?_
          obtain ⟨rfl, rfl⟩ := ret_inj hf
          exact V.ret (r := some (.int v4)) trivial dX13_size_131
        rw [if_neg c4] at hf
        by_cases c5 : x1 = 5
        · rw [if_pos c5] at hf
          refine V.topI c5 ?_
          refine V.tableIn (q := 132) (off := 94) dX13_size_38 (by decide) (by decide) (by decide) (by decide) ?_
          refine V.aload_n (q := 133) rfl dX13_size_132 rfl rfl ?_
          obtain ⟨b3, eb3, hf⟩ := bd_ex hf
          refine V.getR (q := 136) flX13_338 rfl eb3 dX13_size_133 rfl ?_
          obtain ⟨v4, ev4, hf⟩ := bd_ex hf
          refine V.getI (q := 139) flX13_298 rfl ev4 dX13_size_136 rfl ?_
          obtain ⟨rfl, rfl⟩ := ret_inj hf
          exact V.ret (r := some (.int v4)) trivial dX13_size_139
        rw [if_neg c5] at hf
        by_cases c6 : x1 = 6
        · rw [if_pos c6] at hf
          refine V.topI c6 ?_
          refine V.tableIn (q := 140) (off := 102) dX13_size_38 (by decide) (by decide) (by decide) (by decide) ?_
          refine V.aload_n (q := 141) rfl dX13_size_140 rfl rfl ?_
          obtain ⟨b3, eb3, hf⟩ := bd_ex hf
          refine V.getR (q := 144) flX13_338 rfl eb3 dX13_size_141 rfl ?_
          obtain ⟨v4, ev4, hf⟩ := bd_ex hf
          refine V.getI (q := 147) flX13_317 rfl ev4 dX13_size_144 rfl ?_
          obtain ⟨rfl, rfl⟩ := ret_inj hf
          exact V.ret (r := some (.int v4)) trivial dX13_size_147
        rw [if_neg c6] at hf
        by_cases c7 : x1 = 7
        · rw [if_pos c7] at hf
          refine V.topI c7 ?_
          refine V.tableIn (q := 148) (off := 110) dX13_size_38 (by decide) (by decide) (by decide) (by decide) ?_
          refine V.aload_n (q := 149) rfl dX13_size_148 rfl rfl ?_
          obtain ⟨b3, eb3, hf⟩ := bd_ex hf
          refine V.getR (q := 152) flX13_338 rfl eb3 dX13_size_149 rfl ?_
          obtain ⟨v4, ev4, hf⟩ := bd_ex hf
          refine V.getI (q := 155) flX13_320 rfl ev4 dX13_size_152 rfl ?_
          obtain ⟨rfl, rfl⟩ := ret_inj hf
          exact V.ret (r := some (.int v4)) trivial dX13_size_155
        rw [if_neg c7] at hf
        by_cases c8 : x1 = 8
        · rw [if_pos c8] at hf
          refine V.topI c8 ?_
          refine V.tableIn (q := 156) (off := 118) dX13_size_38 (by decide) (by decide) (by decide) (by decide) ?_
          refine V.aload_n (q := 157) rfl dX13_size_156 rfl rfl ?_
          obtain ⟨_, e3, hf⟩ := bd_ex hf
          obtain ⟨v4, h3, eh3, hf⟩ := bd2_ex hf
          refine V.callV (q := 160) (ci := 13) (vs := []) (st := []) (S2 := [.int v4]) okX13_pressedAll imX13_pressedAll seX13_pressedAll rfl lkX13_493 (tX13_pressedAll eh3) rfl (ck_is e3) (by decide) rfl (Nat.le_of_ble_eq_true rfl) (Nat.le_of_ble_eq_true rfl) rfl dX13_size_157 rfl rfl ?_
          obtain ⟨rfl, rfl⟩ := ret_inj hf
          exact V.ret (r := some (.int v4)) trivial dX13_size_160
        rw [if_neg c8] at hf
        by_cases c9 : x1 = 9
        · rw [if_pos c9] at hf
          refine V.topI c9 ?_
          refine V.tableIn (q := 161) (off := 123) dX13_size_38 (by decide) (by decide) (by decide) (by decide) ?_
          refine V.aload_n (q := 162) rfl dX13_size_161 rfl rfl ?_
          obtain ⟨v3, ev3, hf⟩ := bd_ex hf
          refine V.getI (q := 165) flX13_340 rfl ev3 dX13_size_162 rfl ?_
          obtain ⟨rfl, rfl⟩ := ret_inj hf
          exact V.ret (r := some (.int v3)) trivial dX13_size_165
        rw [if_neg c9] at hf
        have hout : x1.toInt < 0 ∨ 9 < x1.toInt := tsw_out (lo := 0) (n := 9) (fun k h1 h2 => by
          have : k = 0 ∨ k = 1 ∨ k = 2 ∨ k = 3 ∨ k = 4 ∨ k = 5 ∨ k = 6 ∨ k = 7 ∨ k = 8 ∨ k = 9 := by omega
          rcases this with rfl | rfl | rfl | rfl | rfl | rfl | rfl | rfl | rfl | rfl
          · exact c0
          · exact c1
          · exact c2
          · exact c3
          · exact c4
          · exact c5
          · exact c6
          · exact c7
          · exact c8
          · exact c9) (by decide)
        refine V.tableOut (q := 166) dX13_size_38 hout (by decide) ?_
        refine V.aload_n (q := 167) rfl dX13_size_166 rfl rfl ?_
        obtain ⟨v3, ev3, hf⟩ := bd_ex hf
        refine V.getI (q := 170) flX13_343 rfl ev3 dX13_size_167 rfl ?_
        obtain ⟨rfl, rfl⟩ := ret_inj hf
        exact V.ret (r := some (.int v3)) trivial dX13_size_170
      · rw [if_pos c] at hf
        refine V.iconst (q := 36) (v := 0) (by decide) dX13_size_35 rfl ?_
        obtain ⟨rfl, rfl⟩ := ret_inj hf
        exact V.ret (r := some (.int 0)) trivial dX13_size_36
    · rw [if_pos c] at hf
      refine V.iconst (q := 27) (v := (-1)) (by decide) dX13_size_26 rfl ?_
      obtain ⟨rfl, rfl⟩ := ret_inj hf
      exact V.ret (r := some (.int (-1))) trivial dX13_size_27
  · rw [if_pos c] at hf
    refine V.aload_n (q := 12) rfl dX13_size_11 rfl rfl ?_
    obtain ⟨v1, ev1, hf⟩ := bd_ex hf
    refine V.getI (q := 15) flX13_331 rfl ev1 dX13_size_12 rfl ?_
    obtain ⟨rfl, rfl⟩ := ret_inj hf
    exact V.ret (r := some (.int v1)) trivial dX13_size_15
def bX13_stamp_33 (k33 : MH → Nat → Int32 → Int32 → Int32 → Int32 → Option (Int32 × MH)) (h : MH) (a0 : Nat) (x1 : Int32) (x2 : Int32) (x3 : Int32) (x4 : Int32) : Option (Int32 × MH) := bd (gR h a0 13 3) fun b1 => bd (gI h b1 12 4) fun v2 => if v2 ≤ x4 then (if x2 = 0 then (bd (gR h a0 13 15) fun b3 => bd (lI h b3 (0 + x1)) fun v4 => bd (ck h a0 13) fun _ => bd2 (fX13_good1 h a0 v4) fun v6 h1 => some (v6, h1)) else (if x2 = 1 then (bd (gR h a0 13 3) fun b3 => bd (gR h b3 12 13) fun b4 => bd (lI h b4 x1) fun v5 => bd (ck h a0 13) fun _ => bd2 (fX13_good1 h a0 v5) fun v7 h1 => some (v7, h1)) else (if x2 = 2 then (bd (gR h a0 13 3) fun b3 => bd (gR h b3 12 14) fun b4 => bd (lI h b4 x1) fun v5 => bd (ck h a0 13) fun _ => bd2 (fX13_good1 h a0 v5) fun v7 h1 => some (v7, h1)) else (if x2 = 3 then (bd (ck h a0 13) fun _ => bd2 (fX13_good1 h a0 x3) fun v4 h1 => some (v4, h1)) else (bd (gR h a0 13 15) fun b3 => bd (lI h b3 (4 + x1)) fun v4 => bd (ck h a0 13) fun _ => bd2 (fX13_good1 h a0 v4) fun v6 h1 => some (v6, h1)))))) else (bd (gR h a0 13 3) fun b3 => bd (gR h b3 12 15) fun b4 => bd (lI h b4 x4) fun v5 => if v5 = x1 then (bd (some (x3 + 1)) fun v6 => bd (some (x4 + 1)) fun v7 => k33 h a0 x1 x2 v6 v7) else (bd (some (x3 + 0)) fun v6 => bd (some (x4 + 1)) fun v7 => k33 h a0 x1 x2 v6 v7))
set_option maxRecDepth 20000 in
theorem tX13_stamp_33 {r : Int32} {h' : MH} (k33 : MH → Nat → Int32 → Int32 → Int32 → Int32 → Option (Int32 × MH)) (hk33 : ∀ (h : MH) (a0 : Nat) (x1 : Int32) (x2 : Int32) (x3 : Int32) (x4 : Int32), k33 h a0 x1 x2 x3 x4 = some (r, h') → V TT mX13_stamp 1 (some (.int r)) h' h 33 [.ref a0, .int x1, .int x2, .int x3, .int x4] [])  {h : MH} {a0 : Nat} {x1 : Int32} {x2 : Int32} {x3 : Int32} {x4 : Int32} (hf : bX13_stamp_33 k33 h a0 x1 x2 x3 x4 = some (r, h')) : V TT mX13_stamp 1 (some (.int r)) h' h 33 [.ref a0, .int x1, .int x2, .int x3, .int x4] [] := by
  unfold bX13_stamp_33 at hf
  refine V.iload (q := 35) dX13_stamp_33 rfl rfl ?_
  refine V.aload_n (q := 36) rfl dX13_stamp_35 rfl rfl ?_
  obtain ⟨b1, eb1, hf⟩ := bd_ex hf
  refine V.getR (q := 39) flX13_338 rfl eb1 dX13_stamp_36 rfl ?_
  obtain ⟨v2, ev2, hf⟩ := bd_ex hf
  refine V.getI (q := 42) flX13_280 rfl ev2 dX13_stamp_39 rfl ?_
  refine V.icmp_ge (q := 45) (tgt := 73) dX13_stamp_42 rfl (by decide) (fun c => ?_) (fun c => ?_)
  · rw [if_pos c] at hf
    refine V.iload_n (q := 74) rfl dX13_stamp_73 rfl rfl ?_
    by_cases c0 : x2 = 0
    · rw [if_pos c0] at hf
      refine V.topI c0 ?_
      refine V.tableIn (q := 104) (off := 30) dX13_stamp_74 (by decide) (by decide) (by decide) (by decide) ?_
      refine V.aload_n (q := 105) rfl dX13_stamp_104 rfl rfl ?_
      refine V.aload_n (q := 106) rfl dX13_stamp_105 rfl rfl ?_
      obtain ⟨b3, eb3, hf⟩ := bd_ex hf
      refine V.getR (q := 109) flX13_17 rfl eb3 dX13_stamp_106 rfl ?_
      refine V.iconst (q := 110) (v := 0) (by decide) dX13_stamp_109 rfl ?_
      refine V.iload_n (q := 111) rfl dX13_stamp_110 rfl rfl ?_
      refine V.iadd (q := 112) dX13_stamp_111 rfl ?_
      obtain ⟨v4, ev4, hf⟩ := bd_ex hf
      refine V.iald (q := 113) ev4 dX13_stamp_112 rfl ?_
      obtain ⟨_, e5, hf⟩ := bd_ex hf
      obtain ⟨v6, h1, eh1, hf⟩ := bd2_ex hf
      refine V.callV (q := 116) (ci := 13) (vs := [.int v4]) (st := []) (S2 := [.int v6]) okX13_good1 imX13_good1 seX13_good1 rfl lkX13_58 (tX13_good1 eh1) rfl (ck_is e5) (by decide) rfl (Nat.le_of_ble_eq_true rfl) (Nat.le_of_ble_eq_true rfl) rfl dX13_stamp_113 rfl rfl ?_
      obtain ⟨rfl, rfl⟩ := ret_inj hf
      exact V.ret (r := some (.int v6)) trivial dX13_stamp_116
    rw [if_neg c0] at hf
    by_cases c1 : x2 = 1
    · rw [if_pos c1] at hf
      refine V.topI c1 ?_
      refine V.tableIn (q := 117) (off := 43) dX13_stamp_74 (by decide) (by decide) (by decide) (by decide) ?_
      refine V.aload_n (q := 118) rfl dX13_stamp_117 rfl rfl ?_
      refine V.aload_n (q := 119) rfl dX13_stamp_118 rfl rfl ?_
      obtain ⟨b3, eb3, hf⟩ := bd_ex hf
      refine V.getR (q := 122) flX13_338 rfl eb3 dX13_stamp_119 rfl ?_
      obtain ⟨b4, eb4, hf⟩ := bd_ex hf
      refine V.getR (q := 125) flX13_274 rfl eb4 dX13_stamp_122 rfl ?_
      refine V.iload_n (q := 126) rfl dX13_stamp_125 rfl rfl ?_
      obtain ⟨v5, ev5, hf⟩ := bd_ex hf
      refine V.iald (q := 127) ev5 dX13_stamp_126 rfl ?_
      obtain ⟨_, e6, hf⟩ := bd_ex hf
      obtain ⟨v7, h1, eh1, hf⟩ := bd2_ex hf
      refine V.callV (q := 130) (ci := 13) (vs := [.int v5]) (st := []) (S2 := [.int v7]) okX13_good1 imX13_good1 seX13_good1 rfl lkX13_58 (tX13_good1 eh1) rfl (ck_is e6) (by decide) rfl (Nat.le_of_ble_eq_true rfl) (Nat.le_of_ble_eq_true rfl) rfl dX13_stamp_127 rfl rfl ?_
      obtain ⟨rfl, rfl⟩ := ret_inj hf
      exact V.ret (r := some (.int v7)) trivial dX13_stamp_130
    rw [if_neg c1] at hf
    by_cases c2 : x2 = 2
    · rw [if_pos c2] at hf
      refine V.topI c2 ?_
      refine V.tableIn (q := 131) (off := 57) dX13_stamp_74 (by decide) (by decide) (by decide) (by decide) ?_
      refine V.aload_n (q := 132) rfl dX13_stamp_131 rfl rfl ?_
      refine V.aload_n (q := 133) rfl dX13_stamp_132 rfl rfl ?_
      obtain ⟨b3, eb3, hf⟩ := bd_ex hf
      refine V.getR (q := 136) flX13_338 rfl eb3 dX13_stamp_133 rfl ?_
      obtain ⟨b4, eb4, hf⟩ := bd_ex hf
      refine V.getR (q := 139) flX13_277 rfl eb4 dX13_stamp_136 rfl ?_
      refine V.iload_n (q := 140) rfl dX13_stamp_139 rfl rfl ?_
      obtain ⟨v5, ev5, hf⟩ := bd_ex hf
      refine V.iald (q := 141) ev5 dX13_stamp_140 rfl ?_
      obtain ⟨_, e6, hf⟩ := bd_ex hf
      obtain ⟨v7, h1, eh1, hf⟩ := bd2_ex hf
      refine V.callV (q := 144) (ci := 13) (vs := [.int v5]) (st := []) (S2 := [.int v7]) okX13_good1 imX13_good1 seX13_good1 rfl lkX13_58 (tX13_good1 eh1) rfl (ck_is e6) (by decide) rfl (Nat.le_of_ble_eq_true rfl) (Nat.le_of_ble_eq_true rfl) rfl dX13_stamp_141 rfl rfl ?_
      obtain ⟨rfl, rfl⟩ := ret_inj hf
      exact V.ret (r := some (.int v7)) trivial dX13_stamp_144
    rw [if_neg c2] at hf
    by_cases c3 : x2 = 3
    · rw [if_pos c3] at hf
      refine V.topI c3 ?_
      refine V.tableIn (q := 145) (off := 71) dX13_stamp_74 (by decide) (by decide) (by decide) (by decide) ?_
      refine V.aload_n (q := 146) rfl dX13_stamp_145 rfl rfl ?_
      refine V.iload_n (q := 147) rfl dX13_stamp_146 rfl rfl ?_
      obtain ⟨_, e3, hf⟩ := bd_ex hf
      obtain ⟨v4, h1, eh1, hf⟩ := bd2_ex hf
      refine V.callV (q := 150) (ci := 13) (vs := [.int x3]) (st := []) (S2 := [.int v4]) okX13_good1 imX13_good1 seX13_good1 rfl lkX13_58 (tX13_good1 eh1) rfl (ck_is e3) (by decide) rfl (Nat.le_of_ble_eq_true rfl) (Nat.le_of_ble_eq_true rfl) rfl dX13_stamp_147 rfl rfl ?_
      obtain ⟨rfl, rfl⟩ := ret_inj hf
      exact V.ret (r := some (.int v4)) trivial dX13_stamp_150
    rw [if_neg c3] at hf
    have hout : x2.toInt < 0 ∨ 3 < x2.toInt := tsw_out (lo := 0) (n := 3) (fun k h1 h2 => by
      have : k = 0 ∨ k = 1 ∨ k = 2 ∨ k = 3 := by omega
      rcases this with rfl | rfl | rfl | rfl
      · exact c0
      · exact c1
      · exact c2
      · exact c3) (by decide)
    refine V.tableOut (q := 151) dX13_stamp_74 hout (by decide) ?_
    refine V.aload_n (q := 152) rfl dX13_stamp_151 rfl rfl ?_
    refine V.aload_n (q := 153) rfl dX13_stamp_152 rfl rfl ?_
    obtain ⟨b3, eb3, hf⟩ := bd_ex hf
    refine V.getR (q := 156) flX13_17 rfl eb3 dX13_stamp_153 rfl ?_
    refine V.iconst (q := 157) (v := 4) (by decide) dX13_stamp_156 rfl ?_
    refine V.iload_n (q := 158) rfl dX13_stamp_157 rfl rfl ?_
    refine V.iadd (q := 159) dX13_stamp_158 rfl ?_
    obtain ⟨v4, ev4, hf⟩ := bd_ex hf
    refine V.iald (q := 160) ev4 dX13_stamp_159 rfl ?_
    obtain ⟨_, e5, hf⟩ := bd_ex hf
    obtain ⟨v6, h1, eh1, hf⟩ := bd2_ex hf
    refine V.callV (q := 163) (ci := 13) (vs := [.int v4]) (st := []) (S2 := [.int v6]) okX13_good1 imX13_good1 seX13_good1 rfl lkX13_58 (tX13_good1 eh1) rfl (ck_is e5) (by decide) rfl (Nat.le_of_ble_eq_true rfl) (Nat.le_of_ble_eq_true rfl) rfl dX13_stamp_160 rfl rfl ?_
    obtain ⟨rfl, rfl⟩ := ret_inj hf
    exact V.ret (r := some (.int v6)) trivial dX13_stamp_163
  · rw [if_neg c] at hf
    refine V.iload_n (q := 46) rfl dX13_stamp_45 rfl rfl ?_
    refine V.aload_n (q := 47) rfl dX13_stamp_46 rfl rfl ?_
    obtain ⟨b3, eb3, hf⟩ := bd_ex hf
    refine V.getR (q := 50) flX13_338 rfl eb3 dX13_stamp_47 rfl ?_
    obtain ⟨b4, eb4, hf⟩ := bd_ex hf
    refine V.getR (q := 53) flX13_286 rfl eb4 dX13_stamp_50 rfl ?_
    refine V.iload (q := 55) dX13_stamp_53 rfl rfl ?_
    obtain ⟨v5, ev5, hf⟩ := bd_ex hf
    refine V.iald (q := 56) ev5 dX13_stamp_55 rfl ?_
    refine V.iload_n (q := 57) rfl dX13_stamp_56 rfl rfl ?_
    refine V.icmp_ne (q := 60) (tgt := 64) dX13_stamp_57 rfl (by decide) (fun c => ?_) (fun c => ?_)
    · rw [if_neg c] at hf
      refine V.iconst (q := 65) (v := 0) (by decide) dX13_stamp_64 rfl ?_
      refine V.iadd (q := 66) dX13_stamp_65 rfl ?_
      obtain ⟨v6, ev6, hf⟩ := bd_ex hf
      refine V.topI (Option.some.inj ev6) ?_
      refine V.istore_n (q := 67) (L' := [.ref a0, .int x1, .int x2, .int v6, .int x4]) rfl dX13_stamp_66 rfl (by decide) rfl rfl ?_
      obtain ⟨v7, ev7, hf⟩ := bd_ex hf
      refine V.iinc (q := 70) (v := v7) (L' := [.ref a0, .int x1, .int x2, .int v6, .int v7]) dX13_stamp_67 rfl rfl (Option.some.inj ev7) (by decide) rfl rfl ?_
      refine V.goto (q := 33) dX13_stamp_70 (by decide) ?_
      exact hk33 _ _ _ _ _ _ hf
    · rw [if_pos c] at hf
      refine V.iconst (q := 61) (v := 1) (by decide) dX13_stamp_60 rfl ?_
      refine V.goto (q := 65) dX13_stamp_61 (by decide) ?_
      refine V.iadd (q := 66) dX13_stamp_65 rfl ?_
      obtain ⟨v6, ev6, hf⟩ := bd_ex hf
      refine V.topI (Option.some.inj ev6) ?_
      refine V.istore_n (q := 67) (L' := [.ref a0, .int x1, .int x2, .int v6, .int x4]) rfl dX13_stamp_66 rfl (by decide) rfl rfl ?_
      obtain ⟨v7, ev7, hf⟩ := bd_ex hf
      refine V.iinc (q := 70) (v := v7) (L' := [.ref a0, .int x1, .int x2, .int v6, .int v7]) dX13_stamp_67 rfl rfl (Option.some.inj ev7) (by decide) rfl rfl ?_
      refine V.goto (q := 33) dX13_stamp_70 (by decide) ?_
      exact hk33 _ _ _ _ _ _ hf
def fX13_stamp_33  : Nat → MH → Nat → Int32 → Int32 → Int32 → Int32 → Option (Int32 × MH)
  | 0 => fun _ _ _ _ _ _ => none
  | n + 1 => bX13_stamp_33  (fX13_stamp_33  n)
theorem tlX13_stamp_33 {r : Int32} {h' : MH}   : ∀ (n : Nat) (h : MH) (a0 : Nat) (x1 : Int32) (x2 : Int32) (x3 : Int32) (x4 : Int32), fX13_stamp_33  n h a0 x1 x2 x3 x4 = some (r, h') → V TT mX13_stamp 1 (some (.int r)) h' h 33 [.ref a0, .int x1, .int x2, .int x3, .int x4] [] := by
  intro n
  induction n with
  | zero => intro h a0 x1 x2 x3 x4 hf; exact nomatch (show (none : Option (Int32 × MH)) = some (r, h') from hf)
  | succ n ih => intro h a0 x1 x2 x3 x4 hf; exact tX13_stamp_33  (fX13_stamp_33  n) ih hf
def fX13_stamp (h : MH) (a0 : Nat) (x1 : Int32) (x2 : Int32) : Option (Int32 × MH) := bd (pI h a0 13 0 0) fun h1 => bd (ck h1 a0 13) fun _ => bd2 (fX13_isStamp h1 a0 x1) fun v2 h2 => if v2 = 0 then (bd (ck h2 a0 13) fun _ => bd2 (fX13_refused h2 a0 1) fun v4 h3 => some (v4, h3)) else (bd2 (fX13_in h2 x2 0 4) fun v3 h3 => if v3 = 0 then (bd (ck h3 a0 13) fun _ => bd2 (fX13_refused h3 a0 1) fun v5 h4 => some (v5, h4)) else (fX13_stamp_33 FU h3 a0 x1 x2 0 0))
set_option maxRecDepth 20000 in
theorem tX13_stamp {r : Int32} {h' : MH} {h : MH} {a0 : Nat} {x1 : Int32} {x2 : Int32} (hf : fX13_stamp h a0 x1 x2 = some (r, h')) : VM mX13_stamp 1 (some (.int r)) h' h [.ref a0, .int x1, .int x2] := by
  show V TT mX13_stamp 1 _ h' h 0 [.ref a0, .int x1, .int x2, Jk, Jk] []
  unfold fX13_stamp at hf
  refine V.aload_n (q := 1) rfl dX13_stamp_0 rfl rfl ?_
  refine V.iconst (q := 2) (v := 0) (by decide) dX13_stamp_1 rfl ?_
  obtain ⟨h1, eh1, hf⟩ := bd_ex hf
  refine V.putI (q := 5) (fpX13_48 rfl) rfl eh1 dX13_stamp_2 rfl ?_
  refine V.aload_n (q := 6) rfl dX13_stamp_5 rfl rfl ?_
  refine V.iload_n (q := 7) rfl dX13_stamp_6 rfl rfl ?_
  obtain ⟨_, e1, hf⟩ := bd_ex hf
  obtain ⟨v2, h2, eh2, hf⟩ := bd2_ex hf
  refine V.callV (q := 10) (ci := 13) (vs := [.int x1]) (st := []) (S2 := [.int v2]) okX13_isStamp imX13_isStamp seX13_isStamp rfl lkX13_358 (tX13_isStamp eh2) rfl (ck_is e1) (by decide) rfl (Nat.le_of_ble_eq_true rfl) (Nat.le_of_ble_eq_true rfl) rfl dX13_stamp_7 rfl rfl ?_
  refine V.if_eq (q := 13) (tgt := 22) dX13_stamp_10 rfl (by decide) (fun c => ?_) (fun c => ?_)
  · rw [if_pos c] at hf
    refine V.aload_n (q := 23) rfl dX13_stamp_22 rfl rfl ?_
    refine V.iconst (q := 24) (v := 1) (by decide) dX13_stamp_23 rfl ?_
    obtain ⟨_, e3, hf⟩ := bd_ex hf
    obtain ⟨v4, h3, eh3, hf⟩ := bd2_ex hf
    refine V.callV (q := 27) (ci := 13) (vs := [.int 1]) (st := []) (S2 := [.int v4]) okX13_refused imX13_refused seX13_refused rfl lkX13_54 (tX13_refused eh3) rfl (ck_is e3) (by decide) rfl (Nat.le_of_ble_eq_true rfl) (Nat.le_of_ble_eq_true rfl) rfl dX13_stamp_24 rfl rfl ?_
    obtain ⟨rfl, rfl⟩ := ret_inj hf
    exact V.ret (r := some (.int v4)) trivial dX13_stamp_27
  · rw [if_neg c] at hf
    refine V.iload_n (q := 14) rfl dX13_stamp_13 rfl rfl ?_
    refine V.iconst (q := 15) (v := 0) (by decide) dX13_stamp_14 rfl ?_
    refine V.iconst (q := 16) (v := 4) (by decide) dX13_stamp_15 rfl ?_
    obtain ⟨v3, h3, eh3, hf⟩ := bd2_ex hf
    refine V.callS (q := 19) (vs := [.int x2, .int 0, .int 4]) (st := []) (S2 := [.int v3]) okX13_in stX13_in lkX13_127 (tX13_in eh3) rfl (by decide) rfl (Nat.le_of_ble_eq_true rfl) (Nat.le_of_ble_eq_true rfl) rfl dX13_stamp_16 rfl rfl ?_
    refine V.if_ne (q := 22) (tgt := 28) dX13_stamp_19 rfl (by decide) (fun c => ?_) (fun c => ?_)
    · rw [if_neg c] at hf
      refine V.iconst (q := 29) (v := 0) (by decide) dX13_stamp_28 rfl ?_
      refine V.istore_n (q := 30) (L' := [.ref a0, .int x1, .int x2, .int 0, Jk]) rfl dX13_stamp_29 rfl (by decide) rfl rfl ?_
      refine V.iconst (q := 31) (v := 0) (by decide) dX13_stamp_30 rfl ?_
      refine V.istore (q := 33) (L' := [.ref a0, .int x1, .int x2, .int 0, .int 0]) dX13_stamp_31 rfl (by decide) rfl rfl ?_
      exact tlX13_stamp_33  FU _ _ _ _ _ _ hf
    · rw [if_pos c] at hf
      refine V.aload_n (q := 23) rfl dX13_stamp_22 rfl rfl ?_
      refine V.iconst (q := 24) (v := 1) (by decide) dX13_stamp_23 rfl ?_
      obtain ⟨_, e4, hf⟩ := bd_ex hf
      obtain ⟨v5, h4, eh4, hf⟩ := bd2_ex hf
      refine V.callV (q := 27) (ci := 13) (vs := [.int 1]) (st := []) (S2 := [.int v5]) okX13_refused imX13_refused seX13_refused rfl lkX13_54 (tX13_refused eh4) rfl (ck_is e4) (by decide) rfl (Nat.le_of_ble_eq_true rfl) (Nat.le_of_ble_eq_true rfl) rfl dX13_stamp_24 rfl rfl ?_
      obtain ⟨rfl, rfl⟩ := ret_inj hf
      exact V.ret (r := some (.int v5)) trivial dX13_stamp_27
def bX13_steady_22 (k22 : MH → Nat → Int32 → Int32 → Option (Int32 × MH)) (h : MH) (a0 : Nat) (x1 : Int32) (x2 : Int32) : Option (Int32 × MH) := bd (ck h a0 13) fun _ => bd2 (fX13_allStamps h a0 ) fun v2 h1 => if v2 < x2 then (bd (ck h1 a0 13) fun _ => bd2 (fX13_good1 h1 a0 x1) fun v4 h2 => some (v4, h2)) else (bd (ck h1 a0 13) fun _ => bd2 (fX13_month h1 a0 x2) fun v4 h2 => if v4 = x2 then (bd (some (x1 + 1)) fun v5 => bd (some (x2 + 1)) fun v6 => k22 h2 a0 v5 v6) else (bd (some (x1 + 0)) fun v5 => bd (some (x2 + 1)) fun v6 => k22 h2 a0 v5 v6))
set_option maxRecDepth 20000 in
theorem tX13_steady_22 {r : Int32} {h' : MH} (k22 : MH → Nat → Int32 → Int32 → Option (Int32 × MH)) (hk22 : ∀ (h : MH) (a0 : Nat) (x1 : Int32) (x2 : Int32), k22 h a0 x1 x2 = some (r, h') → V TT mX13_steady 4 (some (.int r)) h' h 22 [.ref a0, .int x1, .int x2] [])  {h : MH} {a0 : Nat} {x1 : Int32} {x2 : Int32} (hf : bX13_steady_22 k22 h a0 x1 x2 = some (r, h')) : V TT mX13_steady 4 (some (.int r)) h' h 22 [.ref a0, .int x1, .int x2] [] := by
  unfold bX13_steady_22 at hf
  refine V.iload_n (q := 23) rfl dX13_steady_22 rfl rfl ?_
  refine V.aload_n (q := 24) rfl dX13_steady_23 rfl rfl ?_
  obtain ⟨_, e1, hf⟩ := bd_ex hf
  obtain ⟨v2, h1, eh1, hf⟩ := bd2_ex hf
  refine V.callV (q := 27) (ci := 13) (vs := []) (st := [.int x2]) (S2 := [.int v2, .int x2]) okX13_allStamps imX13_allStamps seX13_allStamps rfl lkX13_441 (tX13_allStamps eh1) rfl (ck_is e1) (by decide) rfl (Nat.le_of_ble_eq_true rfl) (Nat.le_of_ble_eq_true rfl) rfl dX13_steady_24 rfl rfl ?_
  refine V.icmp_gt (q := 30) (tgt := 53) dX13_steady_27 rfl (by decide) (fun c => ?_) (fun c => ?_)
  · rw [if_pos c] at hf
    refine V.aload_n (q := 54) rfl dX13_steady_53 rfl rfl ?_
    refine V.iload_n (q := 55) rfl dX13_steady_54 rfl rfl ?_
    obtain ⟨_, e3, hf⟩ := bd_ex hf
    obtain ⟨v4, h2, eh2, hf⟩ := bd2_ex hf
    refine V.callV (q := 58) (ci := 13) (vs := [.int x1]) (st := []) (S2 := [.int v4]) okX13_good1 imX13_good1 seX13_good1 rfl lkX13_58 (tX13_good1 eh2) rfl (ck_is e3) (by decide) rfl (Nat.le_of_ble_eq_true rfl) (Nat.le_of_ble_eq_true rfl) rfl dX13_steady_55 rfl rfl ?_
    obtain ⟨rfl, rfl⟩ := ret_inj hf
    exact V.ret (r := some (.int v4)) trivial dX13_steady_58
  · rw [if_neg c] at hf
    refine V.iload_n (q := 31) rfl dX13_steady_30 rfl rfl ?_
    refine V.aload_n (q := 32) rfl dX13_steady_31 rfl rfl ?_
    refine V.iload_n (q := 33) rfl dX13_steady_32 rfl rfl ?_
    obtain ⟨_, e3, hf⟩ := bd_ex hf
    obtain ⟨v4, h2, eh2, hf⟩ := bd2_ex hf
    refine V.callV (q := 36) (ci := 13) (vs := [.int x2]) (st := [.int x1]) (S2 := [.int v4, .int x1]) okX13_month imX13_month seX13_month rfl lkX13_444 (tX13_month eh2) rfl (ck_is e3) (by decide) rfl (Nat.le_of_ble_eq_true rfl) (Nat.le_of_ble_eq_true rfl) rfl dX13_steady_33 rfl rfl ?_
    refine V.iload_n (q := 37) rfl dX13_steady_36 rfl rfl ?_
    refine V.icmp_ne (q := 40) (tgt := 44) dX13_steady_37 rfl (by decide) (fun c => ?_) (fun c => ?_)
    · rw [if_neg c] at hf
      refine V.iconst (q := 45) (v := 0) (by decide) dX13_steady_44 rfl ?_
      refine V.iadd (q := 46) dX13_steady_45 rfl ?_
      obtain ⟨v5, ev5, hf⟩ := bd_ex hf
      refine V.topI (Option.some.inj ev5) ?_
      refine V.istore_n (q := 47) (L' := [.ref a0, .int v5, .int x2]) rfl dX13_steady_46 rfl (by decide) rfl rfl ?_
      obtain ⟨v6, ev6, hf⟩ := bd_ex hf
      refine V.iinc (q := 50) (v := v6) (L' := [.ref a0, .int v5, .int v6]) dX13_steady_47 rfl rfl (Option.some.inj ev6) (by decide) rfl rfl ?_
      refine V.goto (q := 22) dX13_steady_50 (by decide) ?_
      exact hk22 _ _ _ _ hf
    · rw [if_pos c] at hf
      refine V.iconst (q := 41) (v := 1) (by decide) dX13_steady_40 rfl ?_
      refine V.goto (q := 45) dX13_steady_41 (by decide) ?_
      refine V.iadd (q := 46) dX13_steady_45 rfl ?_
      obtain ⟨v5, ev5, hf⟩ := bd_ex hf
      refine V.topI (Option.some.inj ev5) ?_
      refine V.istore_n (q := 47) (L' := [.ref a0, .int v5, .int x2]) rfl dX13_steady_46 rfl (by decide) rfl rfl ?_
      obtain ⟨v6, ev6, hf⟩ := bd_ex hf
      refine V.iinc (q := 50) (v := v6) (L' := [.ref a0, .int v5, .int v6]) dX13_steady_47 rfl rfl (Option.some.inj ev6) (by decide) rfl rfl ?_
      refine V.goto (q := 22) dX13_steady_50 (by decide) ?_
      exact hk22 _ _ _ _ hf
def fX13_steady_22  : Nat → MH → Nat → Int32 → Int32 → Option (Int32 × MH)
  | 0 => fun _ _ _ _ => none
  | n + 1 => bX13_steady_22  (fX13_steady_22  n)
theorem tlX13_steady_22 {r : Int32} {h' : MH}   : ∀ (n : Nat) (h : MH) (a0 : Nat) (x1 : Int32) (x2 : Int32), fX13_steady_22  n h a0 x1 x2 = some (r, h') → V TT mX13_steady 4 (some (.int r)) h' h 22 [.ref a0, .int x1, .int x2] [] := by
  intro n
  induction n with
  | zero => intro h a0 x1 x2 hf; exact nomatch (show (none : Option (Int32 × MH)) = some (r, h') from hf)
  | succ n ih => intro h a0 x1 x2 hf; exact tX13_steady_22  (fX13_steady_22  n) ih hf
def fX13_steady (h : MH) (a0 : Nat) : Option (Int32 × MH) := bd (pI h a0 13 0 0) fun h1 => bd (gZ h1 a0 13 3) fun z1 => if z1 = true then (bd (ck h1 a0 13) fun _ => bd2 (fX13_refused h1 a0 1) fun v3 h2 => some (v3, h2)) else (fX13_steady_22 FU h1 a0 0 0)
set_option maxRecDepth 20000 in
theorem tX13_steady {r : Int32} {h' : MH} {h : MH} {a0 : Nat} (hf : fX13_steady h a0 = some (r, h')) : VM mX13_steady 4 (some (.int r)) h' h [.ref a0] := by
  show V TT mX13_steady 4 _ h' h 0 [.ref a0, Jk, Jk] []
  unfold fX13_steady at hf
  refine V.aload_n (q := 1) rfl dX13_steady_0 rfl rfl ?_
  refine V.iconst (q := 2) (v := 0) (by decide) dX13_steady_1 rfl ?_
  obtain ⟨h1, eh1, hf⟩ := bd_ex hf
  refine V.putI (q := 5) (fpX13_48 rfl) rfl eh1 dX13_steady_2 rfl ?_
  refine V.aload_n (q := 6) rfl dX13_steady_5 rfl rfl ?_
  obtain ⟨z1, ez1, hf⟩ := bd_ex hf
  refine V.getZN (q := 9) (q2 := 12) (tgt := 18) flX13_338 rfl ez1 dX13_steady_6 rfl dX13_steady_9 rfl (by decide) (fun c => ?_) (fun c => ?_)
  · rw [if_neg c] at hf
    refine V.iconst (q := 19) (v := 0) (by decide) dX13_steady_18 rfl ?_
    refine V.istore_n (q := 20) (L' := [.ref a0, .int 0, Jk]) rfl dX13_steady_19 rfl (by decide) rfl rfl ?_
    refine V.iconst (q := 21) (v := 0) (by decide) dX13_steady_20 rfl ?_
    refine V.istore_n (q := 22) (L' := [.ref a0, .int 0, .int 0]) rfl dX13_steady_21 rfl (by decide) rfl rfl ?_
    exact tlX13_steady_22  FU _ _ _ _ hf
  · rw [if_pos c] at hf
    refine V.aload_n (q := 13) rfl dX13_steady_12 rfl rfl ?_
    refine V.iconst (q := 14) (v := 1) (by decide) dX13_steady_13 rfl ?_
    obtain ⟨_, e2, hf⟩ := bd_ex hf
    obtain ⟨v3, h2, eh2, hf⟩ := bd2_ex hf
    refine V.callV (q := 17) (ci := 13) (vs := [.int 1]) (st := []) (S2 := [.int v3]) okX13_refused imX13_refused seX13_refused rfl lkX13_54 (tX13_refused eh2) rfl (ck_is e2) (by decide) rfl (Nat.le_of_ble_eq_true rfl) (Nat.le_of_ble_eq_true rfl) rfl dX13_steady_14 rfl rfl ?_
    obtain ⟨rfl, rfl⟩ := ret_inj hf
    exact V.ret (r := some (.int v3)) trivial dX13_steady_17
def fX13_sure (h : MH) (a0 : Nat) (x1 : Int32) (x2 : Int32) (x3 : Int32) (x4 : Int32) (x5 : Int32) : Option (Int64 × MH) := bd (pI h a0 13 0 0) fun h1 => bd (ck h1 a0 13) fun _ => bd2 (fX13_isStamp h1 a0 x1) fun v2 h2 => if v2 = 0 then (bd (ck h2 a0 13) fun _ => bd2 (fX13_refused h2 a0 1) fun v4 h3 => some ((Int32.toInt64 v4), h3)) else (bd (ck h2 a0 13) fun _ => bd2 (fX13_isHand h2 a0 x2) fun v4 h3 => if v4 = 0 then (bd (ck h3 a0 13) fun _ => bd2 (fX13_refused h3 a0 1) fun v6 h4 => some ((Int32.toInt64 v6), h4)) else (bd (ck h3 a0 13) fun _ => bd2 (fX13_isPaper h3 a0 x3) fun v6 h4 => if v6 = 0 then (bd (ck h4 a0 13) fun _ => bd2 (fX13_refused h4 a0 1) fun v8 h5 => some ((Int32.toInt64 v8), h5)) else (bd2 (fX13_isVerdict h4 x4) fun v7 h5 => if v7 = 0 then (bd (ck h5 a0 13) fun _ => bd2 (fX13_refused h5 a0 2) fun v9 h6 => some ((Int32.toInt64 v9), h6)) else (bd (ck h5 a0 13) fun _ => bd2 (fX13_saysNow h5 a0 x1 x3) fun v9 h6 => bd (ck h6 a0 13) fun _ => bd2 (fX13_partOf h6 a0 x2 v9 x4) fun v11 h7 => bd (ck h7 a0 13) fun _ => bd2 (fX13_fraction h7 a0 (Int32.toInt64 v11) 100 x5) fun w13 h8 => some (w13, h8)))))
set_option maxRecDepth 20000 in
theorem tX13_sure {r : Int64} {h' : MH} {h : MH} {a0 : Nat} {x1 : Int32} {x2 : Int32} {x3 : Int32} {x4 : Int32} {x5 : Int32} (hf : fX13_sure h a0 x1 x2 x3 x4 x5 = some (r, h')) : VM mX13_sure 4 (some (.long r)) h' h [.ref a0, .int x1, .int x2, .int x3, .int x4, .int x5] := by
  show V TT mX13_sure 4 _ h' h 0 [.ref a0, .int x1, .int x2, .int x3, .int x4, .int x5] []
  unfold fX13_sure at hf
  refine V.aload_n (q := 1) rfl dX13_sure_0 rfl rfl ?_
  refine V.iconst (q := 2) (v := 0) (by decide) dX13_sure_1 rfl ?_
  obtain ⟨h1, eh1, hf⟩ := bd_ex hf
  refine V.putI (q := 5) (fpX13_48 rfl) rfl eh1 dX13_sure_2 rfl ?_
  refine V.aload_n (q := 6) rfl dX13_sure_5 rfl rfl ?_
  refine V.iload_n (q := 7) rfl dX13_sure_6 rfl rfl ?_
  obtain ⟨_, e1, hf⟩ := bd_ex hf
  obtain ⟨v2, h2, eh2, hf⟩ := bd2_ex hf
  refine V.callV (q := 10) (ci := 13) (vs := [.int x1]) (st := []) (S2 := [.int v2]) okX13_isStamp imX13_isStamp seX13_isStamp rfl lkX13_358 (tX13_isStamp eh2) rfl (ck_is e1) (by decide) rfl (Nat.le_of_ble_eq_true rfl) (Nat.le_of_ble_eq_true rfl) rfl dX13_sure_7 rfl rfl ?_
  refine V.if_eq (q := 13) (tgt := 29) dX13_sure_10 rfl (by decide) (fun c => ?_) (fun c => ?_)
  · rw [if_pos c] at hf
    refine V.aload_n (q := 30) rfl dX13_sure_29 rfl rfl ?_
    refine V.iconst (q := 31) (v := 1) (by decide) dX13_sure_30 rfl ?_
    obtain ⟨_, e3, hf⟩ := bd_ex hf
    obtain ⟨v4, h3, eh3, hf⟩ := bd2_ex hf
    refine V.callV (q := 34) (ci := 13) (vs := [.int 1]) (st := []) (S2 := [.int v4]) okX13_refused imX13_refused seX13_refused rfl lkX13_54 (tX13_refused eh3) rfl (ck_is e3) (by decide) rfl (Nat.le_of_ble_eq_true rfl) (Nat.le_of_ble_eq_true rfl) rfl dX13_sure_31 rfl rfl ?_
    refine V.i2l (q := 35) dX13_sure_34 rfl ?_
    obtain ⟨rfl, rfl⟩ := ret_inj hf
    exact V.ret (r := some (.long (Int32.toInt64 v4))) trivial dX13_sure_35
  · rw [if_neg c] at hf
    refine V.aload_n (q := 14) rfl dX13_sure_13 rfl rfl ?_
    refine V.iload_n (q := 15) rfl dX13_sure_14 rfl rfl ?_
    obtain ⟨_, e3, hf⟩ := bd_ex hf
    obtain ⟨v4, h3, eh3, hf⟩ := bd2_ex hf
    refine V.callV (q := 18) (ci := 13) (vs := [.int x2]) (st := []) (S2 := [.int v4]) okX13_isHand imX13_isHand seX13_isHand rfl lkX13_361 (tX13_isHand eh3) rfl (ck_is e3) (by decide) rfl (Nat.le_of_ble_eq_true rfl) (Nat.le_of_ble_eq_true rfl) rfl dX13_sure_15 rfl rfl ?_
    refine V.if_eq (q := 21) (tgt := 29) dX13_sure_18 rfl (by decide) (fun c => ?_) (fun c => ?_)
    · rw [if_pos c] at hf
      refine V.aload_n (q := 30) rfl dX13_sure_29 rfl rfl ?_
      refine V.iconst (q := 31) (v := 1) (by decide) dX13_sure_30 rfl ?_
      obtain ⟨_, e5, hf⟩ := bd_ex hf
      obtain ⟨v6, h4, eh4, hf⟩ := bd2_ex hf
      refine V.callV (q := 34) (ci := 13) (vs := [.int 1]) (st := []) (S2 := [.int v6]) okX13_refused imX13_refused seX13_refused rfl lkX13_54 (tX13_refused eh4) rfl (ck_is e5) (by decide) rfl (Nat.le_of_ble_eq_true rfl) (Nat.le_of_ble_eq_true rfl) rfl dX13_sure_31 rfl rfl ?_
      refine V.i2l (q := 35) dX13_sure_34 rfl ?_
      obtain ⟨rfl, rfl⟩ := ret_inj hf
      exact V.ret (r := some (.long (Int32.toInt64 v6))) trivial dX13_sure_35
    · rw [if_neg c] at hf
      refine V.aload_n (q := 22) rfl dX13_sure_21 rfl rfl ?_
      refine V.iload_n (q := 23) rfl dX13_sure_22 rfl rfl ?_
      obtain ⟨_, e5, hf⟩ := bd_ex hf
      obtain ⟨v6, h4, eh4, hf⟩ := bd2_ex hf
      refine V.callV (q := 26) (ci := 13) (vs := [.int x3]) (st := []) (S2 := [.int v6]) okX13_isPaper imX13_isPaper seX13_isPaper rfl lkX13_355 (tX13_isPaper eh4) rfl (ck_is e5) (by decide) rfl (Nat.le_of_ble_eq_true rfl) (Nat.le_of_ble_eq_true rfl) rfl dX13_sure_23 rfl rfl ?_
      refine V.if_ne (q := 29) (tgt := 36) dX13_sure_26 rfl (by decide) (fun c => ?_) (fun c => ?_)
      · rw [if_neg c] at hf
        refine V.iload (q := 38) dX13_sure_36 rfl rfl ?_
        obtain ⟨v7, h5, eh5, hf⟩ := bd2_ex hf
        refine V.callS (q := 41) (vs := [.int x4]) (st := []) (S2 := [.int v7]) okX13_isVerdict stX13_isVerdict lkX13_373 (tX13_isVerdict eh5) rfl (by decide) rfl (Nat.le_of_ble_eq_true rfl) (Nat.le_of_ble_eq_true rfl) rfl dX13_sure_38 rfl rfl ?_
        refine V.if_ne (q := 44) (tgt := 51) dX13_sure_41 rfl (by decide) (fun c => ?_) (fun c => ?_)
        · rw [if_neg c] at hf
          refine V.aload_n (q := 52) rfl dX13_sure_51 rfl rfl ?_
          refine V.aload_n (q := 53) rfl dX13_sure_52 rfl rfl ?_
          refine V.iload_n (q := 54) rfl dX13_sure_53 rfl rfl ?_
          refine V.aload_n (q := 55) rfl dX13_sure_54 rfl rfl ?_
          refine V.iload_n (q := 56) rfl dX13_sure_55 rfl rfl ?_
          refine V.iload_n (q := 57) rfl dX13_sure_56 rfl rfl ?_
          obtain ⟨_, e8, hf⟩ := bd_ex hf
          obtain ⟨v9, h6, eh6, hf⟩ := bd2_ex hf
          refine V.callV (q := 60) (ci := 13) (vs := [.int x1, .int x3]) (st := [.int x2, .ref a0, .ref a0]) (S2 := [.int v9, .int x2, .ref a0, .ref a0]) okX13_saysNow imX13_saysNow seX13_saysNow rfl lkX13_367 (tX13_saysNow eh6) rfl (ck_is e8) (by decide) rfl (Nat.le_of_ble_eq_true rfl) (Nat.le_of_ble_eq_true rfl) rfl dX13_sure_57 rfl rfl ?_
          refine V.iload (q := 62) dX13_sure_60 rfl rfl ?_
          obtain ⟨_, e10, hf⟩ := bd_ex hf
          obtain ⟨v11, h7, eh7, hf⟩ := bd2_ex hf
          refine V.callV (q := 65) (ci := 13) (vs := [.int x2, .int v9, .int x4]) (st := [.ref a0]) (S2 := [.int v11, .ref a0]) okX13_partOf imX13_partOf seX13_partOf rfl lkX13_406 (tX13_partOf eh7) rfl (ck_is e10) (by decide) rfl (Nat.le_of_ble_eq_true rfl) (Nat.le_of_ble_eq_true rfl) rfl dX13_sure_62 rfl rfl ?_
          refine V.i2l (q := 66) dX13_sure_65 rfl ?_
          refine V.ldc2 (q := 69) kcX13_421 dX13_sure_66 rfl ?_
          refine V.iload (q := 71) dX13_sure_69 rfl rfl ?_
          obtain ⟨_, e12, hf⟩ := bd_ex hf
          obtain ⟨w13, h8, eh8, hf⟩ := bd2_ex hf
          refine V.callV (q := 74) (ci := 13) (vs := [.long (Int32.toInt64 v11), .long 100, .int x5]) (st := []) (S2 := [.long w13]) okX13_fraction imX13_fraction seX13_fraction rfl lkX13_417 (tX13_fraction eh8) rfl (ck_is e12) (by decide) rfl (Nat.le_of_ble_eq_true rfl) (Nat.le_of_ble_eq_true rfl) rfl dX13_sure_71 rfl rfl ?_
          obtain ⟨rfl, rfl⟩ := ret_inj hf
          exact V.ret (r := some (.long w13)) trivial dX13_sure_74
        · rw [if_pos c] at hf
          refine V.aload_n (q := 45) rfl dX13_sure_44 rfl rfl ?_
          refine V.iconst (q := 46) (v := 2) (by decide) dX13_sure_45 rfl ?_
          obtain ⟨_, e8, hf⟩ := bd_ex hf
          obtain ⟨v9, h6, eh6, hf⟩ := bd2_ex hf
          refine V.callV (q := 49) (ci := 13) (vs := [.int 2]) (st := []) (S2 := [.int v9]) okX13_refused imX13_refused seX13_refused rfl lkX13_54 (tX13_refused eh6) rfl (ck_is e8) (by decide) rfl (Nat.le_of_ble_eq_true rfl) (Nat.le_of_ble_eq_true rfl) rfl dX13_sure_46 rfl rfl ?_
          refine V.i2l (q := 50) dX13_sure_49 rfl ?_
          obtain ⟨rfl, rfl⟩ := ret_inj hf
          exact V.ret (r := some (.long (Int32.toInt64 v9))) trivial dX13_sure_50
      · rw [if_pos c] at hf
        refine V.aload_n (q := 30) rfl dX13_sure_29 rfl rfl ?_
        refine V.iconst (q := 31) (v := 1) (by decide) dX13_sure_30 rfl ?_
        obtain ⟨_, e7, hf⟩ := bd_ex hf
        obtain ⟨v8, h5, eh5, hf⟩ := bd2_ex hf
        refine V.callV (q := 34) (ci := 13) (vs := [.int 1]) (st := []) (S2 := [.int v8]) okX13_refused imX13_refused seX13_refused rfl lkX13_54 (tX13_refused eh5) rfl (ck_is e7) (by decide) rfl (Nat.le_of_ble_eq_true rfl) (Nat.le_of_ble_eq_true rfl) rfl dX13_sure_31 rfl rfl ?_
        refine V.i2l (q := 35) dX13_sure_34 rfl ?_
        obtain ⟨rfl, rfl⟩ := ret_inj hf
        exact V.ret (r := some (.long (Int32.toInt64 v8))) trivial dX13_sure_35
def fX13_thrown (h : MH) (a0 : Nat) : Option (Int32 × MH) := bd (gI h a0 13 0) fun v1 => some (v1, h)
set_option maxRecDepth 20000 in
theorem tX13_thrown {r : Int32} {h' : MH} {h : MH} {a0 : Nat} (hf : fX13_thrown h a0 = some (r, h')) : VM mX13_thrown 0 (some (.int r)) h' h [.ref a0] := by
  show V TT mX13_thrown 0 _ h' h 0 [.ref a0] []
  unfold fX13_thrown at hf
  refine V.aload_n (q := 1) rfl dX13_thrown_0 rfl rfl ?_
  obtain ⟨v1, ev1, hf⟩ := bd_ex hf
  refine V.getI (q := 4) flX13_48 rfl ev1 dX13_thrown_1 rfl ?_
  obtain ⟨rfl, rfl⟩ := ret_inj hf
  exact V.ret (r := some (.int v1)) trivial dX13_thrown_4
def bX13_toFill_29 (k29 : MH → Nat → Int32 → Int32 → Option (Int32 × MH)) (h : MH) (a0 : Nat) (x1 : Int32) (x2 : Int32) : Option (Int32 × MH) := bd (gR h a0 13 3) fun b1 => bd (gI h b1 12 3) fun v2 => if v2 ≤ x2 then (bd (ck h a0 13) fun _ => bd2 (fX13_good1 h a0 (-2)) fun v4 h1 => some (v4, h1)) else (bd (ck h a0 13) fun _ => bd (fX13_asInk h a0 ) fun h1 => bd (gR h1 a0 13 24) fun b4 => bd (lI h1 b4 x2) fun v5 => bd (tI h1 b4 x2 (v5 + 1)) fun h2 => bd (ck h2 a0 13) fun _ => bd2 (fX13_keeps h2 a0 ) fun v7 h3 => if v7 ≤ x1 then (bd (some (x2 + 1)) fun v8 => k29 h3 a0 x1 v8) else (bd (ck h3 a0 13) fun _ => bd2 (fX13_good1 h3 a0 x2) fun v9 h4 => some (v9, h4)))
set_option maxRecDepth 20000 in
theorem tX13_toFill_29 {r : Int32} {h' : MH} (k29 : MH → Nat → Int32 → Int32 → Option (Int32 × MH)) (hk29 : ∀ (h : MH) (a0 : Nat) (x1 : Int32) (x2 : Int32), k29 h a0 x1 x2 = some (r, h') → V TT mX13_toFill 7 (some (.int r)) h' h 29 [.ref a0, .int x1, .int x2] [])  {h : MH} {a0 : Nat} {x1 : Int32} {x2 : Int32} (hf : bX13_toFill_29 k29 h a0 x1 x2 = some (r, h')) : V TT mX13_toFill 7 (some (.int r)) h' h 29 [.ref a0, .int x1, .int x2] [] := by
  unfold bX13_toFill_29 at hf
  refine V.iload_n (q := 30) rfl dX13_toFill_29 rfl rfl ?_
  refine V.aload_n (q := 31) rfl dX13_toFill_30 rfl rfl ?_
  obtain ⟨b1, eb1, hf⟩ := bd_ex hf
  refine V.getR (q := 34) flX13_338 rfl eb1 dX13_toFill_31 rfl ?_
  obtain ⟨v2, ev2, hf⟩ := bd_ex hf
  refine V.getI (q := 37) flX13_262 rfl ev2 dX13_toFill_34 rfl ?_
  refine V.icmp_ge (q := 40) (tgt := 74) dX13_toFill_37 rfl (by decide) (fun c => ?_) (fun c => ?_)
  · rw [if_pos c] at hf
    refine V.aload_n (q := 75) rfl dX13_toFill_74 rfl rfl ?_
    refine V.bipush (q := 77) (v := (-2)) (by decide) dX13_toFill_75 rfl ?_
    obtain ⟨_, e3, hf⟩ := bd_ex hf
    obtain ⟨v4, h1, eh1, hf⟩ := bd2_ex hf
    refine V.callV (q := 80) (ci := 13) (vs := [.int (-2)]) (st := []) (S2 := [.int v4]) okX13_good1 imX13_good1 seX13_good1 rfl lkX13_58 (tX13_good1 eh1) rfl (ck_is e3) (by decide) rfl (Nat.le_of_ble_eq_true rfl) (Nat.le_of_ble_eq_true rfl) rfl dX13_toFill_77 rfl rfl ?_
    obtain ⟨rfl, rfl⟩ := ret_inj hf
    exact V.ret (r := some (.int v4)) trivial dX13_toFill_80
  · rw [if_neg c] at hf
    refine V.aload_n (q := 41) rfl dX13_toFill_40 rfl rfl ?_
    obtain ⟨_, e3, hf⟩ := bd_ex hf
    obtain ⟨h1, eh1, hf⟩ := bd_ex hf
    refine V.callV (q := 44) (ci := 13) (vs := []) (st := []) (S2 := []) okX13_asInk imX13_asInk seX13_asInk rfl lkX13_391 (tX13_asInk eh1) rfl (ck_is e3) (by decide) rfl (Nat.le_of_ble_eq_true rfl) (Nat.le_of_ble_eq_true rfl) rfl dX13_toFill_41 rfl rfl ?_
    refine V.aload_n (q := 45) rfl dX13_toFill_44 rfl rfl ?_
    obtain ⟨b4, eb4, hf⟩ := bd_ex hf
    refine V.getR (q := 48) flX13_39 rfl eb4 dX13_toFill_45 rfl ?_
    refine V.iload_n (q := 49) rfl dX13_toFill_48 rfl rfl ?_
    refine V.dup2 (q := 50) dX13_toFill_49 rfl ?_
    obtain ⟨v5, ev5, hf⟩ := bd_ex hf
    refine V.iald (q := 51) ev5 dX13_toFill_50 rfl ?_
    refine V.iconst (q := 52) (v := 1) (by decide) dX13_toFill_51 rfl ?_
    refine V.iadd (q := 53) dX13_toFill_52 rfl ?_
    obtain ⟨h2, eh2, hf⟩ := bd_ex hf
    refine V.iast (q := 54) eh2 dX13_toFill_53 rfl ?_
    refine V.aload_n (q := 55) rfl dX13_toFill_54 rfl rfl ?_
    obtain ⟨_, e6, hf⟩ := bd_ex hf
    obtain ⟨v7, h3, eh3, hf⟩ := bd2_ex hf
    refine V.callV (q := 58) (ci := 13) (vs := []) (st := []) (S2 := [.int v7]) okX13_keeps imX13_keeps seX13_keeps rfl lkX13_394 (tX13_keeps eh3) rfl (ck_is e6) (by decide) rfl (Nat.le_of_ble_eq_true rfl) (Nat.le_of_ble_eq_true rfl) rfl dX13_toFill_55 rfl rfl ?_
    refine V.iload_n (q := 59) rfl dX13_toFill_58 rfl rfl ?_
    refine V.icmp_le (q := 62) (tgt := 68) dX13_toFill_59 rfl (by decide) (fun c => ?_) (fun c => ?_)
    · rw [if_pos c] at hf
      obtain ⟨v8, ev8, hf⟩ := bd_ex hf
      refine V.iinc (q := 71) (v := v8) (L' := [.ref a0, .int x1, .int v8]) dX13_toFill_68 rfl rfl (Option.some.inj ev8) (by decide) rfl rfl ?_
      refine V.goto (q := 29) dX13_toFill_71 (by decide) ?_
      exact hk29 _ _ _ _ hf
    · rw [if_neg c] at hf
      refine V.aload_n (q := 63) rfl dX13_toFill_62 rfl rfl ?_
      refine V.iload_n (q := 64) rfl dX13_toFill_63 rfl rfl ?_
      obtain ⟨_, e8, hf⟩ := bd_ex hf
      obtain ⟨v9, h4, eh4, hf⟩ := bd2_ex hf
      refine V.callV (q := 67) (ci := 13) (vs := [.int x2]) (st := []) (S2 := [.int v9]) okX13_good1 imX13_good1 seX13_good1 rfl lkX13_58 (tX13_good1 eh4) rfl (ck_is e8) (by decide) rfl (Nat.le_of_ble_eq_true rfl) (Nat.le_of_ble_eq_true rfl) rfl dX13_toFill_64 rfl rfl ?_
      obtain ⟨rfl, rfl⟩ := ret_inj hf
      exact V.ret (r := some (.int v9)) trivial dX13_toFill_67
def fX13_toFill_29  : Nat → MH → Nat → Int32 → Int32 → Option (Int32 × MH)
  | 0 => fun _ _ _ _ => none
  | n + 1 => bX13_toFill_29  (fX13_toFill_29  n)
theorem tlX13_toFill_29 {r : Int32} {h' : MH}   : ∀ (n : Nat) (h : MH) (a0 : Nat) (x1 : Int32) (x2 : Int32), fX13_toFill_29  n h a0 x1 x2 = some (r, h') → V TT mX13_toFill 7 (some (.int r)) h' h 29 [.ref a0, .int x1, .int x2] [] := by
  intro n
  induction n with
  | zero => intro h a0 x1 x2 hf; exact nomatch (show (none : Option (Int32 × MH)) = some (r, h') from hf)
  | succ n ih => intro h a0 x1 x2 hf; exact tX13_toFill_29  (fX13_toFill_29  n) ih hf
def fX13_toFill (h : MH) (a0 : Nat) : Option (Int32 × MH) := bd (pI h a0 13 0 0) fun h1 => bd (gZ h1 a0 13 3) fun z1 => if z1 = true then (bd (ck h1 a0 13) fun _ => bd2 (fX13_refused h1 a0 1) fun v6 h4 => some (v6, h4)) else (bd (ck h1 a0 13) fun _ => bd (fX13_asInk h1 a0 ) fun h2 => bd (ck h2 a0 13) fun _ => bd2 (fX13_keeps h2 a0 ) fun v4 h3 => fX13_toFill_29 FU h3 a0 v4 0)
set_option maxRecDepth 20000 in
theorem tX13_toFill {r : Int32} {h' : MH} {h : MH} {a0 : Nat} (hf : fX13_toFill h a0 = some (r, h')) : VM mX13_toFill 7 (some (.int r)) h' h [.ref a0] := by
  show V TT mX13_toFill 7 _ h' h 0 [.ref a0, Jk, Jk] []
  unfold fX13_toFill at hf
  refine V.aload_n (q := 1) rfl dX13_toFill_0 rfl rfl ?_
  refine V.iconst (q := 2) (v := 0) (by decide) dX13_toFill_1 rfl ?_
  obtain ⟨h1, eh1, hf⟩ := bd_ex hf
  refine V.putI (q := 5) (fpX13_48 rfl) rfl eh1 dX13_toFill_2 rfl ?_
  refine V.aload_n (q := 6) rfl dX13_toFill_5 rfl rfl ?_
  obtain ⟨z1, ez1, hf⟩ := bd_ex hf
  refine V.getZN (q := 9) (q2 := 12) (tgt := 18) flX13_338 rfl ez1 dX13_toFill_6 rfl dX13_toFill_9 rfl (by decide) (fun c => ?_) (fun c => ?_)
  · rw [if_neg c] at hf
    refine V.aload_n (q := 19) rfl dX13_toFill_18 rfl rfl ?_
    obtain ⟨_, e2, hf⟩ := bd_ex hf
    obtain ⟨h2, eh2, hf⟩ := bd_ex hf
    refine V.callV (q := 22) (ci := 13) (vs := []) (st := []) (S2 := []) okX13_asInk imX13_asInk seX13_asInk rfl lkX13_391 (tX13_asInk eh2) rfl (ck_is e2) (by decide) rfl (Nat.le_of_ble_eq_true rfl) (Nat.le_of_ble_eq_true rfl) rfl dX13_toFill_19 rfl rfl ?_
    refine V.aload_n (q := 23) rfl dX13_toFill_22 rfl rfl ?_
    obtain ⟨_, e3, hf⟩ := bd_ex hf
    obtain ⟨v4, h3, eh3, hf⟩ := bd2_ex hf
    refine V.callV (q := 26) (ci := 13) (vs := []) (st := []) (S2 := [.int v4]) okX13_keeps imX13_keeps seX13_keeps rfl lkX13_394 (tX13_keeps eh3) rfl (ck_is e3) (by decide) rfl (Nat.le_of_ble_eq_true rfl) (Nat.le_of_ble_eq_true rfl) rfl dX13_toFill_23 rfl rfl ?_
    refine V.istore_n (q := 27) (L' := [.ref a0, .int v4, Jk]) rfl dX13_toFill_26 rfl (by decide) rfl rfl ?_
    refine V.iconst (q := 28) (v := 0) (by decide) dX13_toFill_27 rfl ?_
    refine V.istore_n (q := 29) (L' := [.ref a0, .int v4, .int 0]) rfl dX13_toFill_28 rfl (by decide) rfl rfl ?_
    exact tlX13_toFill_29  FU _ _ _ _ hf
  · rw [if_pos c] at hf
    refine V.aload_n (q := 13) rfl dX13_toFill_12 rfl rfl ?_
    refine V.iconst (q := 14) (v := 1) (by decide) dX13_toFill_13 rfl ?_
    obtain ⟨_, e5, hf⟩ := bd_ex hf
    obtain ⟨v6, h4, eh4, hf⟩ := bd2_ex hf
    refine V.callV (q := 17) (ci := 13) (vs := [.int 1]) (st := []) (S2 := [.int v6]) okX13_refused imX13_refused seX13_refused rfl lkX13_54 (tX13_refused eh4) rfl (ck_is e5) (by decide) rfl (Nat.le_of_ble_eq_true rfl) (Nat.le_of_ble_eq_true rfl) rfl dX13_toFill_14 rfl rfl ?_
    obtain ⟨rfl, rfl⟩ := ret_inj hf
    exact V.ret (r := some (.int v6)) trivial dX13_toFill_17
def bX13_tries_79 (k11 : MH → Nat → Int32 → Int32 → Option (Int32 × MH)) (h : MH) (a0 : Nat) (x2 : Int32) (x3 : Int32) : Option (Int32 × MH) := bd (pI h a0 13 25 x3) fun h1 => bd (some (x2 + 1)) fun v1 => k11 h1 a0 x2 v1
set_option maxRecDepth 20000 in
theorem tX13_tries_79 {r : Int32} {h' : MH} (k11 : MH → Nat → Int32 → Int32 → Option (Int32 × MH)) (hk11 : ∀ (h : MH) (a0 : Nat) (x1 : Int32) (x2 : Int32), k11 h a0 x1 x2 = some (r, h') → V TT mX13_tries 4 (some (.int r)) h' h 11 [.ref a0, .int x1, .int x2, Jk, Jk] [])  {h : MH} {a0 : Nat} {x2 : Int32} {x3 : Int32} (hf : bX13_tries_79 k11 h a0 x2 x3 = some (r, h')) : V TT mX13_tries 4 (some (.int r)) h' h 79 [.ref a0, Jk, .int x2, .int x3, Jk] [] := by
  unfold bX13_tries_79 at hf
  refine V.iload_n (q := 80) rfl dX13_tries_79 rfl rfl ?_
  refine V.istore_n (q := 81) (L' := [.ref a0, .int x2, .int x2, .int x3, Jk]) rfl dX13_tries_80 rfl (by decide) rfl rfl ?_
  refine V.aload_n (q := 82) rfl dX13_tries_81 rfl rfl ?_
  refine V.iload_n (q := 83) rfl dX13_tries_82 rfl rfl ?_
  obtain ⟨h1, eh1, hf⟩ := bd_ex hf
  refine V.putI (q := 86) (fpX13_435 rfl) rfl eh1 dX13_tries_83 rfl ?_
  obtain ⟨v1, ev1, hf⟩ := bd_ex hf
  refine V.iinc (q := 89) (v := v1) (L' := [.ref a0, .int x2, .int v1, .int x3, Jk]) dX13_tries_86 rfl rfl (Option.some.inj ev1) (by decide) rfl rfl ?_
  refine V.goto (q := 11) dX13_tries_89 (by decide) ?_
  refine V.forget (L' := [.ref a0, .int x2, .int v1, Jk, Jk]) ⟨Or.inr rfl, Or.inr rfl, Or.inr rfl, Or.inl rfl, Or.inl rfl, trivial⟩ ?_
  exact hk11 _ _ _ _ hf
def bX13_tries_27 (k11 : MH → Nat → Int32 → Int32 → Option (Int32 × MH)) (k27 : MH → Nat → Int32 → Int32 → Int32 → Int32 → Option (Int32 × MH)) (h : MH) (a0 : Nat) (x1 : Int32) (x2 : Int32) (x3 : Int32) (x4 : Int32) : Option (Int32 × MH) := if 3 ≤ x4 then (if x3 = 0 then (bd (some (x2 + 1)) fun v1 => k11 h a0 x1 v1) else (if x1 = (-2) then (bX13_tries_79 k11 h a0 x2 x3) else (bd (gI h a0 13 25) fun v1 => if x3 < v1 then (bX13_tries_79 k11 h a0 x2 x3) else (bd (some (x2 + 1)) fun v2 => k11 h a0 x1 v2)))) else (bd (ck h a0 13) fun _ => bd2 (fX13_lawsFor h a0 x2 x4) fun v2 h1 => if v2 ≤ x3 then (bd (some (x4 + 1)) fun v3 => k27 h1 a0 x1 x2 x3 v3) else (bd (ck h1 a0 13) fun _ => bd2 (fX13_lawsFor h1 a0 x2 x4) fun v4 h2 => bd (some (x4 + 1)) fun v5 => k27 h2 a0 x1 x2 v4 v5))
set_option maxRecDepth 20000 in
theorem tX13_tries_27 {r : Int32} {h' : MH} (k11 : MH → Nat → Int32 → Int32 → Option (Int32 × MH)) (hk11 : ∀ (h : MH) (a0 : Nat) (x1 : Int32) (x2 : Int32), k11 h a0 x1 x2 = some (r, h') → V TT mX13_tries 4 (some (.int r)) h' h 11 [.ref a0, .int x1, .int x2, Jk, Jk] []) (k27 : MH → Nat → Int32 → Int32 → Int32 → Int32 → Option (Int32 × MH)) (hk27 : ∀ (h : MH) (a0 : Nat) (x1 : Int32) (x2 : Int32) (x3 : Int32) (x4 : Int32), k27 h a0 x1 x2 x3 x4 = some (r, h') → V TT mX13_tries 4 (some (.int r)) h' h 27 [.ref a0, .int x1, .int x2, .int x3, .int x4] [])  {h : MH} {a0 : Nat} {x1 : Int32} {x2 : Int32} {x3 : Int32} {x4 : Int32} (hf : bX13_tries_27 k11 k27 h a0 x1 x2 x3 x4 = some (r, h')) : V TT mX13_tries 4 (some (.int r)) h' h 27 [.ref a0, .int x1, .int x2, .int x3, .int x4] [] := by
  unfold bX13_tries_27 at hf
  refine V.iload (q := 29) dX13_tries_27 rfl rfl ?_
  refine V.iconst (q := 30) (v := 3) (by decide) dX13_tries_29 rfl ?_
  refine V.icmp_ge (q := 33) (tgt := 58) dX13_tries_30 rfl (by decide) (fun c => ?_) (fun c => ?_)
  · rw [if_pos c] at hf
    refine V.iload_n (q := 59) rfl dX13_tries_58 rfl rfl ?_
    refine V.if_eq (q := 62) (tgt := 86) dX13_tries_59 rfl (by decide) (fun c => ?_) (fun c => ?_)
    · rw [if_pos c] at hf
      obtain ⟨v1, ev1, hf⟩ := bd_ex hf
      refine V.iinc (q := 89) (v := v1) (L' := [.ref a0, .int x1, .int v1, .int x3, .int x4]) dX13_tries_86 rfl rfl (Option.some.inj ev1) (by decide) rfl rfl ?_
      refine V.goto (q := 11) dX13_tries_89 (by decide) ?_
      refine V.forget (L' := [.ref a0, .int x1, .int v1, Jk, Jk]) ⟨Or.inr rfl, Or.inr rfl, Or.inr rfl, Or.inl rfl, Or.inl rfl, trivial⟩ ?_
      exact hk11 _ _ _ _ hf
    · rw [if_neg c] at hf
      refine V.iload_n (q := 63) rfl dX13_tries_62 rfl rfl ?_
      refine V.bipush (q := 65) (v := (-2)) (by decide) dX13_tries_63 rfl ?_
      refine V.icmp_eq (q := 68) (tgt := 79) dX13_tries_65 rfl (by decide) (fun c => ?_) (fun c => ?_)
      · rw [if_pos c] at hf
        refine V.forget (L' := [.ref a0, Jk, .int x2, .int x3, Jk]) ⟨Or.inr rfl, Or.inl rfl, Or.inr rfl, Or.inr rfl, Or.inl rfl, trivial⟩ ?_
        exact tX13_tries_79 k11 hk11 hf
      · rw [if_neg c] at hf
        refine V.iload_n (q := 69) rfl dX13_tries_68 rfl rfl ?_
        refine V.aload_n (q := 70) rfl dX13_tries_69 rfl rfl ?_
        obtain ⟨v1, ev1, hf⟩ := bd_ex hf
        refine V.getI (q := 73) flX13_435 rfl ev1 dX13_tries_70 rfl ?_
        refine V.icmp_lt (q := 76) (tgt := 79) dX13_tries_73 rfl (by decide) (fun c => ?_) (fun c => ?_)
        · rw [if_pos c] at hf
          refine V.forget (L' := [.ref a0, Jk, .int x2, .int x3, Jk]) ⟨Or.inr rfl, Or.inl rfl, Or.inr rfl, Or.inr rfl, Or.inl rfl, trivial⟩ ?_
          exact tX13_tries_79 k11 hk11 hf
        · rw [if_neg c] at hf
          refine V.goto (q := 86) dX13_tries_76 (by decide) ?_
          obtain ⟨v2, ev2, hf⟩ := bd_ex hf
          refine V.iinc (q := 89) (v := v2) (L' := [.ref a0, .int x1, .int v2, .int x3, .int x4]) dX13_tries_86 rfl rfl (Option.some.inj ev2) (by decide) rfl rfl ?_
          refine V.goto (q := 11) dX13_tries_89 (by decide) ?_
          refine V.forget (L' := [.ref a0, .int x1, .int v2, Jk, Jk]) ⟨Or.inr rfl, Or.inr rfl, Or.inr rfl, Or.inl rfl, Or.inl rfl, trivial⟩ ?_
          exact hk11 _ _ _ _ hf
  · rw [if_neg c] at hf
    refine V.aload_n (q := 34) rfl dX13_tries_33 rfl rfl ?_
    refine V.iload_n (q := 35) rfl dX13_tries_34 rfl rfl ?_
    refine V.iload (q := 37) dX13_tries_35 rfl rfl ?_
    obtain ⟨_, e1, hf⟩ := bd_ex hf
    obtain ⟨v2, h1, eh1, hf⟩ := bd2_ex hf
    refine V.callV (q := 40) (ci := 13) (vs := [.int x2, .int x4]) (st := []) (S2 := [.int v2]) okX13_lawsFor imX13_lawsFor seX13_lawsFor rfl lkX13_432 (tX13_lawsFor eh1) rfl (ck_is e1) (by decide) rfl (Nat.le_of_ble_eq_true rfl) (Nat.le_of_ble_eq_true rfl) rfl dX13_tries_37 rfl rfl ?_
    refine V.iload_n (q := 41) rfl dX13_tries_40 rfl rfl ?_
    refine V.icmp_le (q := 44) (tgt := 52) dX13_tries_41 rfl (by decide) (fun c => ?_) (fun c => ?_)
    · rw [if_pos c] at hf
      obtain ⟨v3, ev3, hf⟩ := bd_ex hf
      refine V.iinc (q := 55) (v := v3) (L' := [.ref a0, .int x1, .int x2, .int x3, .int v3]) dX13_tries_52 rfl rfl (Option.some.inj ev3) (by decide) rfl rfl ?_
      refine V.goto (q := 27) dX13_tries_55 (by decide) ?_
      exact hk27 _ _ _ _ _ _ hf
    · rw [if_neg c] at hf
      refine V.aload_n (q := 45) rfl dX13_tries_44 rfl rfl ?_
      refine V.iload_n (q := 46) rfl dX13_tries_45 rfl rfl ?_
      refine V.iload (q := 48) dX13_tries_46 rfl rfl ?_
      obtain ⟨_, e3, hf⟩ := bd_ex hf
      obtain ⟨v4, h2, eh2, hf⟩ := bd2_ex hf
      refine V.callV (q := 51) (ci := 13) (vs := [.int x2, .int x4]) (st := []) (S2 := [.int v4]) okX13_lawsFor imX13_lawsFor seX13_lawsFor rfl lkX13_432 (tX13_lawsFor eh2) rfl (ck_is e3) (by decide) rfl (Nat.le_of_ble_eq_true rfl) (Nat.le_of_ble_eq_true rfl) rfl dX13_tries_48 rfl rfl ?_
      refine V.istore_n (q := 52) (L' := [.ref a0, .int x1, .int x2, .int v4, .int x4]) rfl dX13_tries_51 rfl (by decide) rfl rfl ?_
      obtain ⟨v5, ev5, hf⟩ := bd_ex hf
      refine V.iinc (q := 55) (v := v5) (L' := [.ref a0, .int x1, .int x2, .int v4, .int v5]) dX13_tries_52 rfl rfl (Option.some.inj ev5) (by decide) rfl rfl ?_
      refine V.goto (q := 27) dX13_tries_55 (by decide) ?_
      exact hk27 _ _ _ _ _ _ hf
def fX13_tries_27 (k11 : MH → Nat → Int32 → Int32 → Option (Int32 × MH)) : Nat → MH → Nat → Int32 → Int32 → Int32 → Int32 → Option (Int32 × MH)
  | 0 => fun _ _ _ _ _ _ => none
  | n + 1 => bX13_tries_27 k11 (fX13_tries_27 k11 n)
theorem tlX13_tries_27 {r : Int32} {h' : MH} (k11 : MH → Nat → Int32 → Int32 → Option (Int32 × MH)) (hk11 : ∀ (h : MH) (a0 : Nat) (x1 : Int32) (x2 : Int32), k11 h a0 x1 x2 = some (r, h') → V TT mX13_tries 4 (some (.int r)) h' h 11 [.ref a0, .int x1, .int x2, Jk, Jk] [])  : ∀ (n : Nat) (h : MH) (a0 : Nat) (x1 : Int32) (x2 : Int32) (x3 : Int32) (x4 : Int32), fX13_tries_27 k11 n h a0 x1 x2 x3 x4 = some (r, h') → V TT mX13_tries 4 (some (.int r)) h' h 27 [.ref a0, .int x1, .int x2, .int x3, .int x4] [] := by
  intro n
  induction n with
  | zero => intro h a0 x1 x2 x3 x4 hf; exact nomatch (show (none : Option (Int32 × MH)) = some (r, h') from hf)
  | succ n ih => intro h a0 x1 x2 x3 x4 hf; exact tX13_tries_27 k11 hk11 (fX13_tries_27 k11 n) ih hf
def bX13_tries_11 (k11 : MH → Nat → Int32 → Int32 → Option (Int32 × MH)) (h : MH) (a0 : Nat) (x1 : Int32) (x2 : Int32) : Option (Int32 × MH) := bd (gR h a0 13 3) fun b1 => bd (gI h b1 12 2) fun v2 => if v2 ≤ x2 then (some (x1, h)) else (fX13_tries_27 k11 FU h a0 x1 x2 0 0)
set_option maxRecDepth 20000 in
theorem tX13_tries_11 {r : Int32} {h' : MH} (k11 : MH → Nat → Int32 → Int32 → Option (Int32 × MH)) (hk11 : ∀ (h : MH) (a0 : Nat) (x1 : Int32) (x2 : Int32), k11 h a0 x1 x2 = some (r, h') → V TT mX13_tries 4 (some (.int r)) h' h 11 [.ref a0, .int x1, .int x2, Jk, Jk] [])  {h : MH} {a0 : Nat} {x1 : Int32} {x2 : Int32} (hf : bX13_tries_11 k11 h a0 x1 x2 = some (r, h')) : V TT mX13_tries 4 (some (.int r)) h' h 11 [.ref a0, .int x1, .int x2, Jk, Jk] [] := by
  unfold bX13_tries_11 at hf
  refine V.iload_n (q := 12) rfl dX13_tries_11 rfl rfl ?_
  refine V.aload_n (q := 13) rfl dX13_tries_12 rfl rfl ?_
  obtain ⟨b1, eb1, hf⟩ := bd_ex hf
  refine V.getR (q := 16) flX13_338 rfl eb1 dX13_tries_13 rfl ?_
  obtain ⟨v2, ev2, hf⟩ := bd_ex hf
  refine V.getI (q := 19) flX13_206 rfl ev2 dX13_tries_16 rfl ?_
  refine V.icmp_ge (q := 22) (tgt := 92) dX13_tries_19 rfl (by decide) (fun c => ?_) (fun c => ?_)
  · rw [if_pos c] at hf
    refine V.iload_n (q := 93) rfl dX13_tries_92 rfl rfl ?_
    obtain ⟨rfl, rfl⟩ := ret_inj hf
    exact V.ret (r := some (.int x1)) trivial dX13_tries_93
  · rw [if_neg c] at hf
    refine V.iconst (q := 23) (v := 0) (by decide) dX13_tries_22 rfl ?_
    refine V.istore_n (q := 24) (L' := [.ref a0, .int x1, .int x2, .int 0, Jk]) rfl dX13_tries_23 rfl (by decide) rfl rfl ?_
    refine V.iconst (q := 25) (v := 0) (by decide) dX13_tries_24 rfl ?_
    refine V.istore (q := 27) (L' := [.ref a0, .int x1, .int x2, .int 0, .int 0]) dX13_tries_25 rfl (by decide) rfl rfl ?_
    exact tlX13_tries_27 k11 hk11 FU _ _ _ _ _ _ hf
def fX13_tries_11  : Nat → MH → Nat → Int32 → Int32 → Option (Int32 × MH)
  | 0 => fun _ _ _ _ => none
  | n + 1 => bX13_tries_11  (fX13_tries_11  n)
theorem tlX13_tries_11 {r : Int32} {h' : MH}   : ∀ (n : Nat) (h : MH) (a0 : Nat) (x1 : Int32) (x2 : Int32), fX13_tries_11  n h a0 x1 x2 = some (r, h') → V TT mX13_tries 4 (some (.int r)) h' h 11 [.ref a0, .int x1, .int x2, Jk, Jk] [] := by
  intro n
  induction n with
  | zero => intro h a0 x1 x2 hf; exact nomatch (show (none : Option (Int32 × MH)) = some (r, h') from hf)
  | succ n ih => intro h a0 x1 x2 hf; exact tX13_tries_11  (fX13_tries_11  n) ih hf
def fX13_tries (h : MH) (a0 : Nat) : Option (Int32 × MH) := bd (pI h a0 13 25 (-2)) fun h1 => fX13_tries_11 FU h1 a0 (-2) 0
set_option maxRecDepth 20000 in
theorem tX13_tries {r : Int32} {h' : MH} {h : MH} {a0 : Nat} (hf : fX13_tries h a0 = some (r, h')) : VM mX13_tries 4 (some (.int r)) h' h [.ref a0] := by
  show V TT mX13_tries 4 _ h' h 0 [.ref a0, Jk, Jk, Jk, Jk] []
  unfold fX13_tries at hf
  refine V.bipush (q := 2) (v := (-2)) (by decide) dX13_tries_0 rfl ?_
  refine V.istore_n (q := 3) (L' := [.ref a0, .int (-2), Jk, Jk, Jk]) rfl dX13_tries_2 rfl (by decide) rfl rfl ?_
  refine V.aload_n (q := 4) rfl dX13_tries_3 rfl rfl ?_
  refine V.bipush (q := 6) (v := (-2)) (by decide) dX13_tries_4 rfl ?_
  obtain ⟨h1, eh1, hf⟩ := bd_ex hf
  refine V.putI (q := 9) (fpX13_435 rfl) rfl eh1 dX13_tries_6 rfl ?_
  refine V.iconst (q := 10) (v := 0) (by decide) dX13_tries_9 rfl ?_
  refine V.istore_n (q := 11) (L' := [.ref a0, .int (-2), .int 0, Jk, Jk]) rfl dX13_tries_10 rfl (by decide) rfl rfl ?_
  exact tlX13_tries_11  FU _ _ _ _ hf
def fX13_trouble (h : MH) (a0 : Nat) : Option (Int32 × MH) := bd (pI h a0 13 0 0) fun h1 => bd (gI h1 a0 13 1) fun v1 => some (v1, h1)
set_option maxRecDepth 20000 in
theorem tX13_trouble {r : Int32} {h' : MH} {h : MH} {a0 : Nat} (hf : fX13_trouble h a0 = some (r, h')) : VM mX13_trouble 0 (some (.int r)) h' h [.ref a0] := by
  show V TT mX13_trouble 0 _ h' h 0 [.ref a0] []
  unfold fX13_trouble at hf
  refine V.aload_n (q := 1) rfl dX13_trouble_0 rfl rfl ?_
  refine V.iconst (q := 2) (v := 0) (by decide) dX13_trouble_1 rfl ?_
  obtain ⟨h1, eh1, hf⟩ := bd_ex hf
  refine V.putI (q := 5) (fpX13_48 rfl) rfl eh1 dX13_trouble_2 rfl ?_
  refine V.aload_n (q := 6) rfl dX13_trouble_5 rfl rfl ?_
  obtain ⟨v1, ev1, hf⟩ := bd_ex hf
  refine V.getI (q := 9) flX13_51 rfl ev1 dX13_trouble_6 rfl ?_
  obtain ⟨rfl, rfl⟩ := ret_inj hf
  exact V.ret (r := some (.int v1)) trivial dX13_trouble_9
def fX13_tryLeaves (h : MH) (a0 : Nat) : Option (Int32 × MH) := bd (pI h a0 13 0 0) fun h1 => bd (gZ h1 a0 13 3) fun z1 => if z1 = true then (bd (ck h1 a0 13) fun _ => bd2 (fX13_refused h1 a0 1) fun v8 h4 => some (v8, h4)) else (bd (ck h1 a0 13) fun _ => bd2 (fX13_tries h1 a0 ) fun v3 h2 => bd (gI h2 a0 13 25) fun v4 => bd (ck h2 a0 13) fun _ => bd2 (fX13_good1 h2 a0 v4) fun v6 h3 => some (v6, h3))
set_option maxRecDepth 20000 in
theorem tX13_tryLeaves {r : Int32} {h' : MH} {h : MH} {a0 : Nat} (hf : fX13_tryLeaves h a0 = some (r, h')) : VM mX13_tryLeaves 5 (some (.int r)) h' h [.ref a0] := by
  show V TT mX13_tryLeaves 5 _ h' h 0 [.ref a0] []
  unfold fX13_tryLeaves at hf
  refine V.aload_n (q := 1) rfl dX13_tryLeaves_0 rfl rfl ?_
  refine V.iconst (q := 2) (v := 0) (by decide) dX13_tryLeaves_1 rfl ?_
  obtain ⟨h1, eh1, hf⟩ := bd_ex hf
  refine V.putI (q := 5) (fpX13_48 rfl) rfl eh1 dX13_tryLeaves_2 rfl ?_
  refine V.aload_n (q := 6) rfl dX13_tryLeaves_5 rfl rfl ?_
  obtain ⟨z1, ez1, hf⟩ := bd_ex hf
  refine V.getZN (q := 9) (q2 := 12) (tgt := 18) flX13_338 rfl ez1 dX13_tryLeaves_6 rfl dX13_tryLeaves_9 rfl (by decide) (fun c => ?_) (fun c => ?_)
  · rw [if_neg c] at hf
    refine V.aload_n (q := 19) rfl dX13_tryLeaves_18 rfl rfl ?_
    obtain ⟨_, e2, hf⟩ := bd_ex hf
    obtain ⟨v3, h2, eh2, hf⟩ := bd2_ex hf
    refine V.callV (q := 22) (ci := 13) (vs := []) (st := []) (S2 := [.int v3]) okX13_tries imX13_tries seX13_tries rfl lkX13_438 (tX13_tries eh2) rfl (ck_is e2) (by decide) rfl (Nat.le_of_ble_eq_true rfl) (Nat.le_of_ble_eq_true rfl) rfl dX13_tryLeaves_19 rfl rfl ?_
    refine V.popI (q := 23) dX13_tryLeaves_22 rfl ?_
    refine V.aload_n (q := 24) rfl dX13_tryLeaves_23 rfl rfl ?_
    refine V.aload_n (q := 25) rfl dX13_tryLeaves_24 rfl rfl ?_
    obtain ⟨v4, ev4, hf⟩ := bd_ex hf
    refine V.getI (q := 28) flX13_435 rfl ev4 dX13_tryLeaves_25 rfl ?_
    obtain ⟨_, e5, hf⟩ := bd_ex hf
    obtain ⟨v6, h3, eh3, hf⟩ := bd2_ex hf
    refine V.callV (q := 31) (ci := 13) (vs := [.int v4]) (st := []) (S2 := [.int v6]) okX13_good1 imX13_good1 seX13_good1 rfl lkX13_58 (tX13_good1 eh3) rfl (ck_is e5) (by decide) rfl (Nat.le_of_ble_eq_true rfl) (Nat.le_of_ble_eq_true rfl) rfl dX13_tryLeaves_28 rfl rfl ?_
    obtain ⟨rfl, rfl⟩ := ret_inj hf
    exact V.ret (r := some (.int v6)) trivial dX13_tryLeaves_31
  · rw [if_pos c] at hf
    refine V.aload_n (q := 13) rfl dX13_tryLeaves_12 rfl rfl ?_
    refine V.iconst (q := 14) (v := 1) (by decide) dX13_tryLeaves_13 rfl ?_
    obtain ⟨_, e7, hf⟩ := bd_ex hf
    obtain ⟨v8, h4, eh4, hf⟩ := bd2_ex hf
    refine V.callV (q := 17) (ci := 13) (vs := [.int 1]) (st := []) (S2 := [.int v8]) okX13_refused imX13_refused seX13_refused rfl lkX13_54 (tX13_refused eh4) rfl (ck_is e7) (by decide) rfl (Nat.le_of_ble_eq_true rfl) (Nat.le_of_ble_eq_true rfl) rfl dX13_tryLeaves_14 rfl rfl ?_
    obtain ⟨rfl, rfl⟩ := ret_inj hf
    exact V.ret (r := some (.int v8)) trivial dX13_tryLeaves_17
def fX13_tryNext (h : MH) (a0 : Nat) : Option (Int32 × MH) := bd (pI h a0 13 0 0) fun h1 => bd (gZ h1 a0 13 3) fun z1 => if z1 = true then (bd (ck h1 a0 13) fun _ => bd2 (fX13_refused h1 a0 1) fun v7 h4 => some (v7, h4)) else (bd (ck h1 a0 13) fun _ => bd2 (fX13_tries h1 a0 ) fun v3 h2 => bd (ck h2 a0 13) fun _ => bd2 (fX13_good1 h2 a0 v3) fun v5 h3 => some (v5, h3))
set_option maxRecDepth 20000 in
theorem tX13_tryNext {r : Int32} {h' : MH} {h : MH} {a0 : Nat} (hf : fX13_tryNext h a0 = some (r, h')) : VM mX13_tryNext 5 (some (.int r)) h' h [.ref a0] := by
  show V TT mX13_tryNext 5 _ h' h 0 [.ref a0] []
  unfold fX13_tryNext at hf
  refine V.aload_n (q := 1) rfl dX13_tryNext_0 rfl rfl ?_
  refine V.iconst (q := 2) (v := 0) (by decide) dX13_tryNext_1 rfl ?_
  obtain ⟨h1, eh1, hf⟩ := bd_ex hf
  refine V.putI (q := 5) (fpX13_48 rfl) rfl eh1 dX13_tryNext_2 rfl ?_
  refine V.aload_n (q := 6) rfl dX13_tryNext_5 rfl rfl ?_
  obtain ⟨z1, ez1, hf⟩ := bd_ex hf
  refine V.getZN (q := 9) (q2 := 12) (tgt := 20) flX13_338 rfl ez1 dX13_tryNext_6 rfl dX13_tryNext_9 rfl (by decide) (fun c => ?_) (fun c => ?_)
  · rw [if_neg c] at hf
    refine V.aload_n (q := 21) rfl dX13_tryNext_20 rfl rfl ?_
    refine V.aload_n (q := 22) rfl dX13_tryNext_21 rfl rfl ?_
    obtain ⟨_, e2, hf⟩ := bd_ex hf
    obtain ⟨v3, h2, eh2, hf⟩ := bd2_ex hf
    refine V.callV (q := 25) (ci := 13) (vs := []) (st := [.ref a0]) (S2 := [.int v3, .ref a0]) okX13_tries imX13_tries seX13_tries rfl lkX13_438 (tX13_tries eh2) rfl (ck_is e2) (by decide) rfl (Nat.le_of_ble_eq_true rfl) (Nat.le_of_ble_eq_true rfl) rfl dX13_tryNext_22 rfl rfl ?_
    obtain ⟨_, e4, hf⟩ := bd_ex hf
    obtain ⟨v5, h3, eh3, hf⟩ := bd2_ex hf
    refine V.callV (q := 28) (ci := 13) (vs := [.int v3]) (st := []) (S2 := [.int v5]) okX13_good1 imX13_good1 seX13_good1 rfl lkX13_58 (tX13_good1 eh3) rfl (ck_is e4) (by decide) rfl (Nat.le_of_ble_eq_true rfl) (Nat.le_of_ble_eq_true rfl) rfl dX13_tryNext_25 rfl rfl ?_
    obtain ⟨rfl, rfl⟩ := ret_inj hf
    exact V.ret (r := some (.int v5)) trivial dX13_tryNext_28
  · rw [if_pos c] at hf
    refine V.aload_n (q := 13) rfl dX13_tryNext_12 rfl rfl ?_
    refine V.iconst (q := 14) (v := 1) (by decide) dX13_tryNext_13 rfl ?_
    obtain ⟨_, e6, hf⟩ := bd_ex hf
    obtain ⟨v7, h4, eh4, hf⟩ := bd2_ex hf
    refine V.callV (q := 17) (ci := 13) (vs := [.int 1]) (st := []) (S2 := [.int v7]) okX13_refused imX13_refused seX13_refused rfl lkX13_54 (tX13_refused eh4) rfl (ck_is e6) (by decide) rfl (Nat.le_of_ble_eq_true rfl) (Nat.le_of_ble_eq_true rfl) rfl dX13_tryNext_14 rfl rfl ?_
    refine V.goto (q := 28) dX13_tryNext_17 (by decide) ?_
    obtain ⟨rfl, rfl⟩ := ret_inj hf
    exact V.ret (r := some (.int v7)) trivial dX13_tryNext_28
def bX13_undo_38 (k38 : MH → Nat → Int32 → Option (Int32 × MH)) (h : MH) (a0 : Nat) (x1 : Int32) : Option (Int32 × MH) := if 31 ≤ x1 then (bd (ck h a0 13) fun _ => bd2 (fX13_granted h a0 ) fun v2 h1 => rB v2 h1) else (bd (gR h a0 13 15) fun b1 => bd (gR h a0 13 16) fun b2 => bd (gI h a0 13 18) fun v3 => bd (lI h b2 ((31 * v3) + x1)) fun v4 => bd (tI h b1 x1 v4) fun h1 => bd (some (x1 + 1)) fun v5 => k38 h1 a0 v5)
set_option maxRecDepth 20000 in
theorem tX13_undo_38 {r : Int32} {h' : MH} (k38 : MH → Nat → Int32 → Option (Int32 × MH)) (hk38 : ∀ (h : MH) (a0 : Nat) (x1 : Int32), k38 h a0 x1 = some (r, h') → V TT mX13_undo 2 (some (.int r)) h' h 38 [.ref a0, .int x1] [])  {h : MH} {a0 : Nat} {x1 : Int32} (hf : bX13_undo_38 k38 h a0 x1 = some (r, h')) : V TT mX13_undo 2 (some (.int r)) h' h 38 [.ref a0, .int x1] [] := by
  unfold bX13_undo_38 at hf
  refine V.iload_n (q := 39) rfl dX13_undo_38 rfl rfl ?_
  refine V.bipush (q := 41) (v := 31) (by decide) dX13_undo_39 rfl ?_
  refine V.icmp_ge (q := 44) (tgt := 70) dX13_undo_41 rfl (by decide) (fun c => ?_) (fun c => ?_)
  · rw [if_pos c] at hf
    refine V.aload_n (q := 71) rfl dX13_undo_70 rfl rfl ?_
    obtain ⟨_, e1, hf⟩ := bd_ex hf
    obtain ⟨v2, h1, eh1, hf⟩ := bd2_ex hf
    refine V.callV (q := 74) (ci := 13) (vs := []) (st := []) (S2 := [.int v2]) okX13_granted imX13_granted seX13_granted rfl lkX13_490 (tX13_granted eh1) rfl (ck_is e1) (by decide) rfl (Nat.le_of_ble_eq_true rfl) (Nat.le_of_ble_eq_true rfl) rfl dX13_undo_71 rfl rfl ?_
    obtain ⟨hb, rfl, rfl⟩ := rB_inj hf
    exact V.ret (r := some (.int v2)) hb dX13_undo_74
  · rw [if_neg c] at hf
    refine V.aload_n (q := 45) rfl dX13_undo_44 rfl rfl ?_
    obtain ⟨b1, eb1, hf⟩ := bd_ex hf
    refine V.getR (q := 48) flX13_17 rfl eb1 dX13_undo_45 rfl ?_
    refine V.iload_n (q := 49) rfl dX13_undo_48 rfl rfl ?_
    refine V.aload_n (q := 50) rfl dX13_undo_49 rfl rfl ?_
    obtain ⟨b2, eb2, hf⟩ := bd_ex hf
    refine V.getR (q := 53) flX13_21 rfl eb2 dX13_undo_50 rfl ?_
    refine V.bipush (q := 55) (v := 31) (by decide) dX13_undo_53 rfl ?_
    refine V.aload_n (q := 56) rfl dX13_undo_55 rfl rfl ?_
    obtain ⟨v3, ev3, hf⟩ := bd_ex hf
    refine V.getI (q := 59) flX13_340 rfl ev3 dX13_undo_56 rfl ?_
    refine V.imul (q := 60) dX13_undo_59 rfl ?_
    refine V.iload_n (q := 61) rfl dX13_undo_60 rfl rfl ?_
    refine V.iadd (q := 62) dX13_undo_61 rfl ?_
    obtain ⟨v4, ev4, hf⟩ := bd_ex hf
    refine V.iald (q := 63) ev4 dX13_undo_62 rfl ?_
    obtain ⟨h1, eh1, hf⟩ := bd_ex hf
    refine V.iast (q := 64) eh1 dX13_undo_63 rfl ?_
    obtain ⟨v5, ev5, hf⟩ := bd_ex hf
    refine V.iinc (q := 67) (v := v5) (L' := [.ref a0, .int v5]) dX13_undo_64 rfl rfl (Option.some.inj ev5) (by decide) rfl rfl ?_
    refine V.goto (q := 38) dX13_undo_67 (by decide) ?_
    exact hk38 _ _ _ hf
def fX13_undo_38  : Nat → MH → Nat → Int32 → Option (Int32 × MH)
  | 0 => fun _ _ _ => none
  | n + 1 => bX13_undo_38  (fX13_undo_38  n)
theorem tlX13_undo_38 {r : Int32} {h' : MH}   : ∀ (n : Nat) (h : MH) (a0 : Nat) (x1 : Int32), fX13_undo_38  n h a0 x1 = some (r, h') → V TT mX13_undo 2 (some (.int r)) h' h 38 [.ref a0, .int x1] [] := by
  intro n
  induction n with
  | zero => intro h a0 x1 hf; exact nomatch (show (none : Option (Int32 × MH)) = some (r, h') from hf)
  | succ n ih => intro h a0 x1 hf; exact tX13_undo_38  (fX13_undo_38  n) ih hf
def fX13_undo (h : MH) (a0 : Nat) : Option (Int32 × MH) := bd (pI h a0 13 0 0) fun h1 => bd (gZ h1 a0 13 3) fun z1 => if z1 = true then (bd (ck h1 a0 13) fun _ => bd2 (fX13_denied h1 a0 6) fun v3 h2 => rB v3 h2) else (bd (gI h1 a0 13 18) fun v4 => if v4 = 0 then (bd (ck h1 a0 13) fun _ => bd2 (fX13_denied h1 a0 6) fun v6 h3 => rB v6 h3) else (bd (gI h1 a0 13 18) fun v5 => bd (pI h1 a0 13 18 (v5 - 1)) fun h3 => fX13_undo_38 FU h3 a0 0))
set_option maxRecDepth 20000 in
theorem tX13_undo {r : Int32} {h' : MH} {h : MH} {a0 : Nat} (hf : fX13_undo h a0 = some (r, h')) : VM mX13_undo 2 (some (.int r)) h' h [.ref a0] := by
  show V TT mX13_undo 2 _ h' h 0 [.ref a0, Jk] []
  unfold fX13_undo at hf
  refine V.aload_n (q := 1) rfl dX13_undo_0 rfl rfl ?_
  refine V.iconst (q := 2) (v := 0) (by decide) dX13_undo_1 rfl ?_
  obtain ⟨h1, eh1, hf⟩ := bd_ex hf
  refine V.putI (q := 5) (fpX13_48 rfl) rfl eh1 dX13_undo_2 rfl ?_
  refine V.aload_n (q := 6) rfl dX13_undo_5 rfl rfl ?_
  obtain ⟨z1, ez1, hf⟩ := bd_ex hf
  refine V.getZ (q := 9) (q2 := 12) (tgt := 19) flX13_338 rfl ez1 dX13_undo_6 rfl dX13_undo_9 rfl (by decide) (fun c => ?_) (fun c => ?_)
  · rw [if_pos c] at hf
    refine V.aload_n (q := 20) rfl dX13_undo_19 rfl rfl ?_
    refine V.bipush (q := 22) (v := 6) (by decide) dX13_undo_20 rfl ?_
    obtain ⟨_, e2, hf⟩ := bd_ex hf
    obtain ⟨v3, h2, eh2, hf⟩ := bd2_ex hf
    refine V.callV (q := 25) (ci := 13) (vs := [.int 6]) (st := []) (S2 := [.int v3]) okX13_denied imX13_denied seX13_denied rfl lkX13_487 (tX13_denied eh2) rfl (ck_is e2) (by decide) rfl (Nat.le_of_ble_eq_true rfl) (Nat.le_of_ble_eq_true rfl) rfl dX13_undo_22 rfl rfl ?_
    obtain ⟨hb, rfl, rfl⟩ := rB_inj hf
    exact V.ret (r := some (.int v3)) hb dX13_undo_25
  · rw [if_neg c] at hf
    refine V.aload_n (q := 13) rfl dX13_undo_12 rfl rfl ?_
    obtain ⟨v4, ev4, hf⟩ := bd_ex hf
    refine V.getI (q := 16) flX13_340 rfl ev4 dX13_undo_13 rfl ?_
    refine V.if_ne (q := 19) (tgt := 26) dX13_undo_16 rfl (by decide) (fun c => ?_) (fun c => ?_)
    · rw [if_neg c] at hf
      refine V.aload_n (q := 27) rfl dX13_undo_26 rfl rfl ?_
      refine V.dupR (q := 28) dX13_undo_27 rfl ?_
      obtain ⟨v5, ev5, hf⟩ := bd_ex hf
      refine V.getI (q := 31) flX13_340 rfl ev5 dX13_undo_28 rfl ?_
      refine V.iconst (q := 32) (v := 1) (by decide) dX13_undo_31 rfl ?_
      refine V.isub (q := 33) dX13_undo_32 rfl ?_
      obtain ⟨h3, eh3, hf⟩ := bd_ex hf
      refine V.putI (q := 36) (fpX13_340 rfl) rfl eh3 dX13_undo_33 rfl ?_
      refine V.iconst (q := 37) (v := 0) (by decide) dX13_undo_36 rfl ?_
      refine V.istore_n (q := 38) (L' := [.ref a0, .int 0]) rfl dX13_undo_37 rfl (by decide) rfl rfl ?_
      exact tlX13_undo_38  FU _ _ _ hf
    · rw [if_pos c] at hf
      refine V.aload_n (q := 20) rfl dX13_undo_19 rfl rfl ?_
      refine V.bipush (q := 22) (v := 6) (by decide) dX13_undo_20 rfl ?_
      obtain ⟨_, e5, hf⟩ := bd_ex hf
      obtain ⟨v6, h3, eh3, hf⟩ := bd2_ex hf
      refine V.callV (q := 25) (ci := 13) (vs := [.int 6]) (st := []) (S2 := [.int v6]) okX13_denied imX13_denied seX13_denied rfl lkX13_487 (tX13_denied eh3) rfl (ck_is e5) (by decide) rfl (Nat.le_of_ble_eq_true rfl) (Nat.le_of_ble_eq_true rfl) rfl dX13_undo_22 rfl rfl ?_
      obtain ⟨hb, rfl, rfl⟩ := rB_inj hf
      exact V.ret (r := some (.int v6)) hb dX13_undo_25
