def fX8_readPaper (h : MH) (a0 : Nat) : Option (Int32 × MH) := bd (gR h a0 8 9) fun b1 => bd (gI h b1 7 14) fun v2 => bd (ck h a0 8) fun _ => bd2 (fX8_takeNewName h a0 2 v2) fun v4 h1 => if v4 = 0 then (some (0, h1)) else (bd (ck h1 a0 8) fun _ => bd2 (fX8_takeFiller h1 a0 1) fun v6 h2 => if v6 = 0 then (some (0, h2)) else (bd (gR h2 a0 8 9) fun b7 => bd (gR h2 b7 7 0) fun b8 => bd (ck h2 a0 8) fun _ => bd2 (fX8_takeWhole h2 a0 99) fun v10 h3 => bd (tI h3 b8 v2 v10) fun h4 => bd (gI h4 a0 8 12) fun v11 => if v11 = 0 then (bd (gR h4 a0 8 5) fun b12 => bd (ck h4 a0 8) fun _ => bd2 (fX8_takeMarks h4 a0 ) fun v14 h5 => bd (ck h5 b12 4) fun _ => bd (fX4_setMarks h5 b12 v2 v14) fun h6 => bd (gR h6 a0 8 9) fun b16 => bd (gR h6 b16 7 1) fun b17 => bd (tI h6 b17 v2 (-2)) fun h7 => bd (gR h7 a0 8 9) fun b18 => bd (gI h7 b18 7 14) fun v19 => bd (pI h7 b18 7 14 (v19 + 1)) fun h8 => bd (gI h8 a0 8 12) fun v20 => if v20 = 0 then (some (1, h8)) else (some (0, h8))) else (some (0, h4))))
set_option maxRecDepth 20000 in
theorem tX8_readPaper {r : Int32} {h' : MH} {h : MH} {a0 : Nat} (hf : fX8_readPaper h a0 = some (r, h')) : VM mX8_readPaper 3 (some (.int r)) h' h [.ref a0] := by
  show V TT mX8_readPaper 3 _ h' h 0 [.ref a0, Jk] []
  unfold fX8_readPaper at hf
  refine V.aload_n (q := 1) rfl dX8_readPaper_0 rfl rfl ?_
  obtain ⟨b1, eb1, hf⟩ := bd_ex hf
  refine V.getR (q := 4) flX8_44 rfl eb1 dX8_readPaper_1 rfl ?_
  obtain ⟨v2, ev2, hf⟩ := bd_ex hf
  refine V.getI (q := 7) flX8_102 rfl ev2 dX8_readPaper_4 rfl ?_
  refine V.istore_n (q := 8) (L' := [.ref a0, .int v2]) rfl dX8_readPaper_7 rfl (by decide) rfl rfl ?_
  refine V.aload_n (q := 9) rfl dX8_readPaper_8 rfl rfl ?_
  refine V.iconst (q := 10) (v := 2) (by decide) dX8_readPaper_9 rfl ?_
  refine V.iload_n (q := 11) rfl dX8_readPaper_10 rfl rfl ?_
  obtain ⟨_, e3, hf⟩ := bd_ex hf
  obtain ⟨v4, h1, eh1, hf⟩ := bd2_ex hf
  refine V.callV (q := 14) (ci := 8) (vs := [.int 2, .int v2]) (st := []) (S2 := [.int v4]) okX8_takeNewName imX8_takeNewName seX8_takeNewName rfl lkX8_161 (tX8_takeNewName eh1) rfl (ck_is e3) (by decide) rfl (Nat.le_of_ble_eq_true rfl) (Nat.le_of_ble_eq_true rfl) rfl dX8_readPaper_11 rfl rfl ?_
  refine V.if_eq (q := 17) (tgt := 25) dX8_readPaper_14 rfl (by decide) (fun c => ?_) (fun c => ?_)
  · rw [if_pos c] at hf
    refine V.iconst (q := 26) (v := 0) (by decide) dX8_readPaper_25 rfl ?_
    obtain ⟨rfl, rfl⟩ := ret_inj hf
    exact V.ret (r := some (.int 0)) (Or.inl rfl) dX8_readPaper_26
  · rw [if_neg c] at hf
    refine V.aload_n (q := 18) rfl dX8_readPaper_17 rfl rfl ?_
    refine V.iconst (q := 19) (v := 1) (by decide) dX8_readPaper_18 rfl ?_
    obtain ⟨_, e5, hf⟩ := bd_ex hf
    obtain ⟨v6, h2, eh2, hf⟩ := bd2_ex hf
    refine V.callV (q := 22) (ci := 8) (vs := [.int 1]) (st := []) (S2 := [.int v6]) okX8_takeFiller imX8_takeFiller seX8_takeFiller rfl lkX8_151 (tX8_takeFiller eh2) rfl (ck_is e5) (by decide) rfl (Nat.le_of_ble_eq_true rfl) (Nat.le_of_ble_eq_true rfl) rfl dX8_readPaper_19 rfl rfl ?_
    refine V.if_ne (q := 25) (tgt := 27) dX8_readPaper_22 rfl (by decide) (fun c => ?_) (fun c => ?_)
    · rw [if_neg c] at hf
      refine V.aload_n (q := 28) rfl dX8_readPaper_27 rfl rfl ?_
      obtain ⟨b7, eb7, hf⟩ := bd_ex hf
      refine V.getR (q := 31) flX8_44 rfl eb7 dX8_readPaper_28 rfl ?_
      obtain ⟨b8, eb8, hf⟩ := bd_ex hf
      refine V.getR (q := 34) flX8_165 rfl eb8 dX8_readPaper_31 rfl ?_
      refine V.iload_n (q := 35) rfl dX8_readPaper_34 rfl rfl ?_
      refine V.aload_n (q := 36) rfl dX8_readPaper_35 rfl rfl ?_
      refine V.bipush (q := 38) (v := 99) (by decide) dX8_readPaper_36 rfl ?_
      obtain ⟨_, e9, hf⟩ := bd_ex hf
      obtain ⟨v10, h3, eh3, hf⟩ := bd2_ex hf
      refine V.callV (q := 41) (ci := 8) (vs := [.int 99]) (st := [.int v2, .ref b8]) (S2 := [.int v10, .int v2, .ref b8]) okX8_takeWhole imX8_takeWhole seX8_takeWhole rfl lkX8_154 (tX8_takeWhole eh3) rfl (ck_is e9) (by decide) rfl (Nat.le_of_ble_eq_true rfl) (Nat.le_of_ble_eq_true rfl) rfl dX8_readPaper_38 rfl rfl ?_
      obtain ⟨h4, eh4, hf⟩ := bd_ex hf
      refine V.iast (q := 42) eh4 dX8_readPaper_41 rfl ?_
      refine V.aload_n (q := 43) rfl dX8_readPaper_42 rfl rfl ?_
      obtain ⟨v11, ev11, hf⟩ := bd_ex hf
      refine V.getI (q := 46) flX8_78 rfl ev11 dX8_readPaper_43 rfl ?_
      refine V.if_eq (q := 49) (tgt := 51) dX8_readPaper_46 rfl (by decide) (fun c => ?_) (fun c => ?_)
      · rw [if_pos c] at hf
        refine V.aload_n (q := 52) rfl dX8_readPaper_51 rfl rfl ?_
        obtain ⟨b12, eb12, hf⟩ := bd_ex hf
        refine V.getR (q := 55) flX8_27 rfl eb12 dX8_readPaper_52 rfl ?_
        refine V.iload_n (q := 56) rfl dX8_readPaper_55 rfl rfl ?_
        refine V.aload_n (q := 57) rfl dX8_readPaper_56 rfl rfl ?_
        obtain ⟨_, e13, hf⟩ := bd_ex hf
        obtain ⟨v14, h5, eh5, hf⟩ := bd2_ex hf
        refine V.callV (q := 60) (ci := 8) (vs := []) (st := [.int v2, .ref b12]) (S2 := [.int v14, .int v2, .ref b12]) okX8_takeMarks imX8_takeMarks seX8_takeMarks rfl lkX8_168 (tX8_takeMarks eh5) rfl (ck_is e13) (by decide) rfl (Nat.le_of_ble_eq_true rfl) (Nat.le_of_ble_eq_true rfl) rfl dX8_readPaper_57 rfl rfl ?_
        obtain ⟨_, e15, hf⟩ := bd_ex hf
        obtain ⟨h6, eh6, hf⟩ := bd_ex hf
        refine V.callV (q := 63) (ci := 4) (vs := [.int v2, .int v14]) (st := []) (S2 := []) okX4_setMarks imX4_setMarks seX4_setMarks rfl lkX8_172 (tX4_setMarks eh6) rfl (ck_is e15) (by decide) rfl (Nat.le_of_ble_eq_true rfl) (Nat.le_of_ble_eq_true rfl) rfl dX8_readPaper_60 rfl rfl ?_
        refine V.aload_n (q := 64) rfl dX8_readPaper_63 rfl rfl ?_
        obtain ⟨b16, eb16, hf⟩ := bd_ex hf
        refine V.getR (q := 67) flX8_44 rfl eb16 dX8_readPaper_64 rfl ?_
        obtain ⟨b17, eb17, hf⟩ := bd_ex hf
        refine V.getR (q := 70) flX8_176 rfl eb17 dX8_readPaper_67 rfl ?_
        refine V.iload_n (q := 71) rfl dX8_readPaper_70 rfl rfl ?_
        refine V.bipush (q := 73) (v := (-2)) (by decide) dX8_readPaper_71 rfl ?_
        obtain ⟨h7, eh7, hf⟩ := bd_ex hf
        refine V.iast (q := 74) eh7 dX8_readPaper_73 rfl ?_
        refine V.aload_n (q := 75) rfl dX8_readPaper_74 rfl rfl ?_
        obtain ⟨b18, eb18, hf⟩ := bd_ex hf
        refine V.getR (q := 78) flX8_44 rfl eb18 dX8_readPaper_75 rfl ?_
        refine V.dupR (q := 79) dX8_readPaper_78 rfl ?_
        obtain ⟨v19, ev19, hf⟩ := bd_ex hf
        refine V.getI (q := 82) flX8_102 rfl ev19 dX8_readPaper_79 rfl ?_
        refine V.iconst (q := 83) (v := 1) (by decide) dX8_readPaper_82 rfl ?_
        refine V.iadd (q := 84) dX8_readPaper_83 rfl ?_
        obtain ⟨h8, eh8, hf⟩ := bd_ex hf
        refine V.putI (q := 87) (fpX8_102 rfl) rfl eh8 dX8_readPaper_84 rfl ?_
        refine V.aload_n (q := 88) rfl dX8_readPaper_87 rfl rfl ?_
        obtain ⟨v20, ev20, hf⟩ := bd_ex hf
        refine V.getI (q := 91) flX8_78 rfl ev20 dX8_readPaper_88 rfl ?_
        refine V.if_ne (q := 94) (tgt := 98) dX8_readPaper_91 rfl (by decide) (fun c => ?_) (fun c => ?_)
        · rw [if_neg c] at hf
          refine V.iconst (q := 99) (v := 0) (by decide) dX8_readPaper_98 rfl ?_
          obtain ⟨rfl, rfl⟩ := ret_inj hf
          exact V.ret (r := some (.int 0)) (Or.inl rfl) dX8_readPaper_99
        · rw [if_pos c] at hf
          refine V.iconst (q := 95) (v := 1) (by decide) dX8_readPaper_94 rfl ?_
          refine V.goto (q := 99) dX8_readPaper_95 (by decide) ?_
          obtain ⟨rfl, rfl⟩ := ret_inj hf
          exact V.ret (r := some (.int 1)) (Or.inr rfl) dX8_readPaper_99
      · rw [if_neg c] at hf
        refine V.iconst (q := 50) (v := 0) (by decide) dX8_readPaper_49 rfl ?_
        obtain ⟨rfl, rfl⟩ := ret_inj hf
        exact V.ret (r := some (.int 0)) (Or.inl rfl) dX8_readPaper_50
    · rw [if_pos c] at hf
      refine V.iconst (q := 26) (v := 0) (by decide) dX8_readPaper_25 rfl ?_
      obtain ⟨rfl, rfl⟩ := ret_inj hf
      exact V.ret (r := some (.int 0)) (Or.inl rfl) dX8_readPaper_26
def fX8_takeOldName (h : MH) (a0 : Nat) (x1 : Int32) : Option (Int32 × MH) := bd (ck h a0 8) fun _ => bd2 (fX8_findOldName h a0 x1) fun v2 h1 => if v2 < 0 then (some (v2, h1)) else (bd (gR h1 a0 8 0) fun b3 => bd (ck h1 b3 10) fun _ => bd (fX10_advance h1 b3 ) fun h2 => some (v2, h2))
set_option maxRecDepth 20000 in
theorem tX8_takeOldName {r : Int32} {h' : MH} {h : MH} {a0 : Nat} {x1 : Int32} (hf : fX8_takeOldName h a0 x1 = some (r, h')) : VM mX8_takeOldName 2 (some (.int r)) h' h [.ref a0, .int x1] := by
  show V TT mX8_takeOldName 2 _ h' h 0 [.ref a0, .int x1, Jk] []
  unfold fX8_takeOldName at hf
  refine V.aload_n (q := 1) rfl dX8_takeOldName_0 rfl rfl ?_
  refine V.iload_n (q := 2) rfl dX8_takeOldName_1 rfl rfl ?_
  obtain ⟨_, e1, hf⟩ := bd_ex hf
  obtain ⟨v2, h1, eh1, hf⟩ := bd2_ex hf
  refine V.callV (q := 5) (ci := 8) (vs := [.int x1]) (st := []) (S2 := [.int v2]) okX8_findOldName imX8_findOldName seX8_findOldName rfl lkX8_212 (tX8_findOldName eh1) rfl (ck_is e1) (by decide) rfl (Nat.le_of_ble_eq_true rfl) (Nat.le_of_ble_eq_true rfl) rfl dX8_takeOldName_2 rfl rfl ?_
  refine V.istore_n (q := 6) (L' := [.ref a0, .int x1, .int v2]) rfl dX8_takeOldName_5 rfl (by decide) rfl rfl ?_
  refine V.iload_n (q := 7) rfl dX8_takeOldName_6 rfl rfl ?_
  refine V.if_lt (q := 10) (tgt := 17) dX8_takeOldName_7 rfl (by decide) (fun c => ?_) (fun c => ?_)
  · rw [if_pos c] at hf
    refine V.iload_n (q := 18) rfl dX8_takeOldName_17 rfl rfl ?_
    obtain ⟨rfl, rfl⟩ := ret_inj hf
    exact V.ret (r := some (.int v2)) trivial dX8_takeOldName_18
  · rw [if_neg c] at hf
    refine V.aload_n (q := 11) rfl dX8_takeOldName_10 rfl rfl ?_
    obtain ⟨b3, eb3, hf⟩ := bd_ex hf
    refine V.getR (q := 14) flX8_48 rfl eb3 dX8_takeOldName_11 rfl ?_
    obtain ⟨_, e4, hf⟩ := bd_ex hf
    obtain ⟨h2, eh2, hf⟩ := bd_ex hf
    refine V.callV (q := 17) (ci := 10) (vs := []) (st := []) (S2 := []) okX10_advance imX10_advance seX10_advance rfl lkX8_99 (tX10_advance eh2) rfl (ck_is e4) (by decide) rfl (Nat.le_of_ble_eq_true rfl) (Nat.le_of_ble_eq_true rfl) rfl dX8_takeOldName_14 rfl rfl ?_
    refine V.iload_n (q := 18) rfl dX8_takeOldName_17 rfl rfl ?_
    obtain ⟨rfl, rfl⟩ := ret_inj hf
    exact V.ret (r := some (.int v2)) trivial dX8_takeOldName_18
def fX8_readPrint (h : MH) (a0 : Nat) : Option (Int32 × MH) := bd (gR h a0 8 9) fun b1 => bd (gI h b1 7 19) fun v2 => bd (gR h a0 8 9) fun b3 => bd (gR h b3 7 9) fun b4 => bd (ck h a0 8) fun _ => bd2 (fX8_takeOldName h a0 2) fun v6 h1 => bd (tI h1 b4 v2 v6) fun h2 => bd (gI h2 a0 8 12) fun v7 => if v7 = 0 then (bd (gR h2 a0 8 9) fun b8 => bd (gR h2 b8 7 10) fun b9 => bd (ck h2 a0 8) fun _ => bd2 (fX8_takeOldName h2 a0 5) fun v11 h3 => bd (tI h3 b9 v2 v11) fun h4 => bd (gI h4 a0 8 12) fun v12 => if v12 = 0 then (bd (gR h4 a0 8 9) fun b13 => bd (gR h4 b13 7 11) fun b14 => bd (gR h4 a0 8 3) fun b15 => bd (ck h4 a0 8) fun _ => bd2 (fX8_takeChoice h4 a0 b15) fun v17 h5 => bd (tI h5 b14 v2 v17) fun h6 => bd (gR h6 a0 8 9) fun b18 => bd (gI h6 b18 7 19) fun v19 => bd (pI h6 b18 7 19 (v19 + 1)) fun h7 => bd (gI h7 a0 8 12) fun v20 => if v20 = 0 then (some (1, h7)) else (some (0, h7))) else (some (0, h4))) else (some (0, h2))
set_option maxRecDepth 20000 in
theorem tX8_readPrint {r : Int32} {h' : MH} {h : MH} {a0 : Nat} (hf : fX8_readPrint h a0 = some (r, h')) : VM mX8_readPrint 3 (some (.int r)) h' h [.ref a0] := by
  show V TT mX8_readPrint 3 _ h' h 0 [.ref a0, Jk] []
  unfold fX8_readPrint at hf
  refine V.aload_n (q := 1) rfl dX8_readPrint_0 rfl rfl ?_
  obtain ⟨b1, eb1, hf⟩ := bd_ex hf
  refine V.getR (q := 4) flX8_44 rfl eb1 dX8_readPrint_1 rfl ?_
  obtain ⟨v2, ev2, hf⟩ := bd_ex hf
  refine V.getI (q := 7) flX8_148 rfl ev2 dX8_readPrint_4 rfl ?_
  refine V.istore_n (q := 8) (L' := [.ref a0, .int v2]) rfl dX8_readPrint_7 rfl (by decide) rfl rfl ?_
  refine V.aload_n (q := 9) rfl dX8_readPrint_8 rfl rfl ?_
  obtain ⟨b3, eb3, hf⟩ := bd_ex hf
  refine V.getR (q := 12) flX8_44 rfl eb3 dX8_readPrint_9 rfl ?_
  obtain ⟨b4, eb4, hf⟩ := bd_ex hf
  refine V.getR (q := 15) flX8_218 rfl eb4 dX8_readPrint_12 rfl ?_
  refine V.iload_n (q := 16) rfl dX8_readPrint_15 rfl rfl ?_
  refine V.aload_n (q := 17) rfl dX8_readPrint_16 rfl rfl ?_
  refine V.iconst (q := 18) (v := 2) (by decide) dX8_readPrint_17 rfl ?_
  obtain ⟨_, e5, hf⟩ := bd_ex hf
  obtain ⟨v6, h1, eh1, hf⟩ := bd2_ex hf
  refine V.callV (q := 21) (ci := 8) (vs := [.int 2]) (st := [.int v2, .ref b4]) (S2 := [.int v6, .int v2, .ref b4]) okX8_takeOldName imX8_takeOldName seX8_takeOldName rfl lkX8_194 (tX8_takeOldName eh1) rfl (ck_is e5) (by decide) rfl (Nat.le_of_ble_eq_true rfl) (Nat.le_of_ble_eq_true rfl) rfl dX8_readPrint_18 rfl rfl ?_
  obtain ⟨h2, eh2, hf⟩ := bd_ex hf
  refine V.iast (q := 22) eh2 dX8_readPrint_21 rfl ?_
  refine V.aload_n (q := 23) rfl dX8_readPrint_22 rfl rfl ?_
  obtain ⟨v7, ev7, hf⟩ := bd_ex hf
  refine V.getI (q := 26) flX8_78 rfl ev7 dX8_readPrint_23 rfl ?_
  refine V.if_eq (q := 29) (tgt := 31) dX8_readPrint_26 rfl (by decide) (fun c => ?_) (fun c => ?_)
  · rw [if_pos c] at hf
    refine V.aload_n (q := 32) rfl dX8_readPrint_31 rfl rfl ?_
    obtain ⟨b8, eb8, hf⟩ := bd_ex hf
    refine V.getR (q := 35) flX8_44 rfl eb8 dX8_readPrint_32 rfl ?_
    obtain ⟨b9, eb9, hf⟩ := bd_ex hf
    refine V.getR (q := 38) flX8_221 rfl eb9 dX8_readPrint_35 rfl ?_
    refine V.iload_n (q := 39) rfl dX8_readPrint_38 rfl rfl ?_
    refine V.aload_n (q := 40) rfl dX8_readPrint_39 rfl rfl ?_
    refine V.iconst (q := 41) (v := 5) (by decide) dX8_readPrint_40 rfl ?_
    obtain ⟨_, e10, hf⟩ := bd_ex hf
    obtain ⟨v11, h3, eh3, hf⟩ := bd2_ex hf
    refine V.callV (q := 44) (ci := 8) (vs := [.int 5]) (st := [.int v2, .ref b9]) (S2 := [.int v11, .int v2, .ref b9]) okX8_takeOldName imX8_takeOldName seX8_takeOldName rfl lkX8_194 (tX8_takeOldName eh3) rfl (ck_is e10) (by decide) rfl (Nat.le_of_ble_eq_true rfl) (Nat.le_of_ble_eq_true rfl) rfl dX8_readPrint_41 rfl rfl ?_
    obtain ⟨h4, eh4, hf⟩ := bd_ex hf
    refine V.iast (q := 45) eh4 dX8_readPrint_44 rfl ?_
    refine V.aload_n (q := 46) rfl dX8_readPrint_45 rfl rfl ?_
    obtain ⟨v12, ev12, hf⟩ := bd_ex hf
    refine V.getI (q := 49) flX8_78 rfl ev12 dX8_readPrint_46 rfl ?_
    refine V.if_eq (q := 52) (tgt := 54) dX8_readPrint_49 rfl (by decide) (fun c => ?_) (fun c => ?_)
    · rw [if_pos c] at hf
      refine V.aload_n (q := 55) rfl dX8_readPrint_54 rfl rfl ?_
      obtain ⟨b13, eb13, hf⟩ := bd_ex hf
      refine V.getR (q := 58) flX8_44 rfl eb13 dX8_readPrint_55 rfl ?_
      obtain ⟨b14, eb14, hf⟩ := bd_ex hf
      refine V.getR (q := 61) flX8_224 rfl eb14 dX8_readPrint_58 rfl ?_
      refine V.iload_n (q := 62) rfl dX8_readPrint_61 rfl rfl ?_
      refine V.aload_n (q := 63) rfl dX8_readPrint_62 rfl rfl ?_
      refine V.aload_n (q := 64) rfl dX8_readPrint_63 rfl rfl ?_
      obtain ⟨b15, eb15, hf⟩ := bd_ex hf
      refine V.getR (q := 67) flX8_18 rfl eb15 dX8_readPrint_64 rfl ?_
      obtain ⟨_, e16, hf⟩ := bd_ex hf
      obtain ⟨v17, h5, eh5, hf⟩ := bd2_ex hf
      refine V.callV (q := 70) (ci := 8) (vs := [.ref b15]) (st := [.int v2, .ref b14]) (S2 := [.int v17, .int v2, .ref b14]) okX8_takeChoice imX8_takeChoice seX8_takeChoice rfl lkX8_185 (tX8_takeChoice eh5) rfl (ck_is e16) (by decide) rfl (Nat.le_of_ble_eq_true rfl) (Nat.le_of_ble_eq_true rfl) rfl dX8_readPrint_67 rfl rfl ?_
      obtain ⟨h6, eh6, hf⟩ := bd_ex hf
      refine V.iast (q := 71) eh6 dX8_readPrint_70 rfl ?_
      refine V.aload_n (q := 72) rfl dX8_readPrint_71 rfl rfl ?_
      obtain ⟨b18, eb18, hf⟩ := bd_ex hf
      refine V.getR (q := 75) flX8_44 rfl eb18 dX8_readPrint_72 rfl ?_
      refine V.dupR (q := 76) dX8_readPrint_75 rfl ?_
      obtain ⟨v19, ev19, hf⟩ := bd_ex hf
      refine V.getI (q := 79) flX8_148 rfl ev19 dX8_readPrint_76 rfl ?_
      refine V.iconst (q := 80) (v := 1) (by decide) dX8_readPrint_79 rfl ?_
      refine V.iadd (q := 81) dX8_readPrint_80 rfl ?_
      obtain ⟨h7, eh7, hf⟩ := bd_ex hf
      refine V.putI (q := 84) (fpX8_148 rfl) rfl eh7 dX8_readPrint_81 rfl ?_
      refine V.aload_n (q := 85) rfl dX8_readPrint_84 rfl rfl ?_
      obtain ⟨v20, ev20, hf⟩ := bd_ex hf
      refine V.getI (q := 88) flX8_78 rfl ev20 dX8_readPrint_85 rfl ?_
      refine V.if_ne (q := 91) (tgt := 95) dX8_readPrint_88 rfl (by decide) (fun c => ?_) (fun c => ?_)
      · rw [if_neg c] at hf
        refine V.iconst (q := 96) (v := 0) (by decide) dX8_readPrint_95 rfl ?_
        obtain ⟨rfl, rfl⟩ := ret_inj hf
        exact V.ret (r := some (.int 0)) (Or.inl rfl) dX8_readPrint_96
      · rw [if_pos c] at hf
        refine V.iconst (q := 92) (v := 1) (by decide) dX8_readPrint_91 rfl ?_
        refine V.goto (q := 96) dX8_readPrint_92 (by decide) ?_
        obtain ⟨rfl, rfl⟩ := ret_inj hf
        exact V.ret (r := some (.int 1)) (Or.inr rfl) dX8_readPrint_96
    · rw [if_neg c] at hf
      refine V.iconst (q := 53) (v := 0) (by decide) dX8_readPrint_52 rfl ?_
      obtain ⟨rfl, rfl⟩ := ret_inj hf
      exact V.ret (r := some (.int 0)) (Or.inl rfl) dX8_readPrint_53
  · rw [if_neg c] at hf
    refine V.iconst (q := 30) (v := 0) (by decide) dX8_readPrint_29 rfl ?_
    obtain ⟨rfl, rfl⟩ := ret_inj hf
    exact V.ret (r := some (.int 0)) (Or.inl rfl) dX8_readPrint_30
def bX8_readRule_74  (h : MH) (a0 : Nat) (x1 : Int32) : Option (Int32 × MH) := bd (gR h a0 8 9) fun b1 => bd (gR h b1 7 5) fun b2 => bd (ck h a0 8) fun _ => bd2 (fX8_takeOldName h a0 1) fun v4 h1 => bd (tI h1 b2 x1 v4) fun h2 => bd (gI h2 a0 8 12) fun v5 => if v5 = 0 then (bd (gR h2 a0 8 5) fun b6 => bd (gR h2 a0 8 3) fun b7 => bd (ck h2 a0 8) fun _ => bd2 (fX8_takeChoice h2 a0 b7) fun v9 h3 => bd (ck h3 b6 4) fun _ => bd (fX4_setVerdict h3 b6 x1 v9) fun h4 => bd (gR h4 a0 8 9) fun b11 => bd (gI h4 b11 7 16) fun v12 => bd (pI h4 b11 7 16 (v12 + 1)) fun h5 => bd (gI h5 a0 8 12) fun v13 => if v13 = 0 then (some (1, h5)) else (some (0, h5))) else (some (0, h2))
set_option maxRecDepth 20000 in
theorem tX8_readRule_74 {r : Int32} {h' : MH}   {h : MH} {a0 : Nat} {x1 : Int32} (hf : bX8_readRule_74  h a0 x1 = some (r, h')) : V TT mX8_readRule 3 (some (.int r)) h' h 74 [.ref a0, .int x1] [] := by
  unfold bX8_readRule_74 at hf
  refine V.aload_n (q := 75) rfl dX8_readRule_74 rfl rfl ?_
  obtain ⟨b1, eb1, hf⟩ := bd_ex hf
  refine V.getR (q := 78) flX8_44 rfl eb1 dX8_readRule_75 rfl ?_
  obtain ⟨b2, eb2, hf⟩ := bd_ex hf
  refine V.getR (q := 81) flX8_200 rfl eb2 dX8_readRule_78 rfl ?_
  refine V.iload_n (q := 82) rfl dX8_readRule_81 rfl rfl ?_
  refine V.aload_n (q := 83) rfl dX8_readRule_82 rfl rfl ?_
  refine V.iconst (q := 84) (v := 1) (by decide) dX8_readRule_83 rfl ?_
  obtain ⟨_, e3, hf⟩ := bd_ex hf
  obtain ⟨v4, h1, eh1, hf⟩ := bd2_ex hf
  refine V.callV (q := 87) (ci := 8) (vs := [.int 1]) (st := [.int x1, .ref b2]) (S2 := [.int v4, .int x1, .ref b2]) okX8_takeOldName imX8_takeOldName seX8_takeOldName rfl lkX8_194 (tX8_takeOldName eh1) rfl (ck_is e3) (by decide) rfl (Nat.le_of_ble_eq_true rfl) (Nat.le_of_ble_eq_true rfl) rfl dX8_readRule_84 rfl rfl ?_
  obtain ⟨h2, eh2, hf⟩ := bd_ex hf
  refine V.iast (q := 88) eh2 dX8_readRule_87 rfl ?_
  refine V.aload_n (q := 89) rfl dX8_readRule_88 rfl rfl ?_
  obtain ⟨v5, ev5, hf⟩ := bd_ex hf
  refine V.getI (q := 92) flX8_78 rfl ev5 dX8_readRule_89 rfl ?_
  refine V.if_eq (q := 95) (tgt := 97) dX8_readRule_92 rfl (by decide) (fun c => ?_) (fun c => ?_)
  · rw [if_pos c] at hf
    refine V.aload_n (q := 98) rfl dX8_readRule_97 rfl rfl ?_
    obtain ⟨b6, eb6, hf⟩ := bd_ex hf
    refine V.getR (q := 101) flX8_27 rfl eb6 dX8_readRule_98 rfl ?_
    refine V.iload_n (q := 102) rfl dX8_readRule_101 rfl rfl ?_
    refine V.aload_n (q := 103) rfl dX8_readRule_102 rfl rfl ?_
    refine V.aload_n (q := 104) rfl dX8_readRule_103 rfl rfl ?_
    obtain ⟨b7, eb7, hf⟩ := bd_ex hf
    refine V.getR (q := 107) flX8_18 rfl eb7 dX8_readRule_104 rfl ?_
    obtain ⟨_, e8, hf⟩ := bd_ex hf
    obtain ⟨v9, h3, eh3, hf⟩ := bd2_ex hf
    refine V.callV (q := 110) (ci := 8) (vs := [.ref b7]) (st := [.int x1, .ref b6]) (S2 := [.int v9, .int x1, .ref b6]) okX8_takeChoice imX8_takeChoice seX8_takeChoice rfl lkX8_185 (tX8_takeChoice eh3) rfl (ck_is e8) (by decide) rfl (Nat.le_of_ble_eq_true rfl) (Nat.le_of_ble_eq_true rfl) rfl dX8_readRule_107 rfl rfl ?_
    obtain ⟨_, e10, hf⟩ := bd_ex hf
    obtain ⟨h4, eh4, hf⟩ := bd_ex hf
    refine V.callV (q := 113) (ci := 4) (vs := [.int x1, .int v9]) (st := []) (S2 := []) okX4_setVerdict imX4_setVerdict seX4_setVerdict rfl lkX8_203 (tX4_setVerdict eh4) rfl (ck_is e10) (by decide) rfl (Nat.le_of_ble_eq_true rfl) (Nat.le_of_ble_eq_true rfl) rfl dX8_readRule_110 rfl rfl ?_
    refine V.aload_n (q := 114) rfl dX8_readRule_113 rfl rfl ?_
    obtain ⟨b11, eb11, hf⟩ := bd_ex hf
    refine V.getR (q := 117) flX8_44 rfl eb11 dX8_readRule_114 rfl ?_
    refine V.dupR (q := 118) dX8_readRule_117 rfl ?_
    obtain ⟨v12, ev12, hf⟩ := bd_ex hf
    refine V.getI (q := 121) flX8_142 rfl ev12 dX8_readRule_118 rfl ?_
    refine V.iconst (q := 122) (v := 1) (by decide) dX8_readRule_121 rfl ?_
    refine V.iadd (q := 123) dX8_readRule_122 rfl ?_
    obtain ⟨h5, eh5, hf⟩ := bd_ex hf
    refine V.putI (q := 126) (fpX8_142 rfl) rfl eh5 dX8_readRule_123 rfl ?_
    refine V.aload_n (q := 127) rfl dX8_readRule_126 rfl rfl ?_
    obtain ⟨v13, ev13, hf⟩ := bd_ex hf
    refine V.getI (q := 130) flX8_78 rfl ev13 dX8_readRule_127 rfl ?_
    refine V.if_ne (q := 133) (tgt := 137) dX8_readRule_130 rfl (by decide) (fun c => ?_) (fun c => ?_)
    · rw [if_neg c] at hf
      refine V.iconst (q := 138) (v := 0) (by decide) dX8_readRule_137 rfl ?_
      obtain ⟨rfl, rfl⟩ := ret_inj hf
      exact V.ret (r := some (.int 0)) (Or.inl rfl) dX8_readRule_138
    · rw [if_pos c] at hf
      refine V.iconst (q := 134) (v := 1) (by decide) dX8_readRule_133 rfl ?_
      refine V.goto (q := 138) dX8_readRule_134 (by decide) ?_
      obtain ⟨rfl, rfl⟩ := ret_inj hf
      exact V.ret (r := some (.int 1)) (Or.inr rfl) dX8_readRule_138
  · rw [if_neg c] at hf
    refine V.iconst (q := 96) (v := 0) (by decide) dX8_readRule_95 rfl ?_
    obtain ⟨rfl, rfl⟩ := ret_inj hf
    exact V.ret (r := some (.int 0)) (Or.inl rfl) dX8_readRule_96
def fX8_readRule (h : MH) (a0 : Nat) : Option (Int32 × MH) := bd (gR h a0 8 9) fun b1 => bd (gI h b1 7 16) fun v2 => bd (gR h a0 8 9) fun b3 => bd (gR h b3 7 4) fun b4 => bd (ck h a0 8) fun _ => bd2 (fX8_takeOldName h a0 3) fun v6 h1 => bd (tI h1 b4 v2 v6) fun h2 => bd (gI h2 a0 8 12) fun v7 => if v7 = 0 then (bd (gR h2 a0 8 9) fun b8 => bd (gR h2 b8 7 6) fun b9 => bd (tI h2 b9 v2 0) fun h3 => bd (gR h3 a0 8 0) fun b10 => bd (gR h3 a0 8 1) fun b11 => bd (ck h3 b10 10) fun _ => bd2 (fX10_choice h3 b10 b11) fun v13 h4 => if v13 = 8 then (bd (gR h4 a0 8 9) fun b14 => bd (gR h4 b14 7 6) fun b15 => bd (tI h4 b15 v2 1) fun h5 => bd (gR h5 a0 8 0) fun b16 => bd (ck h5 b16 10) fun _ => bd (fX10_advance h5 b16 ) fun h6 => bX8_readRule_74 h6 a0 v2) else (bX8_readRule_74 h4 a0 v2)) else (some (0, h2))
set_option maxRecDepth 20000 in
theorem tX8_readRule {r : Int32} {h' : MH} {h : MH} {a0 : Nat} (hf : fX8_readRule h a0 = some (r, h')) : VM mX8_readRule 3 (some (.int r)) h' h [.ref a0] := by
  show V TT mX8_readRule 3 _ h' h 0 [.ref a0, Jk] []
  unfold fX8_readRule at hf
  refine V.aload_n (q := 1) rfl dX8_readRule_0 rfl rfl ?_
  obtain ⟨b1, eb1, hf⟩ := bd_ex hf
  refine V.getR (q := 4) flX8_44 rfl eb1 dX8_readRule_1 rfl ?_
  obtain ⟨v2, ev2, hf⟩ := bd_ex hf
  refine V.getI (q := 7) flX8_142 rfl ev2 dX8_readRule_4 rfl ?_
  refine V.istore_n (q := 8) (L' := [.ref a0, .int v2]) rfl dX8_readRule_7 rfl (by decide) rfl rfl ?_
  refine V.aload_n (q := 9) rfl dX8_readRule_8 rfl rfl ?_
  obtain ⟨b3, eb3, hf⟩ := bd_ex hf
  refine V.getR (q := 12) flX8_44 rfl eb3 dX8_readRule_9 rfl ?_
  obtain ⟨b4, eb4, hf⟩ := bd_ex hf
  refine V.getR (q := 15) flX8_191 rfl eb4 dX8_readRule_12 rfl ?_
  refine V.iload_n (q := 16) rfl dX8_readRule_15 rfl rfl ?_
  refine V.aload_n (q := 17) rfl dX8_readRule_16 rfl rfl ?_
  refine V.iconst (q := 18) (v := 3) (by decide) dX8_readRule_17 rfl ?_
  obtain ⟨_, e5, hf⟩ := bd_ex hf
  obtain ⟨v6, h1, eh1, hf⟩ := bd2_ex hf
  refine V.callV (q := 21) (ci := 8) (vs := [.int 3]) (st := [.int v2, .ref b4]) (S2 := [.int v6, .int v2, .ref b4]) okX8_takeOldName imX8_takeOldName seX8_takeOldName rfl lkX8_194 (tX8_takeOldName eh1) rfl (ck_is e5) (by decide) rfl (Nat.le_of_ble_eq_true rfl) (Nat.le_of_ble_eq_true rfl) rfl dX8_readRule_18 rfl rfl ?_
  obtain ⟨h2, eh2, hf⟩ := bd_ex hf
  refine V.iast (q := 22) eh2 dX8_readRule_21 rfl ?_
  refine V.aload_n (q := 23) rfl dX8_readRule_22 rfl rfl ?_
  obtain ⟨v7, ev7, hf⟩ := bd_ex hf
  refine V.getI (q := 26) flX8_78 rfl ev7 dX8_readRule_23 rfl ?_
  refine V.if_eq (q := 29) (tgt := 31) dX8_readRule_26 rfl (by decide) (fun c => ?_) (fun c => ?_)
  · rw [if_pos c] at hf
    refine V.aload_n (q := 32) rfl dX8_readRule_31 rfl rfl ?_
    obtain ⟨b8, eb8, hf⟩ := bd_ex hf
    refine V.getR (q := 35) flX8_44 rfl eb8 dX8_readRule_32 rfl ?_
    obtain ⟨b9, eb9, hf⟩ := bd_ex hf
    refine V.getR (q := 38) flX8_197 rfl eb9 dX8_readRule_35 rfl ?_
    refine V.iload_n (q := 39) rfl dX8_readRule_38 rfl rfl ?_
    refine V.iconst (q := 40) (v := 0) (by decide) dX8_readRule_39 rfl ?_
    obtain ⟨h3, eh3, hf⟩ := bd_ex hf
    refine V.iast (q := 41) eh3 dX8_readRule_40 rfl ?_
    refine V.aload_n (q := 42) rfl dX8_readRule_41 rfl rfl ?_
    obtain ⟨b10, eb10, hf⟩ := bd_ex hf
    refine V.getR (q := 45) flX8_48 rfl eb10 dX8_readRule_42 rfl ?_
    refine V.aload_n (q := 46) rfl dX8_readRule_45 rfl rfl ?_
    obtain ⟨b11, eb11, hf⟩ := bd_ex hf
    refine V.getR (q := 49) flX8_9 rfl eb11 dX8_readRule_46 rfl ?_
    obtain ⟨_, e12, hf⟩ := bd_ex hf
    obtain ⟨v13, h4, eh4, hf⟩ := bd2_ex hf
    refine V.callV (q := 52) (ci := 10) (vs := [.ref b11]) (st := []) (S2 := [.int v13]) okX10_choice imX10_choice seX10_choice rfl lkX8_105 (tX10_choice eh4) rfl (ck_is e12) (by decide) rfl (Nat.le_of_ble_eq_true rfl) (Nat.le_of_ble_eq_true rfl) rfl dX8_readRule_49 rfl rfl ?_
    refine V.bipush (q := 54) (v := 8) (by decide) dX8_readRule_52 rfl ?_
    refine V.icmp_ne (q := 57) (tgt := 74) dX8_readRule_54 rfl (by decide) (fun c => ?_) (fun c => ?_)
    · rw [if_neg c] at hf
      exact tX8_readRule_74  hf
    · rw [if_pos c] at hf
      refine V.aload_n (q := 58) rfl dX8_readRule_57 rfl rfl ?_
      obtain ⟨b14, eb14, hf⟩ := bd_ex hf
      refine V.getR (q := 61) flX8_44 rfl eb14 dX8_readRule_58 rfl ?_
      obtain ⟨b15, eb15, hf⟩ := bd_ex hf
      refine V.getR (q := 64) flX8_197 rfl eb15 dX8_readRule_61 rfl ?_
      refine V.iload_n (q := 65) rfl dX8_readRule_64 rfl rfl ?_
      refine V.iconst (q := 66) (v := 1) (by decide) dX8_readRule_65 rfl ?_
      obtain ⟨h5, eh5, hf⟩ := bd_ex hf
      refine V.iast (q := 67) eh5 dX8_readRule_66 rfl ?_
      refine V.aload_n (q := 68) rfl dX8_readRule_67 rfl rfl ?_
      obtain ⟨b16, eb16, hf⟩ := bd_ex hf
      refine V.getR (q := 71) flX8_48 rfl eb16 dX8_readRule_68 rfl ?_
      obtain ⟨_, e17, hf⟩ := bd_ex hf
      obtain ⟨h6, eh6, hf⟩ := bd_ex hf
      refine V.callV (q := 74) (ci := 10) (vs := []) (st := []) (S2 := []) okX10_advance imX10_advance seX10_advance rfl lkX8_99 (tX10_advance eh6) rfl (ck_is e17) (by decide) rfl (Nat.le_of_ble_eq_true rfl) (Nat.le_of_ble_eq_true rfl) rfl dX8_readRule_71 rfl rfl ?_
      exact tX8_readRule_74  hf
  · rw [if_neg c] at hf
    refine V.iconst (q := 30) (v := 0) (by decide) dX8_readRule_29 rfl ?_
    obtain ⟨rfl, rfl⟩ := ret_inj hf
    exact V.ret (r := some (.int 0)) (Or.inl rfl) dX8_readRule_30
def fX8_readStamp (h : MH) (a0 : Nat) : Option (Int32 × MH) := bd (gR h a0 8 9) fun b1 => bd (gI h b1 7 15) fun v2 => bd (ck h a0 8) fun _ => bd2 (fX8_takeNewName h a0 3 v2) fun v4 h1 => if v4 = 0 then (some (0, h1)) else (bd (ck h1 a0 8) fun _ => bd2 (fX8_takeFiller h1 a0 2) fun v6 h2 => if v6 = 0 then (some (0, h2)) else (bd (gR h2 a0 8 5) fun b7 => bd (ck h2 a0 8) fun _ => bd2 (fX8_takeWhole h2 a0 9) fun v9 h3 => bd (ck h3 b7 4) fun _ => bd (fX4_setInk h3 b7 v2 v9) fun h4 => bd (gI h4 a0 8 12) fun v11 => if v11 = 0 then (bd (ck h4 a0 8) fun _ => bd2 (fX8_takeFiller h4 a0 3) fun v13 h5 => if v13 = 0 then (some (0, h5)) else (bd (gR h5 a0 8 9) fun b14 => bd (gR h5 b14 7 2) fun b15 => bd (gR h5 a0 8 3) fun b16 => bd (ck h5 a0 8) fun _ => bd2 (fX8_takeChoice h5 a0 b16) fun v18 h6 => bd (tI h6 b15 v2 v18) fun h7 => bd (gI h7 a0 8 12) fun v19 => if v19 = 0 then (bd (gR h7 a0 8 9) fun b20 => bd (gR h7 b20 7 3) fun b21 => bd (ck h7 a0 8) fun _ => bd2 (fX8_takeMarks h7 a0 ) fun v23 h8 => bd (tI h8 b21 v2 v23) fun h9 => bd (gR h9 a0 8 9) fun b24 => bd (gI h9 b24 7 15) fun v25 => bd (pI h9 b24 7 15 (v25 + 1)) fun h10 => bd (gI h10 a0 8 12) fun v26 => if v26 = 0 then (some (1, h10)) else (some (0, h10))) else (some (0, h7)))) else (some (0, h4))))
set_option maxRecDepth 20000 in
theorem tX8_readStamp {r : Int32} {h' : MH} {h : MH} {a0 : Nat} (hf : fX8_readStamp h a0 = some (r, h')) : VM mX8_readStamp 3 (some (.int r)) h' h [.ref a0] := by
  show V TT mX8_readStamp 3 _ h' h 0 [.ref a0, Jk] []
  unfold fX8_readStamp at hf
  refine V.aload_n (q := 1) rfl dX8_readStamp_0 rfl rfl ?_
  obtain ⟨b1, eb1, hf⟩ := bd_ex hf
  refine V.getR (q := 4) flX8_44 rfl eb1 dX8_readStamp_1 rfl ?_
  obtain ⟨v2, ev2, hf⟩ := bd_ex hf
  refine V.getI (q := 7) flX8_139 rfl ev2 dX8_readStamp_4 rfl ?_
  refine V.istore_n (q := 8) (L' := [.ref a0, .int v2]) rfl dX8_readStamp_7 rfl (by decide) rfl rfl ?_
  refine V.aload_n (q := 9) rfl dX8_readStamp_8 rfl rfl ?_
  refine V.iconst (q := 10) (v := 3) (by decide) dX8_readStamp_9 rfl ?_
  refine V.iload_n (q := 11) rfl dX8_readStamp_10 rfl rfl ?_
  obtain ⟨_, e3, hf⟩ := bd_ex hf
  obtain ⟨v4, h1, eh1, hf⟩ := bd2_ex hf
  refine V.callV (q := 14) (ci := 8) (vs := [.int 3, .int v2]) (st := []) (S2 := [.int v4]) okX8_takeNewName imX8_takeNewName seX8_takeNewName rfl lkX8_161 (tX8_takeNewName eh1) rfl (ck_is e3) (by decide) rfl (Nat.le_of_ble_eq_true rfl) (Nat.le_of_ble_eq_true rfl) rfl dX8_readStamp_11 rfl rfl ?_
  refine V.if_eq (q := 17) (tgt := 25) dX8_readStamp_14 rfl (by decide) (fun c => ?_) (fun c => ?_)
  · rw [if_pos c] at hf
    refine V.iconst (q := 26) (v := 0) (by decide) dX8_readStamp_25 rfl ?_
    obtain ⟨rfl, rfl⟩ := ret_inj hf
    exact V.ret (r := some (.int 0)) (Or.inl rfl) dX8_readStamp_26
  · rw [if_neg c] at hf
    refine V.aload_n (q := 18) rfl dX8_readStamp_17 rfl rfl ?_
    refine V.iconst (q := 19) (v := 2) (by decide) dX8_readStamp_18 rfl ?_
    obtain ⟨_, e5, hf⟩ := bd_ex hf
    obtain ⟨v6, h2, eh2, hf⟩ := bd2_ex hf
    refine V.callV (q := 22) (ci := 8) (vs := [.int 2]) (st := []) (S2 := [.int v6]) okX8_takeFiller imX8_takeFiller seX8_takeFiller rfl lkX8_151 (tX8_takeFiller eh2) rfl (ck_is e5) (by decide) rfl (Nat.le_of_ble_eq_true rfl) (Nat.le_of_ble_eq_true rfl) rfl dX8_readStamp_19 rfl rfl ?_
    refine V.if_ne (q := 25) (tgt := 27) dX8_readStamp_22 rfl (by decide) (fun c => ?_) (fun c => ?_)
    · rw [if_neg c] at hf
      refine V.aload_n (q := 28) rfl dX8_readStamp_27 rfl rfl ?_
      obtain ⟨b7, eb7, hf⟩ := bd_ex hf
      refine V.getR (q := 31) flX8_27 rfl eb7 dX8_readStamp_28 rfl ?_
      refine V.iload_n (q := 32) rfl dX8_readStamp_31 rfl rfl ?_
      refine V.aload_n (q := 33) rfl dX8_readStamp_32 rfl rfl ?_
      refine V.bipush (q := 35) (v := 9) (by decide) dX8_readStamp_33 rfl ?_
      obtain ⟨_, e8, hf⟩ := bd_ex hf
      obtain ⟨v9, h3, eh3, hf⟩ := bd2_ex hf
      refine V.callV (q := 38) (ci := 8) (vs := [.int 9]) (st := [.int v2, .ref b7]) (S2 := [.int v9, .int v2, .ref b7]) okX8_takeWhole imX8_takeWhole seX8_takeWhole rfl lkX8_154 (tX8_takeWhole eh3) rfl (ck_is e8) (by decide) rfl (Nat.le_of_ble_eq_true rfl) (Nat.le_of_ble_eq_true rfl) rfl dX8_readStamp_35 rfl rfl ?_
      obtain ⟨_, e10, hf⟩ := bd_ex hf
      obtain ⟨h4, eh4, hf⟩ := bd_ex hf
      refine V.callV (q := 41) (ci := 4) (vs := [.int v2, .int v9]) (st := []) (S2 := []) okX4_setInk imX4_setInk seX4_setInk rfl lkX8_179 (tX4_setInk eh4) rfl (ck_is e10) (by decide) rfl (Nat.le_of_ble_eq_true rfl) (Nat.le_of_ble_eq_true rfl) rfl dX8_readStamp_38 rfl rfl ?_
      refine V.aload_n (q := 42) rfl dX8_readStamp_41 rfl rfl ?_
      obtain ⟨v11, ev11, hf⟩ := bd_ex hf
      refine V.getI (q := 45) flX8_78 rfl ev11 dX8_readStamp_42 rfl ?_
      refine V.if_ne (q := 48) (tgt := 56) dX8_readStamp_45 rfl (by decide) (fun c => ?_) (fun c => ?_)
      · rw [if_neg c] at hf
        refine V.iconst (q := 57) (v := 0) (by decide) dX8_readStamp_56 rfl ?_
        obtain ⟨rfl, rfl⟩ := ret_inj hf
        exact V.ret (r := some (.int 0)) (Or.inl rfl) dX8_readStamp_57
      · rw [if_pos c] at hf
        refine V.aload_n (q := 49) rfl dX8_readStamp_48 rfl rfl ?_
        refine V.iconst (q := 50) (v := 3) (by decide) dX8_readStamp_49 rfl ?_
        obtain ⟨_, e12, hf⟩ := bd_ex hf
        obtain ⟨v13, h5, eh5, hf⟩ := bd2_ex hf
        refine V.callV (q := 53) (ci := 8) (vs := [.int 3]) (st := []) (S2 := [.int v13]) okX8_takeFiller imX8_takeFiller seX8_takeFiller rfl lkX8_151 (tX8_takeFiller eh5) rfl (ck_is e12) (by decide) rfl (Nat.le_of_ble_eq_true rfl) (Nat.le_of_ble_eq_true rfl) rfl dX8_readStamp_50 rfl rfl ?_
        refine V.if_ne (q := 56) (tgt := 58) dX8_readStamp_53 rfl (by decide) (fun c => ?_) (fun c => ?_)
        · rw [if_neg c] at hf
          refine V.aload_n (q := 59) rfl dX8_readStamp_58 rfl rfl ?_
          obtain ⟨b14, eb14, hf⟩ := bd_ex hf
          refine V.getR (q := 62) flX8_44 rfl eb14 dX8_readStamp_59 rfl ?_
          obtain ⟨b15, eb15, hf⟩ := bd_ex hf
          refine V.getR (q := 65) flX8_182 rfl eb15 dX8_readStamp_62 rfl ?_
          refine V.iload_n (q := 66) rfl dX8_readStamp_65 rfl rfl ?_
          refine V.aload_n (q := 67) rfl dX8_readStamp_66 rfl rfl ?_
          refine V.aload_n (q := 68) rfl dX8_readStamp_67 rfl rfl ?_
          obtain ⟨b16, eb16, hf⟩ := bd_ex hf
          refine V.getR (q := 71) flX8_18 rfl eb16 dX8_readStamp_68 rfl ?_
          obtain ⟨_, e17, hf⟩ := bd_ex hf
          obtain ⟨v18, h6, eh6, hf⟩ := bd2_ex hf
          refine V.callV (q := 74) (ci := 8) (vs := [.ref b16]) (st := [.int v2, .ref b15]) (S2 := [.int v18, .int v2, .ref b15]) okX8_takeChoice imX8_takeChoice seX8_takeChoice rfl lkX8_185 (tX8_takeChoice eh6) rfl (ck_is e17) (by decide) rfl (Nat.le_of_ble_eq_true rfl) (Nat.le_of_ble_eq_true rfl) rfl dX8_readStamp_71 rfl rfl ?_
          obtain ⟨h7, eh7, hf⟩ := bd_ex hf
          refine V.iast (q := 75) eh7 dX8_readStamp_74 rfl ?_
          refine V.aload_n (q := 76) rfl dX8_readStamp_75 rfl rfl ?_
          obtain ⟨v19, ev19, hf⟩ := bd_ex hf
          refine V.getI (q := 79) flX8_78 rfl ev19 dX8_readStamp_76 rfl ?_
          refine V.if_eq (q := 82) (tgt := 84) dX8_readStamp_79 rfl (by decide) (fun c => ?_) (fun c => ?_)
          · rw [if_pos c] at hf
            refine V.aload_n (q := 85) rfl dX8_readStamp_84 rfl rfl ?_
            obtain ⟨b20, eb20, hf⟩ := bd_ex hf
            refine V.getR (q := 88) flX8_44 rfl eb20 dX8_readStamp_85 rfl ?_
            obtain ⟨b21, eb21, hf⟩ := bd_ex hf
            refine V.getR (q := 91) flX8_188 rfl eb21 dX8_readStamp_88 rfl ?_
            refine V.iload_n (q := 92) rfl dX8_readStamp_91 rfl rfl ?_
            refine V.aload_n (q := 93) rfl dX8_readStamp_92 rfl rfl ?_
            obtain ⟨_, e22, hf⟩ := bd_ex hf
            obtain ⟨v23, h8, eh8, hf⟩ := bd2_ex hf
            refine V.callV (q := 96) (ci := 8) (vs := []) (st := [.int v2, .ref b21]) (S2 := [.int v23, .int v2, .ref b21]) okX8_takeMarks imX8_takeMarks seX8_takeMarks rfl lkX8_168 (tX8_takeMarks eh8) rfl (ck_is e22) (by decide) rfl (Nat.le_of_ble_eq_true rfl) (Nat.le_of_ble_eq_true rfl) rfl dX8_readStamp_93 rfl rfl ?_
            obtain ⟨h9, eh9, hf⟩ := bd_ex hf
            refine V.iast (q := 97) eh9 dX8_readStamp_96 rfl ?_
            refine V.aload_n (q := 98) rfl dX8_readStamp_97 rfl rfl ?_
            obtain ⟨b24, eb24, hf⟩ := bd_ex hf
            refine V.getR (q := 101) flX8_44 rfl eb24 dX8_readStamp_98 rfl ?_
            refine V.dupR (q := 102) dX8_readStamp_101 rfl ?_
            obtain ⟨v25, ev25, hf⟩ := bd_ex hf
            refine V.getI (q := 105) flX8_139 rfl ev25 dX8_readStamp_102 rfl ?_
            refine V.iconst (q := 106) (v := 1) (by decide) dX8_readStamp_105 rfl ?_
            refine V.iadd (q := 107) dX8_readStamp_106 rfl ?_
            obtain ⟨h10, eh10, hf⟩ := bd_ex hf
            refine V.putI (q := 110) (fpX8_139 rfl) rfl eh10 dX8_readStamp_107 rfl ?_
            refine V.aload_n (q := 111) rfl dX8_readStamp_110 rfl rfl ?_
            obtain ⟨v26, ev26, hf⟩ := bd_ex hf
            refine V.getI (q := 114) flX8_78 rfl ev26 dX8_readStamp_111 rfl ?_
            refine V.if_ne (q := 117) (tgt := 121) dX8_readStamp_114 rfl (by decide) (fun c => ?_) (fun c => ?_)
            · rw [if_neg c] at hf
              refine V.iconst (q := 122) (v := 0) (by decide) dX8_readStamp_121 rfl ?_
              obtain ⟨rfl, rfl⟩ := ret_inj hf
              exact V.ret (r := some (.int 0)) (Or.inl rfl) dX8_readStamp_122
            · rw [if_pos c] at hf
              refine V.iconst (q := 118) (v := 1) (by decide) dX8_readStamp_117 rfl ?_
              refine V.goto (q := 122) dX8_readStamp_118 (by decide) ?_
              obtain ⟨rfl, rfl⟩ := ret_inj hf
              exact V.ret (r := some (.int 1)) (Or.inr rfl) dX8_readStamp_122
          · rw [if_neg c] at hf
            refine V.iconst (q := 83) (v := 0) (by decide) dX8_readStamp_82 rfl ?_
            obtain ⟨rfl, rfl⟩ := ret_inj hf
            exact V.ret (r := some (.int 0)) (Or.inl rfl) dX8_readStamp_83
        · rw [if_pos c] at hf
          refine V.iconst (q := 57) (v := 0) (by decide) dX8_readStamp_56 rfl ?_
          obtain ⟨rfl, rfl⟩ := ret_inj hf
          exact V.ret (r := some (.int 0)) (Or.inl rfl) dX8_readStamp_57
    · rw [if_pos c] at hf
      refine V.iconst (q := 26) (v := 0) (by decide) dX8_readStamp_25 rfl ?_
      obtain ⟨rfl, rfl⟩ := ret_inj hf
      exact V.ret (r := some (.int 0)) (Or.inl rfl) dX8_readStamp_26
def fX8_readWant (h : MH) (a0 : Nat) : Option (Int32 × MH) := bd (ck h a0 8) fun _ => bd2 (fX8_findOldName h a0 2) fun v2 h1 => if 0 ≤ v2 then (bd (gR h1 a0 8 9) fun b3 => bd (gR h1 b3 7 1) fun b4 => bd (lI h1 b4 v2) fun v5 => if v5 = (-2) then (bd (gR h1 a0 8 0) fun b6 => bd (ck h1 b6 10) fun _ => bd (fX10_advance h1 b6 ) fun h2 => bd (gR h2 a0 8 9) fun b8 => bd (gR h2 b8 7 1) fun b9 => bd (gR h2 a0 8 3) fun b10 => bd (ck h2 a0 8) fun _ => bd2 (fX8_takeChoice h2 a0 b10) fun v12 h3 => bd (tI h3 b9 v2 v12) fun h4 => bd (gR h4 a0 8 9) fun b13 => bd (gI h4 b13 7 18) fun v14 => bd (pI h4 b13 7 18 (v14 + 1)) fun h5 => bd (gI h5 a0 8 12) fun v15 => if v15 = 0 then (some (1, h5)) else (some (0, h5))) else (bd (ck h1 a0 8) fun _ => bd2 (fX8_fail h1 a0 3) fun v7 h2 => rB v7 h2)) else (some (0, h1))
set_option maxRecDepth 20000 in
theorem tX8_readWant {r : Int32} {h' : MH} {h : MH} {a0 : Nat} (hf : fX8_readWant h a0 = some (r, h')) : VM mX8_readWant 3 (some (.int r)) h' h [.ref a0] := by
  show V TT mX8_readWant 3 _ h' h 0 [.ref a0, Jk] []
  unfold fX8_readWant at hf
  refine V.aload_n (q := 1) rfl dX8_readWant_0 rfl rfl ?_
  refine V.iconst (q := 2) (v := 2) (by decide) dX8_readWant_1 rfl ?_
  obtain ⟨_, e1, hf⟩ := bd_ex hf
  obtain ⟨v2, h1, eh1, hf⟩ := bd2_ex hf
  refine V.callV (q := 5) (ci := 8) (vs := [.int 2]) (st := []) (S2 := [.int v2]) okX8_findOldName imX8_findOldName seX8_findOldName rfl lkX8_212 (tX8_findOldName eh1) rfl (ck_is e1) (by decide) rfl (Nat.le_of_ble_eq_true rfl) (Nat.le_of_ble_eq_true rfl) rfl dX8_readWant_2 rfl rfl ?_
  refine V.istore_n (q := 6) (L' := [.ref a0, .int v2]) rfl dX8_readWant_5 rfl (by decide) rfl rfl ?_
  refine V.iload_n (q := 7) rfl dX8_readWant_6 rfl rfl ?_
  refine V.if_ge (q := 10) (tgt := 12) dX8_readWant_7 rfl (by decide) (fun c => ?_) (fun c => ?_)
  · rw [if_pos c] at hf
    refine V.aload_n (q := 13) rfl dX8_readWant_12 rfl rfl ?_
    obtain ⟨b3, eb3, hf⟩ := bd_ex hf
    refine V.getR (q := 16) flX8_44 rfl eb3 dX8_readWant_13 rfl ?_
    obtain ⟨b4, eb4, hf⟩ := bd_ex hf
    refine V.getR (q := 19) flX8_176 rfl eb4 dX8_readWant_16 rfl ?_
    refine V.iload_n (q := 20) rfl dX8_readWant_19 rfl rfl ?_
    obtain ⟨v5, ev5, hf⟩ := bd_ex hf
    refine V.iald (q := 21) ev5 dX8_readWant_20 rfl ?_
    refine V.bipush (q := 23) (v := (-2)) (by decide) dX8_readWant_21 rfl ?_
    refine V.icmp_eq (q := 26) (tgt := 32) dX8_readWant_23 rfl (by decide) (fun c => ?_) (fun c => ?_)
    · rw [if_pos c] at hf
      refine V.aload_n (q := 33) rfl dX8_readWant_32 rfl rfl ?_
      obtain ⟨b6, eb6, hf⟩ := bd_ex hf
      refine V.getR (q := 36) flX8_48 rfl eb6 dX8_readWant_33 rfl ?_
      obtain ⟨_, e7, hf⟩ := bd_ex hf
      obtain ⟨h2, eh2, hf⟩ := bd_ex hf
      refine V.callV (q := 39) (ci := 10) (vs := []) (st := []) (S2 := []) okX10_advance imX10_advance seX10_advance rfl lkX8_99 (tX10_advance eh2) rfl (ck_is e7) (by decide) rfl (Nat.le_of_ble_eq_true rfl) (Nat.le_of_ble_eq_true rfl) rfl dX8_readWant_36 rfl rfl ?_
      refine V.aload_n (q := 40) rfl dX8_readWant_39 rfl rfl ?_
      obtain ⟨b8, eb8, hf⟩ := bd_ex hf
      refine V.getR (q := 43) flX8_44 rfl eb8 dX8_readWant_40 rfl ?_
      obtain ⟨b9, eb9, hf⟩ := bd_ex hf
      refine V.getR (q := 46) flX8_176 rfl eb9 dX8_readWant_43 rfl ?_
      refine V.iload_n (q := 47) rfl dX8_readWant_46 rfl rfl ?_
      refine V.aload_n (q := 48) rfl dX8_readWant_47 rfl rfl ?_
      refine V.aload_n (q := 49) rfl dX8_readWant_48 rfl rfl ?_
      obtain ⟨b10, eb10, hf⟩ := bd_ex hf
      refine V.getR (q := 52) flX8_18 rfl eb10 dX8_readWant_49 rfl ?_
      obtain ⟨_, e11, hf⟩ := bd_ex hf
      obtain ⟨v12, h3, eh3, hf⟩ := bd2_ex hf
      refine V.callV (q := 55) (ci := 8) (vs := [.ref b10]) (st := [.int v2, .ref b9]) (S2 := [.int v12, .int v2, .ref b9]) okX8_takeChoice imX8_takeChoice seX8_takeChoice rfl lkX8_185 (tX8_takeChoice eh3) rfl (ck_is e11) (by decide) rfl (Nat.le_of_ble_eq_true rfl) (Nat.le_of_ble_eq_true rfl) rfl dX8_readWant_52 rfl rfl ?_
      obtain ⟨h4, eh4, hf⟩ := bd_ex hf
      refine V.iast (q := 56) eh4 dX8_readWant_55 rfl ?_
      refine V.aload_n (q := 57) rfl dX8_readWant_56 rfl rfl ?_
      obtain ⟨b13, eb13, hf⟩ := bd_ex hf
      refine V.getR (q := 60) flX8_44 rfl eb13 dX8_readWant_57 rfl ?_
      refine V.dupR (q := 61) dX8_readWant_60 rfl ?_
      obtain ⟨v14, ev14, hf⟩ := bd_ex hf
      refine V.getI (q := 64) flX8_215 rfl ev14 dX8_readWant_61 rfl ?_
      refine V.iconst (q := 65) (v := 1) (by decide) dX8_readWant_64 rfl ?_
      refine V.iadd (q := 66) dX8_readWant_65 rfl ?_
      obtain ⟨h5, eh5, hf⟩ := bd_ex hf
      refine V.putI (q := 69) (fpX8_215 rfl) rfl eh5 dX8_readWant_66 rfl ?_
      refine V.aload_n (q := 70) rfl dX8_readWant_69 rfl rfl ?_
      obtain ⟨v15, ev15, hf⟩ := bd_ex hf
      refine V.getI (q := 73) flX8_78 rfl ev15 dX8_readWant_70 rfl ?_
      refine V.if_ne (q := 76) (tgt := 80) dX8_readWant_73 rfl (by decide) (fun c => ?_) (fun c => ?_)
      · rw [if_neg c] at hf
        refine V.iconst (q := 81) (v := 0) (by decide) dX8_readWant_80 rfl ?_
        obtain ⟨rfl, rfl⟩ := ret_inj hf
        exact V.ret (r := some (.int 0)) (Or.inl rfl) dX8_readWant_81
      · rw [if_pos c] at hf
        refine V.iconst (q := 77) (v := 1) (by decide) dX8_readWant_76 rfl ?_
        refine V.goto (q := 81) dX8_readWant_77 (by decide) ?_
        obtain ⟨rfl, rfl⟩ := ret_inj hf
        exact V.ret (r := some (.int 1)) (Or.inr rfl) dX8_readWant_81
    · rw [if_neg c] at hf
      refine V.aload_n (q := 27) rfl dX8_readWant_26 rfl rfl ?_
      refine V.iconst (q := 28) (v := 3) (by decide) dX8_readWant_27 rfl ?_
      obtain ⟨_, e6, hf⟩ := bd_ex hf
      obtain ⟨v7, h2, eh2, hf⟩ := bd2_ex hf
      refine V.callV (q := 31) (ci := 8) (vs := [.int 3]) (st := []) (S2 := [.int v7]) okX8_fail imX8_fail seX8_fail rfl lkX8_95 (tX8_fail eh2) rfl (ck_is e6) (by decide) rfl (Nat.le_of_ble_eq_true rfl) (Nat.le_of_ble_eq_true rfl) rfl dX8_readWant_28 rfl rfl ?_
      obtain ⟨hb, rfl, rfl⟩ := rB_inj hf
      exact V.ret (r := some (.int v7)) hb dX8_readWant_31
  · rw [if_neg c] at hf
    refine V.iconst (q := 11) (v := 0) (by decide) dX8_readWant_10 rfl ?_
    obtain ⟨rfl, rfl⟩ := ret_inj hf
    exact V.ret (r := some (.int 0)) (Or.inl rfl) dX8_readWant_11
def bX8_readLine_63  (h : MH) (a0 : Nat) (x1 : Int32) : Option (Int32 × MH) := bd (ck h a0 8) fun _ => bd2 (fX8_isFull h a0 x1) fun v2 h1 => if v2 = 0 then (bd (gR h1 a0 8 0) fun b3 => bd (ck h1 b3 10) fun _ => bd (fX10_advance h1 b3 ) fun h2 => if x1 = 0 then (bd (ck h2 a0 8) fun _ => bd2 (fX8_readOffice h2 a0 ) fun v6 h3 => rB v6 h3) else (if x1 = 1 then (bd (ck h2 a0 8) fun _ => bd2 (fX8_readMark h2 a0 ) fun v6 h3 => rB v6 h3) else (if x1 = 2 then (bd (ck h2 a0 8) fun _ => bd2 (fX8_readPaper h2 a0 ) fun v6 h3 => rB v6 h3) else (if x1 = 3 then (bd (ck h2 a0 8) fun _ => bd2 (fX8_readStamp h2 a0 ) fun v6 h3 => rB v6 h3) else (if x1 = 4 then (bd (ck h2 a0 8) fun _ => bd2 (fX8_readRule h2 a0 ) fun v6 h3 => rB v6 h3) else (if x1 = 5 then (bd (ck h2 a0 8) fun _ => bd2 (fX8_readHand h2 a0 ) fun v6 h3 => rB v6 h3) else (if x1 = 6 then (bd (ck h2 a0 8) fun _ => bd2 (fX8_readWant h2 a0 ) fun v6 h3 => rB v6 h3) else (bd (ck h2 a0 8) fun _ => bd2 (fX8_readPrint h2 a0 ) fun v6 h3 => rB v6 h3)))))))) else (bd (ck h1 a0 8) fun _ => bd2 (fX8_fail h1 a0 5) fun v4 h2 => rB v4 h2)
set_option maxRecDepth 20000 in
theorem tX8_readLine_63 {r : Int32} {h' : MH}   {h : MH} {a0 : Nat} {x1 : Int32} (hf : bX8_readLine_63  h a0 x1 = some (r, h')) : V TT mX8_readLine 4 (some (.int r)) h' h 63 [.ref a0, .int x1] [] := by
  unfold bX8_readLine_63 at hf
  refine V.aload_n (q := 64) rfl dX8_readLine_63 rfl rfl ?_
  refine V.iload_n (q := 65) rfl dX8_readLine_64 rfl rfl ?_
  obtain ⟨_, e1, hf⟩ := bd_ex hf
  obtain ⟨v2, h1, eh1, hf⟩ := bd2_ex hf
  refine V.callV (q := 68) (ci := 8) (vs := [.int x1]) (st := []) (S2 := [.int v2]) okX8_isFull imX8_isFull seX8_isFull rfl lkX8_109 (tX8_isFull eh1) rfl (ck_is e1) (by decide) rfl (Nat.le_of_ble_eq_true rfl) (Nat.le_of_ble_eq_true rfl) rfl dX8_readLine_65 rfl rfl ?_
  refine V.if_eq (q := 71) (tgt := 77) dX8_readLine_68 rfl (by decide) (fun c => ?_) (fun c => ?_)
  · rw [if_pos c] at hf
    refine V.aload_n (q := 78) rfl dX8_readLine_77 rfl rfl ?_
    obtain ⟨b3, eb3, hf⟩ := bd_ex hf
    refine V.getR (q := 81) flX8_48 rfl eb3 dX8_readLine_78 rfl ?_
    obtain ⟨_, e4, hf⟩ := bd_ex hf
    obtain ⟨h2, eh2, hf⟩ := bd_ex hf
    refine V.callV (q := 84) (ci := 10) (vs := []) (st := []) (S2 := []) okX10_advance imX10_advance seX10_advance rfl lkX8_99 (tX10_advance eh2) rfl (ck_is e4) (by decide) rfl (Nat.le_of_ble_eq_true rfl) (Nat.le_of_ble_eq_true rfl) rfl dX8_readLine_81 rfl rfl ?_
    refine V.iload_n (q := 85) rfl dX8_readLine_84 rfl rfl ?_
    by_cases c0 : x1 = 0
    · rw [if_pos c0] at hf
      refine V.topI c0 ?_
      refine V.tableIn (q := 128) (off := 43) dX8_readLine_85 (by decide) (by decide) (by decide) (by decide) ?_
      refine V.aload_n (q := 129) rfl dX8_readLine_128 rfl rfl ?_
      obtain ⟨_, e5, hf⟩ := bd_ex hf
      obtain ⟨v6, h3, eh3, hf⟩ := bd2_ex hf
      refine V.callV (q := 132) (ci := 8) (vs := []) (st := []) (S2 := [.int v6]) okX8_readOffice imX8_readOffice seX8_readOffice rfl lkX8_112 (tX8_readOffice eh3) rfl (ck_is e5) (by decide) rfl (Nat.le_of_ble_eq_true rfl) (Nat.le_of_ble_eq_true rfl) rfl dX8_readLine_129 rfl rfl ?_
      obtain ⟨hb, rfl, rfl⟩ := rB_inj hf
      exact V.ret (r := some (.int v6)) hb dX8_readLine_132
    rw [if_neg c0] at hf
    by_cases c1 : x1 = 1
    · rw [if_pos c1] at hf
      refine V.topI c1 ?_
      refine V.tableIn (q := 133) (off := 48) dX8_readLine_85 (by decide) (by decide) (by decide) (by decide) ?_
      refine V.aload_n (q := 134) rfl dX8_readLine_133 rfl rfl ?_
      obtain ⟨_, e5, hf⟩ := bd_ex hf
      obtain ⟨v6, h3, eh3, hf⟩ := bd2_ex hf
      refine V.callV (q := 137) (ci := 8) (vs := []) (st := []) (S2 := [.int v6]) okX8_readMark imX8_readMark seX8_readMark rfl lkX8_115 (tX8_readMark eh3) rfl (ck_is e5) (by decide) rfl (Nat.le_of_ble_eq_true rfl) (Nat.le_of_ble_eq_true rfl) rfl dX8_readLine_134 rfl rfl ?_
      obtain ⟨hb, rfl, rfl⟩ := rB_inj hf
      exact V.ret (r := some (.int v6)) hb dX8_readLine_137
    rw [if_neg c1] at hf
    by_cases c2 : x1 = 2
    · rw [if_pos c2] at hf
      refine V.topI c2 ?_
      refine V.tableIn (q := 138) (off := 53) dX8_readLine_85 (by decide) (by decide) (by decide) (by decide) ?_
      refine V.aload_n (q := 139) rfl dX8_readLine_138 rfl rfl ?_
      obtain ⟨_, e5, hf⟩ := bd_ex hf
      obtain ⟨v6, h3, eh3, hf⟩ := bd2_ex hf
      refine V.callV (q := 142) (ci := 8) (vs := []) (st := []) (S2 := [.int v6]) okX8_readPaper imX8_readPaper seX8_readPaper rfl lkX8_118 (tX8_readPaper eh3) rfl (ck_is e5) (by decide) rfl (Nat.le_of_ble_eq_true rfl) (Nat.le_of_ble_eq_true rfl) rfl dX8_readLine_139 rfl rfl ?_
      obtain ⟨hb, rfl, rfl⟩ := rB_inj hf
      exact V.ret (r := some (.int v6)) hb dX8_readLine_142
    rw [if_neg c2] at hf
    by_cases c3 : x1 = 3
    · rw [if_pos c3] at hf
      refine V.topI c3 ?_
      refine V.tableIn (q := 143) (off := 58) dX8_readLine_85 (by decide) (by decide) (by decide) (by decide) ?_
      refine V.aload_n (q := 144) rfl dX8_readLine_143 rfl rfl ?_
      obtain ⟨_, e5, hf⟩ := bd_ex hf
      obtain ⟨v6, h3, eh3, hf⟩ := bd2_ex hf
      refine V.callV (q := 147) (ci := 8) (vs := []) (st := []) (S2 := [.int v6]) okX8_readStamp imX8_readStamp seX8_readStamp rfl lkX8_121 (tX8_readStamp eh3) rfl (ck_is e5) (by decide) rfl (Nat.le_of_ble_eq_true rfl) (Nat.le_of_ble_eq_true rfl) rfl dX8_readLine_144 rfl rfl ?_
      obtain ⟨hb, rfl, rfl⟩ := rB_inj hf
      exact V.ret (r := some (.int v6)) hb dX8_readLine_147
    rw [if_neg c3] at hf
    by_cases c4 : x1 = 4
    · rw [if_pos c4] at hf
      refine V.topI c4 ?_
      refine V.tableIn (q := 148) (off := 63) dX8_readLine_85 (by decide) (by decide) (by decide) (by decide) ?_
      refine V.aload_n (q := 149) rfl dX8_readLine_148 rfl rfl ?_
      obtain ⟨_, e5, hf⟩ := bd_ex hf
      obtain ⟨v6, h3, eh3, hf⟩ := bd2_ex hf
      refine V.callV (q := 152) (ci := 8) (vs := []) (st := []) (S2 := [.int v6]) okX8_readRule imX8_readRule seX8_readRule rfl lkX8_124 (tX8_readRule eh3) rfl (ck_is e5) (by decide) rfl (Nat.le_of_ble_eq_true rfl) (Nat.le_of_ble_eq_true rfl) rfl dX8_readLine_149 rfl rfl ?_
      obtain ⟨hb, rfl, rfl⟩ := rB_inj hf
      exact V.ret (r := some (.int v6)) hb dX8_readLine_152
    rw [if_neg c4] at hf
    by_cases c5 : x1 = 5
    · rw [if_pos c5] at hf
      refine V.topI c5 ?_
      refine V.tableIn (q := 153) (off := 68) dX8_readLine_85 (by decide) (by decide) (by decide) (by decide) ?_
      refine V.aload_n (q := 154) rfl dX8_readLine_153 rfl rfl ?_
      obtain ⟨_, e5, hf⟩ := bd_ex hf
      obtain ⟨v6, h3, eh3, hf⟩ := bd2_ex hf
      refine V.callV (q := 157) (ci := 8) (vs := []) (st := []) (S2 := [.int v6]) okX8_readHand imX8_readHand seX8_readHand rfl lkX8_127 (tX8_readHand eh3) rfl (ck_is e5) (by decide) rfl (Nat.le_of_ble_eq_true rfl) (Nat.le_of_ble_eq_true rfl) rfl dX8_readLine_154 rfl rfl ?_
      obtain ⟨hb, rfl, rfl⟩ := rB_inj hf
      exact V.ret (r := some (.int v6)) hb dX8_readLine_157
    rw [if_neg c5] at hf
    by_cases c6 : x1 = 6
    · rw [if_pos c6] at hf
      refine V.topI c6 ?_
      refine V.tableIn (q := 158) (off := 73) dX8_readLine_85 (by decide) (by decide) (by decide) (by decide) ?_
      refine V.aload_n (q := 159) rfl dX8_readLine_158 rfl rfl ?_
      obtain ⟨_, e5, hf⟩ := bd_ex hf
      obtain ⟨v6, h3, eh3, hf⟩ := bd2_ex hf
      refine V.callV (q := 162) (ci := 8) (vs := []) (st := []) (S2 := [.int v6]) okX8_readWant imX8_readWant seX8_readWant rfl lkX8_130 (tX8_readWant eh3) rfl (ck_is e5) (by decide) rfl (Nat.le_of_ble_eq_true rfl) (Nat.le_of_ble_eq_true rfl) rfl dX8_readLine_159 rfl rfl ?_
      obtain ⟨hb, rfl, rfl⟩ := rB_inj hf
      exact V.ret (r := some (.int v6)) hb dX8_readLine_162
    rw [if_neg c6] at hf
    have hout : x1.toInt < 0 ∨ 6 < x1.toInt := tsw_out (lo := 0) (n := 6) (fun k h1 h2 => by
      have : k = 0 ∨ k = 1 ∨ k = 2 ∨ k = 3 ∨ k = 4 ∨ k = 5 ∨ k = 6 := by omega
      rcases this with rfl | rfl | rfl | rfl | rfl | rfl | rfl
      · exact c0
      · exact c1
      · exact c2
      · exact c3
      · exact c4
      · exact c5
      · exact c6) (by decide)
    refine V.tableOut (q := 163) dX8_readLine_85 hout (by decide) ?_
    refine V.aload_n (q := 164) rfl dX8_readLine_163 rfl rfl ?_
    obtain ⟨_, e5, hf⟩ := bd_ex hf
    obtain ⟨v6, h3, eh3, hf⟩ := bd2_ex hf
    refine V.callV (q := 167) (ci := 8) (vs := []) (st := []) (S2 := [.int v6]) okX8_readPrint imX8_readPrint seX8_readPrint rfl lkX8_133 (tX8_readPrint eh3) rfl (ck_is e5) (by decide) rfl (Nat.le_of_ble_eq_true rfl) (Nat.le_of_ble_eq_true rfl) rfl dX8_readLine_164 rfl rfl ?_
    obtain ⟨hb, rfl, rfl⟩ := rB_inj hf
    exact V.ret (r := some (.int v6)) hb dX8_readLine_167
  · rw [if_neg c] at hf
    refine V.aload_n (q := 72) rfl dX8_readLine_71 rfl rfl ?_
    refine V.iconst (q := 73) (v := 5) (by decide) dX8_readLine_72 rfl ?_
    obtain ⟨_, e3, hf⟩ := bd_ex hf
    obtain ⟨v4, h2, eh2, hf⟩ := bd2_ex hf
    refine V.callV (q := 76) (ci := 8) (vs := [.int 5]) (st := []) (S2 := [.int v4]) okX8_fail imX8_fail seX8_fail rfl lkX8_95 (tX8_fail eh2) rfl (ck_is e3) (by decide) rfl (Nat.le_of_ble_eq_true rfl) (Nat.le_of_ble_eq_true rfl) rfl dX8_readLine_73 rfl rfl ?_
    obtain ⟨hb, rfl, rfl⟩ := rB_inj hf
    exact V.ret (r := some (.int v4)) hb dX8_readLine_76
def bX8_readLine_45  (h : MH) (a0 : Nat) (x1 : Int32) : Option (Int32 × MH) := if x1 = 0 then (bX8_readLine_63 h a0 x1) else (bd (gI h a0 8 11) fun v1 => if v1 = 0 then (bd (ck h a0 8) fun _ => bd2 (fX8_fail h a0 6) fun v3 h1 => rB v3 h1) else (bX8_readLine_63 h a0 x1))
set_option maxRecDepth 20000 in
theorem tX8_readLine_45 {r : Int32} {h' : MH}   {h : MH} {a0 : Nat} {x1 : Int32} (hf : bX8_readLine_45  h a0 x1 = some (r, h')) : V TT mX8_readLine 4 (some (.int r)) h' h 45 [.ref a0, .int x1] [] := by
  unfold bX8_readLine_45 at hf
  refine V.iload_n (q := 46) rfl dX8_readLine_45 rfl rfl ?_
  refine V.if_eq (q := 49) (tgt := 63) dX8_readLine_46 rfl (by decide) (fun c => ?_) (fun c => ?_)
  · rw [if_pos c] at hf
    exact tX8_readLine_63  hf
  · rw [if_neg c] at hf
    refine V.aload_n (q := 50) rfl dX8_readLine_49 rfl rfl ?_
    obtain ⟨v1, ev1, hf⟩ := bd_ex hf
    refine V.getI (q := 53) flX8_74 rfl ev1 dX8_readLine_50 rfl ?_
    refine V.if_ne (q := 56) (tgt := 63) dX8_readLine_53 rfl (by decide) (fun c => ?_) (fun c => ?_)
    · rw [if_neg c] at hf
      exact tX8_readLine_63  hf
    · rw [if_pos c] at hf
      refine V.aload_n (q := 57) rfl dX8_readLine_56 rfl rfl ?_
      refine V.bipush (q := 59) (v := 6) (by decide) dX8_readLine_57 rfl ?_
      obtain ⟨_, e2, hf⟩ := bd_ex hf
      obtain ⟨v3, h1, eh1, hf⟩ := bd2_ex hf
      refine V.callV (q := 62) (ci := 8) (vs := [.int 6]) (st := []) (S2 := [.int v3]) okX8_fail imX8_fail seX8_fail rfl lkX8_95 (tX8_fail eh1) rfl (ck_is e2) (by decide) rfl (Nat.le_of_ble_eq_true rfl) (Nat.le_of_ble_eq_true rfl) rfl dX8_readLine_59 rfl rfl ?_
      obtain ⟨hb, rfl, rfl⟩ := rB_inj hf
      exact V.ret (r := some (.int v3)) hb dX8_readLine_62
def fX8_readLine (h : MH) (a0 : Nat) : Option (Int32 × MH) := bd (gR h a0 8 0) fun b1 => bd (gR h a0 8 1) fun b2 => bd (ck h b1 10) fun _ => bd2 (fX10_choice h b1 b2) fun v4 h1 => if v4 < 0 then (bd (ck h1 a0 8) fun _ => bd2 (fX8_fail h1 a0 1) fun v6 h2 => rB v6 h2) else (if v4 ≤ 7 then (if v4 = 0 then (bd (gI h1 a0 8 11) fun v5 => if v5 = 0 then (bX8_readLine_45 h1 a0 v4) else (bd (ck h1 a0 8) fun _ => bd2 (fX8_fail h1 a0 3) fun v7 h2 => rB v7 h2)) else (bX8_readLine_45 h1 a0 v4)) else (bd (ck h1 a0 8) fun _ => bd2 (fX8_fail h1 a0 1) fun v6 h2 => rB v6 h2))
set_option maxRecDepth 20000 in
theorem tX8_readLine {r : Int32} {h' : MH} {h : MH} {a0 : Nat} (hf : fX8_readLine h a0 = some (r, h')) : VM mX8_readLine 4 (some (.int r)) h' h [.ref a0] := by
  show V TT mX8_readLine 4 _ h' h 0 [.ref a0, Jk] []
  unfold fX8_readLine at hf
  refine V.aload_n (q := 1) rfl dX8_readLine_0 rfl rfl ?_
  obtain ⟨b1, eb1, hf⟩ := bd_ex hf
  refine V.getR (q := 4) flX8_48 rfl eb1 dX8_readLine_1 rfl ?_
  refine V.aload_n (q := 5) rfl dX8_readLine_4 rfl rfl ?_
  obtain ⟨b2, eb2, hf⟩ := bd_ex hf
  refine V.getR (q := 8) flX8_9 rfl eb2 dX8_readLine_5 rfl ?_
  obtain ⟨_, e3, hf⟩ := bd_ex hf
  obtain ⟨v4, h1, eh1, hf⟩ := bd2_ex hf
  refine V.callV (q := 11) (ci := 10) (vs := [.ref b2]) (st := []) (S2 := [.int v4]) okX10_choice imX10_choice seX10_choice rfl lkX8_105 (tX10_choice eh1) rfl (ck_is e3) (by decide) rfl (Nat.le_of_ble_eq_true rfl) (Nat.le_of_ble_eq_true rfl) rfl dX8_readLine_8 rfl rfl ?_
  refine V.istore_n (q := 12) (L' := [.ref a0, .int v4]) rfl dX8_readLine_11 rfl (by decide) rfl rfl ?_
  refine V.iload_n (q := 13) rfl dX8_readLine_12 rfl rfl ?_
  refine V.if_lt (q := 16) (tgt := 22) dX8_readLine_13 rfl (by decide) (fun c => ?_) (fun c => ?_)
  · rw [if_pos c] at hf
    refine V.aload_n (q := 23) rfl dX8_readLine_22 rfl rfl ?_
    refine V.iconst (q := 24) (v := 1) (by decide) dX8_readLine_23 rfl ?_
    obtain ⟨_, e5, hf⟩ := bd_ex hf
    obtain ⟨v6, h2, eh2, hf⟩ := bd2_ex hf
    refine V.callV (q := 27) (ci := 8) (vs := [.int 1]) (st := []) (S2 := [.int v6]) okX8_fail imX8_fail seX8_fail rfl lkX8_95 (tX8_fail eh2) rfl (ck_is e5) (by decide) rfl (Nat.le_of_ble_eq_true rfl) (Nat.le_of_ble_eq_true rfl) rfl dX8_readLine_24 rfl rfl ?_
    obtain ⟨hb, rfl, rfl⟩ := rB_inj hf
    exact V.ret (r := some (.int v6)) hb dX8_readLine_27
  · rw [if_neg c] at hf
    refine V.iload_n (q := 17) rfl dX8_readLine_16 rfl rfl ?_
    refine V.bipush (q := 19) (v := 7) (by decide) dX8_readLine_17 rfl ?_
    refine V.icmp_le (q := 22) (tgt := 28) dX8_readLine_19 rfl (by decide) (fun c => ?_) (fun c => ?_)
    · rw [if_pos c] at hf
      refine V.iload_n (q := 29) rfl dX8_readLine_28 rfl rfl ?_
      refine V.if_ne (q := 32) (tgt := 45) dX8_readLine_29 rfl (by decide) (fun c => ?_) (fun c => ?_)
      · rw [if_neg c] at hf
        exact tX8_readLine_45  hf
      · rw [if_pos c] at hf
        refine V.aload_n (q := 33) rfl dX8_readLine_32 rfl rfl ?_
        obtain ⟨v5, ev5, hf⟩ := bd_ex hf
        refine V.getI (q := 36) flX8_74 rfl ev5 dX8_readLine_33 rfl ?_
        refine V.if_eq (q := 39) (tgt := 45) dX8_readLine_36 rfl (by decide) (fun c => ?_) (fun c => ?_)
        · rw [if_pos c] at hf
          exact tX8_readLine_45  hf
        · rw [if_neg c] at hf
          refine V.aload_n (q := 40) rfl dX8_readLine_39 rfl rfl ?_
          refine V.iconst (q := 41) (v := 3) (by decide) dX8_readLine_40 rfl ?_
          obtain ⟨_, e6, hf⟩ := bd_ex hf
          obtain ⟨v7, h2, eh2, hf⟩ := bd2_ex hf
          refine V.callV (q := 44) (ci := 8) (vs := [.int 3]) (st := []) (S2 := [.int v7]) okX8_fail imX8_fail seX8_fail rfl lkX8_95 (tX8_fail eh2) rfl (ck_is e6) (by decide) rfl (Nat.le_of_ble_eq_true rfl) (Nat.le_of_ble_eq_true rfl) rfl dX8_readLine_41 rfl rfl ?_
          obtain ⟨hb, rfl, rfl⟩ := rB_inj hf
          exact V.ret (r := some (.int v7)) hb dX8_readLine_44
    · rw [if_neg c] at hf
      refine V.aload_n (q := 23) rfl dX8_readLine_22 rfl rfl ?_
      refine V.iconst (q := 24) (v := 1) (by decide) dX8_readLine_23 rfl ?_
      obtain ⟨_, e5, hf⟩ := bd_ex hf
      obtain ⟨v6, h2, eh2, hf⟩ := bd2_ex hf
      refine V.callV (q := 27) (ci := 8) (vs := [.int 1]) (st := []) (S2 := [.int v6]) okX8_fail imX8_fail seX8_fail rfl lkX8_95 (tX8_fail eh2) rfl (ck_is e5) (by decide) rfl (Nat.le_of_ble_eq_true rfl) (Nat.le_of_ble_eq_true rfl) rfl dX8_readLine_24 rfl rfl ?_
      obtain ⟨hb, rfl, rfl⟩ := rB_inj hf
      exact V.ret (r := some (.int v6)) hb dX8_readLine_27
def bX8_readText_122  (h : MH) (a0 : Nat) : Option (Int32 × MH) := bd (gI h a0 8 12) fun v1 => if v1 = 0 then (some (1, h)) else (some (0, h))
set_option maxRecDepth 20000 in
theorem tX8_readText_122 {r : Int32} {h' : MH}   {h : MH} {a0 : Nat} (hf : bX8_readText_122  h a0 = some (r, h')) : V TT mX8_readText 5 (some (.int r)) h' h 122 [.ref a0, Jk, Jk] [] := by
  unfold bX8_readText_122 at hf
  refine V.aload_n (q := 123) rfl dX8_readText_122 rfl rfl ?_
  obtain ⟨v1, ev1, hf⟩ := bd_ex hf
  refine V.getI (q := 126) flX8_78 rfl ev1 dX8_readText_123 rfl ?_
  refine V.if_ne (q := 129) (tgt := 133) dX8_readText_126 rfl (by decide) (fun c => ?_) (fun c => ?_)
  · rw [if_neg c] at hf
    refine V.iconst (q := 134) (v := 0) (by decide) dX8_readText_133 rfl ?_
    obtain ⟨rfl, rfl⟩ := ret_inj hf
    exact V.ret (r := some (.int 0)) (Or.inl rfl) dX8_readText_134
  · rw [if_pos c] at hf
    refine V.iconst (q := 130) (v := 1) (by decide) dX8_readText_129 rfl ?_
    refine V.goto (q := 134) dX8_readText_130 (by decide) ?_
    obtain ⟨rfl, rfl⟩ := ret_inj hf
    exact V.ret (r := some (.int 1)) (Or.inr rfl) dX8_readText_134
def bX8_readText_98  (h : MH) (a0 : Nat) : Option (Int32 × MH) := bd (gI h a0 8 12) fun v1 => if v1 = 0 then (bd (gR h a0 8 9) fun b2 => bd (gI h b2 7 14) fun v3 => if v3 = 0 then (bd (ck h a0 8) fun _ => bd2 (fX8_fail h a0 6) fun v5 h1 => rB v5 h1) else (bX8_readText_122 h a0)) else (bX8_readText_122 h a0)
set_option maxRecDepth 20000 in
theorem tX8_readText_98 {r : Int32} {h' : MH}   {h : MH} {a0 : Nat} (hf : bX8_readText_98  h a0 = some (r, h')) : V TT mX8_readText 5 (some (.int r)) h' h 98 [.ref a0, Jk, Jk] [] := by
  unfold bX8_readText_98 at hf
  refine V.aload_n (q := 99) rfl dX8_readText_98 rfl rfl ?_
  obtain ⟨v1, ev1, hf⟩ := bd_ex hf
  refine V.getI (q := 102) flX8_78 rfl ev1 dX8_readText_99 rfl ?_
  refine V.if_ne (q := 105) (tgt := 122) dX8_readText_102 rfl (by decide) (fun c => ?_) (fun c => ?_)
  · rw [if_neg c] at hf
    exact tX8_readText_122  hf
  · rw [if_pos c] at hf
    refine V.aload_n (q := 106) rfl dX8_readText_105 rfl rfl ?_
    obtain ⟨b2, eb2, hf⟩ := bd_ex hf
    refine V.getR (q := 109) flX8_44 rfl eb2 dX8_readText_106 rfl ?_
    obtain ⟨v3, ev3, hf⟩ := bd_ex hf
    refine V.getI (q := 112) flX8_102 rfl ev3 dX8_readText_109 rfl ?_
    refine V.if_ne (q := 115) (tgt := 122) dX8_readText_112 rfl (by decide) (fun c => ?_) (fun c => ?_)
    · rw [if_neg c] at hf
      exact tX8_readText_122  hf
    · rw [if_pos c] at hf
      refine V.aload_n (q := 116) rfl dX8_readText_115 rfl rfl ?_
      refine V.bipush (q := 118) (v := 6) (by decide) dX8_readText_116 rfl ?_
      obtain ⟨_, e4, hf⟩ := bd_ex hf
      obtain ⟨v5, h1, eh1, hf⟩ := bd2_ex hf
      refine V.callV (q := 121) (ci := 8) (vs := [.int 6]) (st := []) (S2 := [.int v5]) okX8_fail imX8_fail seX8_fail rfl lkX8_95 (tX8_fail eh1) rfl (ck_is e4) (by decide) rfl (Nat.le_of_ble_eq_true rfl) (Nat.le_of_ble_eq_true rfl) rfl dX8_readText_118 rfl rfl ?_
      obtain ⟨hb, rfl, rfl⟩ := rB_inj hf
      exact V.ret (r := some (.int v5)) hb dX8_readText_121
def bX8_readText_44 (k44 : MH → Nat → Int32 → Option (Int32 × MH)) (h : MH) (a0 : Nat) (x2 : Int32) : Option (Int32 × MH) := if 900 < x2 then (bX8_readText_98 h a0) else (bd (ck h a0 8) fun _ => bd2 (fX8_readLine h a0 ) fun v2 h1 => if v2 = 0 then (bX8_readText_98 h1 a0) else (bd (gR h1 a0 8 0) fun b3 => bd (gI h1 b3 10 3) fun v4 => if v4 = 0 then (bX8_readText_98 h1 a0) else (bd (gR h1 a0 8 0) fun b5 => bd (gI h1 b5 10 3) fun v6 => if v6 = 3 then (bd (gR h1 a0 8 0) fun b7 => bd (ck h1 b7 10) fun _ => bd (fX10_advance h1 b7 ) fun h2 => bd (some (x2 + 1)) fun v9 => k44 h2 a0 v9) else (bd (ck h1 a0 8) fun _ => bd2 (fX8_fail h1 a0 1) fun v8 h2 => rB v8 h2))))
set_option maxRecDepth 20000 in
theorem tX8_readText_44 {r : Int32} {h' : MH} (k44 : MH → Nat → Int32 → Option (Int32 × MH)) (hk44 : ∀ (h : MH) (a0 : Nat) (x2 : Int32), k44 h a0 x2 = some (r, h') → V TT mX8_readText 5 (some (.int r)) h' h 44 [.ref a0, Jk, .int x2] [])  {h : MH} {a0 : Nat} {x2 : Int32} (hf : bX8_readText_44 k44 h a0 x2 = some (r, h')) : V TT mX8_readText 5 (some (.int r)) h' h 44 [.ref a0, Jk, .int x2] [] := by
  unfold bX8_readText_44 at hf
  refine V.iload_n (q := 45) rfl dX8_readText_44 rfl rfl ?_
  refine V.sipush (q := 48) (v := 900) (by decide) dX8_readText_45 rfl ?_
  refine V.icmp_gt (q := 51) (tgt := 98) dX8_readText_48 rfl (by decide) (fun c => ?_) (fun c => ?_)
  · rw [if_pos c] at hf
    refine V.forget (L' := [.ref a0, Jk, Jk]) ⟨Or.inr rfl, Or.inl rfl, Or.inl rfl, trivial⟩ ?_
    exact tX8_readText_98  hf
  · rw [if_neg c] at hf
    refine V.aload_n (q := 52) rfl dX8_readText_51 rfl rfl ?_
    obtain ⟨_, e1, hf⟩ := bd_ex hf
    obtain ⟨v2, h1, eh1, hf⟩ := bd2_ex hf
    refine V.callV (q := 55) (ci := 8) (vs := []) (st := []) (S2 := [.int v2]) okX8_readLine imX8_readLine seX8_readLine rfl lkX8_88 (tX8_readLine eh1) rfl (ck_is e1) (by decide) rfl (Nat.le_of_ble_eq_true rfl) (Nat.le_of_ble_eq_true rfl) rfl dX8_readText_52 rfl rfl ?_
    refine V.if_eq (q := 58) (tgt := 98) dX8_readText_55 rfl (by decide) (fun c => ?_) (fun c => ?_)
    · rw [if_pos c] at hf
      refine V.forget (L' := [.ref a0, Jk, Jk]) ⟨Or.inr rfl, Or.inl rfl, Or.inl rfl, trivial⟩ ?_
      exact tX8_readText_98  hf
    · rw [if_neg c] at hf
      refine V.aload_n (q := 59) rfl dX8_readText_58 rfl rfl ?_
      obtain ⟨b3, eb3, hf⟩ := bd_ex hf
      refine V.getR (q := 62) flX8_48 rfl eb3 dX8_readText_59 rfl ?_
      obtain ⟨v4, ev4, hf⟩ := bd_ex hf
      refine V.getI (q := 65) flX8_92 rfl ev4 dX8_readText_62 rfl ?_
      refine V.if_eq (q := 68) (tgt := 98) dX8_readText_65 rfl (by decide) (fun c => ?_) (fun c => ?_)
      · rw [if_pos c] at hf
        refine V.forget (L' := [.ref a0, Jk, Jk]) ⟨Or.inr rfl, Or.inl rfl, Or.inl rfl, trivial⟩ ?_
        exact tX8_readText_98  hf
      · rw [if_neg c] at hf
        refine V.aload_n (q := 69) rfl dX8_readText_68 rfl rfl ?_
        obtain ⟨b5, eb5, hf⟩ := bd_ex hf
        refine V.getR (q := 72) flX8_48 rfl eb5 dX8_readText_69 rfl ?_
        obtain ⟨v6, ev6, hf⟩ := bd_ex hf
        refine V.getI (q := 75) flX8_92 rfl ev6 dX8_readText_72 rfl ?_
        refine V.iconst (q := 76) (v := 3) (by decide) dX8_readText_75 rfl ?_
        refine V.icmp_eq (q := 79) (tgt := 85) dX8_readText_76 rfl (by decide) (fun c => ?_) (fun c => ?_)
        · rw [if_pos c] at hf
          refine V.aload_n (q := 86) rfl dX8_readText_85 rfl rfl ?_
          obtain ⟨b7, eb7, hf⟩ := bd_ex hf
          refine V.getR (q := 89) flX8_48 rfl eb7 dX8_readText_86 rfl ?_
          obtain ⟨_, e8, hf⟩ := bd_ex hf
          obtain ⟨h2, eh2, hf⟩ := bd_ex hf
          refine V.callV (q := 92) (ci := 10) (vs := []) (st := []) (S2 := []) okX10_advance imX10_advance seX10_advance rfl lkX8_99 (tX10_advance eh2) rfl (ck_is e8) (by decide) rfl (Nat.le_of_ble_eq_true rfl) (Nat.le_of_ble_eq_true rfl) rfl dX8_readText_89 rfl rfl ?_
          obtain ⟨v9, ev9, hf⟩ := bd_ex hf
          refine V.iinc (q := 95) (v := v9) (L' := [.ref a0, Jk, .int v9]) dX8_readText_92 rfl rfl (Option.some.inj ev9) (by decide) rfl rfl ?_
          refine V.goto (q := 44) dX8_readText_95 (by decide) ?_
          exact hk44 _ _ _ hf
        · rw [if_neg c] at hf
          refine V.aload_n (q := 80) rfl dX8_readText_79 rfl rfl ?_
          refine V.iconst (q := 81) (v := 1) (by decide) dX8_readText_80 rfl ?_
          obtain ⟨_, e7, hf⟩ := bd_ex hf
          obtain ⟨v8, h2, eh2, hf⟩ := bd2_ex hf
          refine V.callV (q := 84) (ci := 8) (vs := [.int 1]) (st := []) (S2 := [.int v8]) okX8_fail imX8_fail seX8_fail rfl lkX8_95 (tX8_fail eh2) rfl (ck_is e7) (by decide) rfl (Nat.le_of_ble_eq_true rfl) (Nat.le_of_ble_eq_true rfl) rfl dX8_readText_81 rfl rfl ?_
          obtain ⟨hb, rfl, rfl⟩ := rB_inj hf
          exact V.ret (r := some (.int v8)) hb dX8_readText_84
def fX8_readText_44  : Nat → MH → Nat → Int32 → Option (Int32 × MH)
  | 0 => fun _ _ _ => none
  | n + 1 => bX8_readText_44  (fX8_readText_44  n)
theorem tlX8_readText_44 {r : Int32} {h' : MH}   : ∀ (n : Nat) (h : MH) (a0 : Nat) (x2 : Int32), fX8_readText_44  n h a0 x2 = some (r, h') → V TT mX8_readText 5 (some (.int r)) h' h 44 [.ref a0, Jk, .int x2] [] := by
  intro n
  induction n with
  | zero => intro h a0 x2 hf; exact nomatch (show (none : Option (Int32 × MH)) = some (r, h') from hf)
  | succ n ih => intro h a0 x2 hf; exact tX8_readText_44  (fX8_readText_44  n) ih hf
def fX8_readText (h : MH) (a0 : Nat) (x1 : Int32) : Option (Int32 × MH) := bd (gR h a0 8 9) fun b1 => bd (ck h b1 7) fun _ => bd (fX7_empty h b1 ) fun h1 => bd (gR h1 a0 8 5) fun b3 => bd (ck h1 b3 4) fun _ => bd (fX4_empty h1 b3 ) fun h2 => bd (pI h2 a0 8 10 0) fun h3 => bd (pB h3 a0 8 11 0) fun h4 => bd (pI h4 a0 8 12 0) fun h5 => bd (pI h5 a0 8 13 (-1)) fun h6 => bd (gR h6 a0 8 0) fun b5 => bd (ck h6 b5 10) fun _ => bd (fX10_begin h6 b5 x1) fun h7 => fX8_readText_44 FU h7 a0 0
set_option maxRecDepth 20000 in
theorem tX8_readText {r : Int32} {h' : MH} {h : MH} {a0 : Nat} {x1 : Int32} (hf : fX8_readText h a0 x1 = some (r, h')) : VM mX8_readText 5 (some (.int r)) h' h [.ref a0, .int x1] := by
  show V TT mX8_readText 5 _ h' h 0 [.ref a0, .int x1, Jk] []
  unfold fX8_readText at hf
  refine V.aload_n (q := 1) rfl dX8_readText_0 rfl rfl ?_
  obtain ⟨b1, eb1, hf⟩ := bd_ex hf
  refine V.getR (q := 4) flX8_44 rfl eb1 dX8_readText_1 rfl ?_
  obtain ⟨_, e2, hf⟩ := bd_ex hf
  obtain ⟨h1, eh1, hf⟩ := bd_ex hf
  refine V.callV (q := 7) (ci := 7) (vs := []) (st := []) (S2 := []) okX7_empty imX7_empty seX7_empty rfl lkX8_66 (tX7_empty eh1) rfl (ck_is e2) (by decide) rfl (Nat.le_of_ble_eq_true rfl) (Nat.le_of_ble_eq_true rfl) rfl dX8_readText_4 rfl rfl ?_
  refine V.aload_n (q := 8) rfl dX8_readText_7 rfl rfl ?_
  obtain ⟨b3, eb3, hf⟩ := bd_ex hf
  refine V.getR (q := 11) flX8_27 rfl eb3 dX8_readText_8 rfl ?_
  obtain ⟨_, e4, hf⟩ := bd_ex hf
  obtain ⟨h2, eh2, hf⟩ := bd_ex hf
  refine V.callV (q := 14) (ci := 4) (vs := []) (st := []) (S2 := []) okX4_empty imX4_empty seX4_empty rfl lkX8_69 (tX4_empty eh2) rfl (ck_is e4) (by decide) rfl (Nat.le_of_ble_eq_true rfl) (Nat.le_of_ble_eq_true rfl) rfl dX8_readText_11 rfl rfl ?_
  refine V.aload_n (q := 15) rfl dX8_readText_14 rfl rfl ?_
  refine V.iconst (q := 16) (v := 0) (by decide) dX8_readText_15 rfl ?_
  obtain ⟨h3, eh3, hf⟩ := bd_ex hf
  refine V.putI (q := 19) (fpX8_70 rfl) rfl eh3 dX8_readText_16 rfl ?_
  refine V.aload_n (q := 20) rfl dX8_readText_19 rfl rfl ?_
  refine V.iconst (q := 21) (v := 0) (by decide) dX8_readText_20 rfl ?_
  obtain ⟨h4, eh4, hf⟩ := bd_ex hf
  refine V.putB (q := 24) (fpX8_74 rfl) rfl eh4 dX8_readText_21 rfl ?_
  refine V.aload_n (q := 25) rfl dX8_readText_24 rfl rfl ?_
  refine V.iconst (q := 26) (v := 0) (by decide) dX8_readText_25 rfl ?_
  obtain ⟨h5, eh5, hf⟩ := bd_ex hf
  refine V.putI (q := 29) (fpX8_78 rfl) rfl eh5 dX8_readText_26 rfl ?_
  refine V.aload_n (q := 30) rfl dX8_readText_29 rfl rfl ?_
  refine V.iconst (q := 31) (v := (-1)) (by decide) dX8_readText_30 rfl ?_
  obtain ⟨h6, eh6, hf⟩ := bd_ex hf
  refine V.putI (q := 34) (fpX8_81 rfl) rfl eh6 dX8_readText_31 rfl ?_
  refine V.aload_n (q := 35) rfl dX8_readText_34 rfl rfl ?_
  obtain ⟨b5, eb5, hf⟩ := bd_ex hf
  refine V.getR (q := 38) flX8_48 rfl eb5 dX8_readText_35 rfl ?_
  refine V.iload_n (q := 39) rfl dX8_readText_38 rfl rfl ?_
  obtain ⟨_, e6, hf⟩ := bd_ex hf
  obtain ⟨h7, eh7, hf⟩ := bd_ex hf
  refine V.callV (q := 42) (ci := 10) (vs := [.int x1]) (st := []) (S2 := []) okX10_begin imX10_begin seX10_begin rfl lkX8_84 (tX10_begin eh7) rfl (ck_is e6) (by decide) rfl (Nat.le_of_ble_eq_true rfl) (Nat.le_of_ble_eq_true rfl) rfl dX8_readText_39 rfl rfl ?_
  refine V.iconst (q := 43) (v := 0) (by decide) dX8_readText_42 rfl ?_
  refine V.istore_n (q := 44) (L' := [.ref a0, .int x1, .int 0]) rfl dX8_readText_43 rfl (by decide) rfl rfl ?_
  refine V.forget (L' := [.ref a0, Jk, .int 0]) ⟨Or.inr rfl, Or.inl rfl, Or.inr rfl, trivial⟩ ?_
  exact tlX8_readText_44  FU _ _ _ hf
def fX11_office (h : MH) (a0 : Nat) (x1 : Int32) : Option (Int32 × MH) := if x1 < 0 then (bd (ck h a0 11) fun _ => bd2 (fX11_refuse h a0 2) fun v2 h1 => some (v2, h1)) else (bd (gR h a0 11 0) fun b1 => bd (gI h b1 10 1) fun v2 => if x1 ≤ v2 then (bd (gR h a0 11 1) fun b3 => bd (ck h b3 8) fun _ => bd2 (fX8_readText h b3 x1) fun v5 h1 => bd (gR h1 a0 11 0) fun b6 => bd (pI h1 b6 10 1 0) fun h2 => bd (gR h2 a0 11 1) fun b7 => bd (gI h2 b7 8 12) fun v8 => bd (pI h2 a0 11 11 v8) fun h3 => bd (gR h3 a0 11 1) fun b9 => bd (gI h3 b9 8 13) fun v10 => bd (pI h3 a0 11 12 v10) fun h4 => if v5 = 0 then (bd (ck h4 a0 11) fun _ => bd2 (fX11_refuse h4 a0 4) fun v12 h5 => some (v12, h5)) else (bd (ck h4 a0 11) fun _ => bd (fX11_openOffice h4 a0 ) fun h5 => bd (gR h5 a0 11 2) fun b12 => bd (gR h5 b12 5 1) fun b13 => bd (gI h5 b13 7 14) fun v14 => bd (ck h5 a0 11) fun _ => bd2 (fX11_answer h5 a0 v14) fun v16 h6 => some (v16, h6))) else (bd (ck h a0 11) fun _ => bd2 (fX11_refuse h a0 2) fun v4 h1 => some (v4, h1)))
set_option maxRecDepth 20000 in
theorem tX11_office {r : Int32} {h' : MH} {h : MH} {a0 : Nat} {x1 : Int32} (hf : fX11_office h a0 x1 = some (r, h')) : VM mX11_office 6 (some (.int r)) h' h [.ref a0, .int x1] := by
  show V TT mX11_office 6 _ h' h 0 [.ref a0, .int x1, Jk] []
  unfold fX11_office at hf
  refine V.iload_n (q := 1) rfl dX11_office_0 rfl rfl ?_
  refine V.if_lt (q := 4) (tgt := 15) dX11_office_1 rfl (by decide) (fun c => ?_) (fun c => ?_)
  · rw [if_pos c] at hf
    refine V.aload_n (q := 16) rfl dX11_office_15 rfl rfl ?_
    refine V.iconst (q := 17) (v := 2) (by decide) dX11_office_16 rfl ?_
    obtain ⟨_, e1, hf⟩ := bd_ex hf
    obtain ⟨v2, h1, eh1, hf⟩ := bd2_ex hf
    refine V.callV (q := 20) (ci := 11) (vs := [.int 2]) (st := []) (S2 := [.int v2]) okX11_refuse imX11_refuse seX11_refuse rfl lkX11_101 (tX11_refuse eh1) rfl (ck_is e1) (by decide) rfl (Nat.le_of_ble_eq_true rfl) (Nat.le_of_ble_eq_true rfl) rfl dX11_office_17 rfl rfl ?_
    obtain ⟨rfl, rfl⟩ := ret_inj hf
    exact V.ret (r := some (.int v2)) trivial dX11_office_20
  · rw [if_neg c] at hf
    refine V.iload_n (q := 5) rfl dX11_office_4 rfl rfl ?_
    refine V.aload_n (q := 6) rfl dX11_office_5 rfl rfl ?_
    obtain ⟨b1, eb1, hf⟩ := bd_ex hf
    refine V.getR (q := 9) flX11_10 rfl eb1 dX11_office_6 rfl ?_
    obtain ⟨v2, ev2, hf⟩ := bd_ex hf
    refine V.getI (q := 12) flX11_98 rfl ev2 dX11_office_9 rfl ?_
    refine V.icmp_le (q := 15) (tgt := 21) dX11_office_12 rfl (by decide) (fun c => ?_) (fun c => ?_)
    · rw [if_pos c] at hf
      refine V.aload_n (q := 22) rfl dX11_office_21 rfl rfl ?_
      obtain ⟨b3, eb3, hf⟩ := bd_ex hf
      refine V.getR (q := 25) flX11_21 rfl eb3 dX11_office_22 rfl ?_
      refine V.iload_n (q := 26) rfl dX11_office_25 rfl rfl ?_
      obtain ⟨_, e4, hf⟩ := bd_ex hf
      obtain ⟨v5, h1, eh1, hf⟩ := bd2_ex hf
      refine V.callV (q := 29) (ci := 8) (vs := [.int x1]) (st := []) (S2 := [.int v5]) okX8_readText imX8_readText seX8_readText rfl lkX11_105 (tX8_readText eh1) rfl (ck_is e4) (by decide) rfl (Nat.le_of_ble_eq_true rfl) (Nat.le_of_ble_eq_true rfl) rfl dX11_office_26 rfl rfl ?_
      refine V.istore_n (q := 30) (L' := [.ref a0, .int x1, .int v5]) rfl dX11_office_29 rfl (by decide) rfl rfl ?_
      refine V.aload_n (q := 31) rfl dX11_office_30 rfl rfl ?_
      obtain ⟨b6, eb6, hf⟩ := bd_ex hf
      refine V.getR (q := 34) flX11_10 rfl eb6 dX11_office_31 rfl ?_
      refine V.iconst (q := 35) (v := 0) (by decide) dX11_office_34 rfl ?_
      obtain ⟨h2, eh2, hf⟩ := bd_ex hf
      refine V.putI (q := 38) (fpX11_98 rfl) rfl eh2 dX11_office_35 rfl ?_
      refine V.aload_n (q := 39) rfl dX11_office_38 rfl rfl ?_
      refine V.aload_n (q := 40) rfl dX11_office_39 rfl rfl ?_
      obtain ⟨b7, eb7, hf⟩ := bd_ex hf
      refine V.getR (q := 43) flX11_21 rfl eb7 dX11_office_40 rfl ?_
      obtain ⟨v8, ev8, hf⟩ := bd_ex hf
      refine V.getI (q := 46) flX11_109 rfl ev8 dX11_office_43 rfl ?_
      obtain ⟨h3, eh3, hf⟩ := bd_ex hf
      refine V.putI (q := 49) (fpX11_84 rfl) rfl eh3 dX11_office_46 rfl ?_
      refine V.aload_n (q := 50) rfl dX11_office_49 rfl rfl ?_
      refine V.aload_n (q := 51) rfl dX11_office_50 rfl rfl ?_
      obtain ⟨b9, eb9, hf⟩ := bd_ex hf
      refine V.getR (q := 54) flX11_21 rfl eb9 dX11_office_51 rfl ?_
      obtain ⟨v10, ev10, hf⟩ := bd_ex hf
      refine V.getI (q := 57) flX11_112 rfl ev10 dX11_office_54 rfl ?_
      obtain ⟨h4, eh4, hf⟩ := bd_ex hf
      refine V.putI (q := 60) (fpX11_87 rfl) rfl eh4 dX11_office_57 rfl ?_
      refine V.iload_n (q := 61) rfl dX11_office_60 rfl rfl ?_
      refine V.if_ne (q := 64) (tgt := 70) dX11_office_61 rfl (by decide) (fun c => ?_) (fun c => ?_)
      · rw [if_neg c] at hf
        refine V.aload_n (q := 71) rfl dX11_office_70 rfl rfl ?_
        obtain ⟨_, e11, hf⟩ := bd_ex hf
        obtain ⟨h5, eh5, hf⟩ := bd_ex hf
        refine V.callV (q := 74) (ci := 11) (vs := []) (st := []) (S2 := []) okX11_openOffice imX11_openOffice seX11_openOffice rfl lkX11_115 (tX11_openOffice eh5) rfl (ck_is e11) (by decide) rfl (Nat.le_of_ble_eq_true rfl) (Nat.le_of_ble_eq_true rfl) rfl dX11_office_71 rfl rfl ?_
        refine V.aload_n (q := 75) rfl dX11_office_74 rfl rfl ?_
        refine V.aload_n (q := 76) rfl dX11_office_75 rfl rfl ?_
        obtain ⟨b12, eb12, hf⟩ := bd_ex hf
        refine V.getR (q := 79) flX11_28 rfl eb12 dX11_office_76 rfl ?_
        obtain ⟨b13, eb13, hf⟩ := bd_ex hf
        refine V.getR (q := 82) flX11_118 rfl eb13 dX11_office_79 rfl ?_
        obtain ⟨v14, ev14, hf⟩ := bd_ex hf
        refine V.getI (q := 85) flX11_122 rfl ev14 dX11_office_82 rfl ?_
        obtain ⟨_, e15, hf⟩ := bd_ex hf
        obtain ⟨v16, h6, eh6, hf⟩ := bd2_ex hf
        refine V.callV (q := 88) (ci := 11) (vs := [.int v14]) (st := []) (S2 := [.int v16]) okX11_answer imX11_answer seX11_answer rfl lkX11_127 (tX11_answer eh6) rfl (ck_is e15) (by decide) rfl (Nat.le_of_ble_eq_true rfl) (Nat.le_of_ble_eq_true rfl) rfl dX11_office_85 rfl rfl ?_
        obtain ⟨rfl, rfl⟩ := ret_inj hf
        exact V.ret (r := some (.int v16)) trivial dX11_office_88
      · rw [if_pos c] at hf
        refine V.aload_n (q := 65) rfl dX11_office_64 rfl rfl ?_
        refine V.iconst (q := 66) (v := 4) (by decide) dX11_office_65 rfl ?_
        obtain ⟨_, e11, hf⟩ := bd_ex hf
        obtain ⟨v12, h5, eh5, hf⟩ := bd2_ex hf
        refine V.callV (q := 69) (ci := 11) (vs := [.int 4]) (st := []) (S2 := [.int v12]) okX11_refuse imX11_refuse seX11_refuse rfl lkX11_101 (tX11_refuse eh5) rfl (ck_is e11) (by decide) rfl (Nat.le_of_ble_eq_true rfl) (Nat.le_of_ble_eq_true rfl) rfl dX11_office_66 rfl rfl ?_
        obtain ⟨rfl, rfl⟩ := ret_inj hf
        exact V.ret (r := some (.int v12)) trivial dX11_office_69
    · rw [if_neg c] at hf
      refine V.aload_n (q := 16) rfl dX11_office_15 rfl rfl ?_
      refine V.iconst (q := 17) (v := 2) (by decide) dX11_office_16 rfl ?_
      obtain ⟨_, e3, hf⟩ := bd_ex hf
      obtain ⟨v4, h1, eh1, hf⟩ := bd2_ex hf
      refine V.callV (q := 20) (ci := 11) (vs := [.int 2]) (st := []) (S2 := [.int v4]) okX11_refuse imX11_refuse seX11_refuse rfl lkX11_101 (tX11_refuse eh1) rfl (ck_is e3) (by decide) rfl (Nat.le_of_ble_eq_true rfl) (Nat.le_of_ble_eq_true rfl) rfl dX11_office_17 rfl rfl ?_
      obtain ⟨rfl, rfl⟩ := ret_inj hf
      exact V.ret (r := some (.int v4)) trivial dX11_office_20
def fX4_latestOn (h : MH) (a0 : Nat) (x1 : Int32) : Option (Int32 × MH) := bd (gR h a0 4 0) fun b1 => bd (lI h b1 (5 + x1)) fun v2 => some (v2, h)
set_option maxRecDepth 20000 in
theorem tX4_latestOn {r : Int32} {h' : MH} {h : MH} {a0 : Nat} {x1 : Int32} (hf : fX4_latestOn h a0 x1 = some (r, h')) : VM mX4_latestOn 0 (some (.int r)) h' h [.ref a0, .int x1] := by
  show V TT mX4_latestOn 0 _ h' h 0 [.ref a0, .int x1] []
  unfold fX4_latestOn at hf
  refine V.aload_n (q := 1) rfl dX4_latestOn_0 rfl rfl ?_
  obtain ⟨b1, eb1, hf⟩ := bd_ex hf
  refine V.getR (q := 4) flX4_11 rfl eb1 dX4_latestOn_1 rfl ?_
  refine V.iconst (q := 5) (v := 5) (by decide) dX4_latestOn_4 rfl ?_
  refine V.iload_n (q := 6) rfl dX4_latestOn_5 rfl rfl ?_
  refine V.iadd (q := 7) dX4_latestOn_6 rfl ?_
  obtain ⟨v2, ev2, hf⟩ := bd_ex hf
  refine V.iald (q := 8) ev2 dX4_latestOn_7 rfl ?_
  obtain ⟨rfl, rfl⟩ := ret_inj hf
  exact V.ret (r := some (.int v2)) trivial dX4_latestOn_8
def fX11_paper (h : MH) (a0 : Nat) (x1 : Int32) (x2 : Int32) : Option (Int32 × MH) := bd (gR h a0 11 2) fun b1 => bd (ck h b1 5) fun _ => bd2 (fX5_hasPaper h b1 x1) fun v3 h1 => if v3 = 0 then (bd (ck h1 a0 11) fun _ => bd2 (fX11_refuse h1 a0 1) fun v5 h2 => some (v5, h2)) else (if x2 < 0 then (bd (ck h1 a0 11) fun _ => bd2 (fX11_refuse h1 a0 1) fun v5 h2 => some (v5, h2)) else (if x2 ≤ 3 then (if x2 = 0 then (bd (gR h1 a0 11 2) fun b4 => bd (gR h1 b4 5 1) fun b5 => bd (gR h1 b5 7 0) fun b6 => bd (lI h1 b6 x1) fun v7 => bd (ck h1 a0 11) fun _ => bd2 (fX11_answer h1 a0 v7) fun v9 h2 => some (v9, h2)) else (if x2 = 1 then (bd (gR h1 a0 11 2) fun b4 => bd (gR h1 b4 5 0) fun b5 => bd (ck h1 b5 4) fun _ => bd2 (fX4_marksOf h1 b5 x1) fun v7 h2 => bd (ck h2 a0 11) fun _ => bd2 (fX11_answer h2 a0 v7) fun v9 h3 => some (v9, h3)) else (if x2 = 2 then (bd (gR h1 a0 11 2) fun b4 => bd (gR h1 b4 5 1) fun b5 => bd (gR h1 b5 7 1) fun b6 => bd (lI h1 b6 x1) fun v7 => bd (ck h1 a0 11) fun _ => bd2 (fX11_answer h1 a0 v7) fun v9 h2 => some (v9, h2)) else (bd (gR h1 a0 11 2) fun b4 => bd (gR h1 b4 5 0) fun b5 => bd (ck h1 b5 4) fun _ => bd2 (fX4_latestOn h1 b5 x1) fun v7 h2 => bd (ck h2 a0 11) fun _ => bd2 (fX11_answer h2 a0 v7) fun v9 h3 => some (v9, h3))))) else (bd (ck h1 a0 11) fun _ => bd2 (fX11_refuse h1 a0 1) fun v5 h2 => some (v5, h2))))
set_option maxRecDepth 20000 in
theorem tX11_paper {r : Int32} {h' : MH} {h : MH} {a0 : Nat} {x1 : Int32} {x2 : Int32} (hf : fX11_paper h a0 x1 x2 = some (r, h')) : VM mX11_paper 1 (some (.int r)) h' h [.ref a0, .int x1, .int x2] := by
  show V TT mX11_paper 1 _ h' h 0 [.ref a0, .int x1, .int x2] []
  unfold fX11_paper at hf
  refine V.aload_n (q := 1) rfl dX11_paper_0 rfl rfl ?_
  obtain ⟨b1, eb1, hf⟩ := bd_ex hf
  refine V.getR (q := 4) flX11_28 rfl eb1 dX11_paper_1 rfl ?_
  refine V.iload_n (q := 5) rfl dX11_paper_4 rfl rfl ?_
  obtain ⟨_, e2, hf⟩ := bd_ex hf
  obtain ⟨v3, h1, eh1, hf⟩ := bd2_ex hf
  refine V.callV (q := 8) (ci := 5) (vs := [.int x1]) (st := []) (S2 := [.int v3]) okX5_hasPaper imX5_hasPaper seX5_hasPaper rfl lkX11_130 (tX5_hasPaper eh1) rfl (ck_is e2) (by decide) rfl (Nat.le_of_ble_eq_true rfl) (Nat.le_of_ble_eq_true rfl) rfl dX11_paper_5 rfl rfl ?_
  refine V.if_eq (q := 11) (tgt := 20) dX11_paper_8 rfl (by decide) (fun c => ?_) (fun c => ?_)
  · rw [if_pos c] at hf
    refine V.aload_n (q := 21) rfl dX11_paper_20 rfl rfl ?_
    refine V.iconst (q := 22) (v := 1) (by decide) dX11_paper_21 rfl ?_
    obtain ⟨_, e4, hf⟩ := bd_ex hf
    obtain ⟨v5, h2, eh2, hf⟩ := bd2_ex hf
    refine V.callV (q := 25) (ci := 11) (vs := [.int 1]) (st := []) (S2 := [.int v5]) okX11_refuse imX11_refuse seX11_refuse rfl lkX11_101 (tX11_refuse eh2) rfl (ck_is e4) (by decide) rfl (Nat.le_of_ble_eq_true rfl) (Nat.le_of_ble_eq_true rfl) rfl dX11_paper_22 rfl rfl ?_
    obtain ⟨rfl, rfl⟩ := ret_inj hf
    exact V.ret (r := some (.int v5)) trivial dX11_paper_25
  · rw [if_neg c] at hf
    refine V.iload_n (q := 12) rfl dX11_paper_11 rfl rfl ?_
    refine V.if_lt (q := 15) (tgt := 20) dX11_paper_12 rfl (by decide) (fun c => ?_) (fun c => ?_)
    · rw [if_pos c] at hf
      refine V.aload_n (q := 21) rfl dX11_paper_20 rfl rfl ?_
      refine V.iconst (q := 22) (v := 1) (by decide) dX11_paper_21 rfl ?_
      obtain ⟨_, e4, hf⟩ := bd_ex hf
      obtain ⟨v5, h2, eh2, hf⟩ := bd2_ex hf
      refine V.callV (q := 25) (ci := 11) (vs := [.int 1]) (st := []) (S2 := [.int v5]) okX11_refuse imX11_refuse seX11_refuse rfl lkX11_101 (tX11_refuse eh2) rfl (ck_is e4) (by decide) rfl (Nat.le_of_ble_eq_true rfl) (Nat.le_of_ble_eq_true rfl) rfl dX11_paper_22 rfl rfl ?_
      obtain ⟨rfl, rfl⟩ := ret_inj hf
      exact V.ret (r := some (.int v5)) trivial dX11_paper_25
    · rw [if_neg c] at hf
      refine V.iload_n (q := 16) rfl dX11_paper_15 rfl rfl ?_
      refine V.iconst (q := 17) (v := 3) (by decide) dX11_paper_16 rfl ?_
      refine V.icmp_le (q := 20) (tgt := 26) dX11_paper_17 rfl (by decide) (fun c => ?_) (fun c => ?_)
      · rw [if_pos c] at hf
        refine V.iload_n (q := 27) rfl dX11_paper_26 rfl rfl ?_
        by_cases c0 : x2 = 0
        · rw [if_pos c0] at hf
          refine V.topI c0 ?_
          refine V.tableIn (q := 52) (off := 25) dX11_paper_27 (by decide) (by decide) (by decide) (by decide) ?_
          refine V.aload_n (q := 53) rfl dX11_paper_52 rfl rfl ?_
          refine V.aload_n (q := 54) rfl dX11_paper_53 rfl rfl ?_
          obtain ⟨b4, eb4, hf⟩ := bd_ex hf
          refine V.getR (q := 57) flX11_28 rfl eb4 dX11_paper_54 rfl ?_
          obtain ⟨b5, eb5, hf⟩ := bd_ex hf
          refine V.getR (q := 60) flX11_118 rfl eb5 dX11_paper_57 rfl ?_
          obtain ⟨b6, eb6, hf⟩ := bd_ex hf
          refine V.getR (q := 63) flX11_133 rfl eb6 dX11_paper_60 rfl ?_
          refine V.iload_n (q := 64) rfl dX11_paper_63 rfl rfl ?_
          obtain ⟨v7, ev7, hf⟩ := bd_ex hf
          refine V.iald (q := 65) ev7 dX11_paper_64 rfl ?_
          obtain ⟨_, e8, hf⟩ := bd_ex hf
          obtain ⟨v9, h2, eh2, hf⟩ := bd2_ex hf
          refine V.callV (q := 68) (ci := 11) (vs := [.int v7]) (st := []) (S2 := [.int v9]) okX11_answer imX11_answer seX11_answer rfl lkX11_127 (tX11_answer eh2) rfl (ck_is e8) (by decide) rfl (Nat.le_of_ble_eq_true rfl) (Nat.le_of_ble_eq_true rfl) rfl dX11_paper_65 rfl rfl ?_
          obtain ⟨rfl, rfl⟩ := ret_inj hf
          exact V.ret (r := some (.int v9)) trivial dX11_paper_68
        rw [if_neg c0] at hf
        by_cases c1 : x2 = 1
        · rw [if_pos c1] at hf
          refine V.topI c1 ?_
          refine V.tableIn (q := 69) (off := 42) dX11_paper_27 (by decide) (by decide) (by decide) (by decide) ?_
          refine V.aload_n (q := 70) rfl dX11_paper_69 rfl rfl ?_
          refine V.aload_n (q := 71) rfl dX11_paper_70 rfl rfl ?_
          obtain ⟨b4, eb4, hf⟩ := bd_ex hf
          refine V.getR (q := 74) flX11_28 rfl eb4 dX11_paper_71 rfl ?_
          obtain ⟨b5, eb5, hf⟩ := bd_ex hf
          refine V.getR (q := 77) flX11_137 rfl eb5 dX11_paper_74 rfl ?_
          refine V.iload_n (q := 78) rfl dX11_paper_77 rfl rfl ?_
          obtain ⟨_, e6, hf⟩ := bd_ex hf
          obtain ⟨v7, h2, eh2, hf⟩ := bd2_ex hf
          refine V.callV (q := 81) (ci := 4) (vs := [.int x1]) (st := [.ref a0]) (S2 := [.int v7, .ref a0]) okX4_marksOf imX4_marksOf seX4_marksOf rfl lkX11_141 (tX4_marksOf eh2) rfl (ck_is e6) (by decide) rfl (Nat.le_of_ble_eq_true rfl) (Nat.le_of_ble_eq_true rfl) rfl dX11_paper_78 rfl rfl ?_
          obtain ⟨_, e8, hf⟩ := bd_ex hf
          obtain ⟨v9, h3, eh3, hf⟩ := bd2_ex hf
          refine V.callV (q := 84) (ci := 11) (vs := [.int v7]) (st := []) (S2 := [.int v9]) okX11_answer imX11_answer seX11_answer rfl lkX11_127 (tX11_answer eh3) rfl (ck_is e8) (by decide) rfl (Nat.le_of_ble_eq_true rfl) (Nat.le_of_ble_eq_true rfl) rfl dX11_paper_81 rfl rfl ?_
          obtain ⟨rfl, rfl⟩ := ret_inj hf
          exact V.ret (r := some (.int v9)) trivial dX11_paper_84
        rw [if_neg c1] at hf
        by_cases c2 : x2 = 2
        · rw [if_pos c2] at hf
          refine V.topI c2 ?_
          refine V.tableIn (q := 85) (off := 58) dX11_paper_27 (by decide) (by decide) (by decide) (by decide) ?_
          refine V.aload_n (q := 86) rfl dX11_paper_85 rfl rfl ?_
          refine V.aload_n (q := 87) rfl dX11_paper_86 rfl rfl ?_
          obtain ⟨b4, eb4, hf⟩ := bd_ex hf
          refine V.getR (q := 90) flX11_28 rfl eb4 dX11_paper_87 rfl ?_
          obtain ⟨b5, eb5, hf⟩ := bd_ex hf
          refine V.getR (q := 93) flX11_118 rfl eb5 dX11_paper_90 rfl ?_
          obtain ⟨b6, eb6, hf⟩ := bd_ex hf
          refine V.getR (q := 96) flX11_146 rfl eb6 dX11_paper_93 rfl ?_
          refine V.iload_n (q := 97) rfl dX11_paper_96 rfl rfl ?_
          obtain ⟨v7, ev7, hf⟩ := bd_ex hf
          refine V.iald (q := 98) ev7 dX11_paper_97 rfl ?_
          obtain ⟨_, e8, hf⟩ := bd_ex hf
          obtain ⟨v9, h2, eh2, hf⟩ := bd2_ex hf
          refine V.callV (q := 101) (ci := 11) (vs := [.int v7]) (st := []) (S2 := [.int v9]) okX11_answer imX11_answer seX11_answer rfl lkX11_127 (tX11_answer eh2) rfl (ck_is e8) (by decide) rfl (Nat.le_of_ble_eq_true rfl) (Nat.le_of_ble_eq_true rfl) rfl dX11_paper_98 rfl rfl ?_
          obtain ⟨rfl, rfl⟩ := ret_inj hf
          exact V.ret (r := some (.int v9)) trivial dX11_paper_101
        rw [if_neg c2] at hf
        have hout : x2.toInt < 0 ∨ 2 < x2.toInt := tsw_out (lo := 0) (n := 2) (fun k h1 h2 => by
          have : k = 0 ∨ k = 1 ∨ k = 2 := by omega
          rcases this with rfl | rfl | rfl
          · exact c0
          · exact c1
          · exact c2) (by decide)
        refine V.tableOut (q := 102) dX11_paper_27 hout (by decide) ?_
        refine V.aload_n (q := 103) rfl dX11_paper_102 rfl rfl ?_
        refine V.aload_n (q := 104) rfl dX11_paper_103 rfl rfl ?_
        obtain ⟨b4, eb4, hf⟩ := bd_ex hf
        refine V.getR (q := 107) flX11_28 rfl eb4 dX11_paper_104 rfl ?_
        obtain ⟨b5, eb5, hf⟩ := bd_ex hf
        refine V.getR (q := 110) flX11_137 rfl eb5 dX11_paper_107 rfl ?_
        refine V.iload_n (q := 111) rfl dX11_paper_110 rfl rfl ?_
        obtain ⟨_, e6, hf⟩ := bd_ex hf
        obtain ⟨v7, h2, eh2, hf⟩ := bd2_ex hf
        refine V.callV (q := 114) (ci := 4) (vs := [.int x1]) (st := [.ref a0]) (S2 := [.int v7, .ref a0]) okX4_latestOn imX4_latestOn seX4_latestOn rfl lkX11_149 (tX4_latestOn eh2) rfl (ck_is e6) (by decide) rfl (Nat.le_of_ble_eq_true rfl) (Nat.le_of_ble_eq_true rfl) rfl dX11_paper_111 rfl rfl ?_
        obtain ⟨_, e8, hf⟩ := bd_ex hf
        obtain ⟨v9, h3, eh3, hf⟩ := bd2_ex hf
        refine V.callV (q := 117) (ci := 11) (vs := [.int v7]) (st := []) (S2 := [.int v9]) okX11_answer imX11_answer seX11_answer rfl lkX11_127 (tX11_answer eh3) rfl (ck_is e8) (by decide) rfl (Nat.le_of_ble_eq_true rfl) (Nat.le_of_ble_eq_true rfl) rfl dX11_paper_114 rfl rfl ?_
        obtain ⟨rfl, rfl⟩ := ret_inj hf
        exact V.ret (r := some (.int v9)) trivial dX11_paper_117
      · rw [if_neg c] at hf
        refine V.aload_n (q := 21) rfl dX11_paper_20 rfl rfl ?_
        refine V.iconst (q := 22) (v := 1) (by decide) dX11_paper_21 rfl ?_
        obtain ⟨_, e4, hf⟩ := bd_ex hf
        obtain ⟨v5, h2, eh2, hf⟩ := bd2_ex hf
        refine V.callV (q := 25) (ci := 11) (vs := [.int 1]) (st := []) (S2 := [.int v5]) okX11_refuse imX11_refuse seX11_refuse rfl lkX11_101 (tX11_refuse eh2) rfl (ck_is e4) (by decide) rfl (Nat.le_of_ble_eq_true rfl) (Nat.le_of_ble_eq_true rfl) rfl dX11_paper_22 rfl rfl ?_
        obtain ⟨rfl, rfl⟩ := ret_inj hf
        exact V.ret (r := some (.int v5)) trivial dX11_paper_25
def fX4_pressOnce (h : MH) (a0 : Nat) (x1 : Int32) (x2 : Int32) (x3 : Int32) (x4 : Int32) : Option (MH) := bd (gR h a0 4 0) fun b1 => bd (tI h b1 (5 + x3) x4) fun h1 => bd (gR h1 a0 4 0) fun b2 => bd (lI h1 b2 (10 + x1)) fun v3 => bd (tI h1 b2 (10 + x1) (v3 - 1)) fun h2 => bd (gR h2 a0 4 0) fun b4 => bd (lI h2 b4 (14 + x1)) fun v5 => bd (tI h2 b4 (14 + x1) (v5 + 1)) fun h3 => bd (gR h3 a0 4 0) fun b6 => bd (lI h3 b6 (28 + x2)) fun v7 => bd (tI h3 b6 (28 + x2) (v7 + 1)) fun h4 => some h4
set_option maxRecDepth 20000 in
theorem tX4_pressOnce {h' : MH} {h : MH} {a0 : Nat} {x1 : Int32} {x2 : Int32} {x3 : Int32} {x4 : Int32} (hf : fX4_pressOnce h a0 x1 x2 x3 x4 = some h') : VM mX4_pressOnce 0 none h' h [.ref a0, .int x1, .int x2, .int x3, .int x4] := by
  show V TT mX4_pressOnce 0 _ h' h 0 [.ref a0, .int x1, .int x2, .int x3, .int x4] []
  unfold fX4_pressOnce at hf
  refine V.aload_n (q := 1) rfl dX4_pressOnce_0 rfl rfl ?_
  obtain ⟨b1, eb1, hf⟩ := bd_ex hf
  refine V.getR (q := 4) flX4_11 rfl eb1 dX4_pressOnce_1 rfl ?_
  refine V.iconst (q := 5) (v := 5) (by decide) dX4_pressOnce_4 rfl ?_
  refine V.iload_n (q := 6) rfl dX4_pressOnce_5 rfl rfl ?_
  refine V.iadd (q := 7) dX4_pressOnce_6 rfl ?_
  refine V.iload (q := 9) dX4_pressOnce_7 rfl rfl ?_
  obtain ⟨h1, eh1, hf⟩ := bd_ex hf
  refine V.iast (q := 10) eh1 dX4_pressOnce_9 rfl ?_
  refine V.aload_n (q := 11) rfl dX4_pressOnce_10 rfl rfl ?_
  obtain ⟨b2, eb2, hf⟩ := bd_ex hf
  refine V.getR (q := 14) flX4_11 rfl eb2 dX4_pressOnce_11 rfl ?_
  refine V.bipush (q := 16) (v := 10) (by decide) dX4_pressOnce_14 rfl ?_
  refine V.iload_n (q := 17) rfl dX4_pressOnce_16 rfl rfl ?_
  refine V.iadd (q := 18) dX4_pressOnce_17 rfl ?_
  refine V.dup2 (q := 19) dX4_pressOnce_18 rfl ?_
  obtain ⟨v3, ev3, hf⟩ := bd_ex hf
  refine V.iald (q := 20) ev3 dX4_pressOnce_19 rfl ?_
  refine V.iconst (q := 21) (v := 1) (by decide) dX4_pressOnce_20 rfl ?_
  refine V.isub (q := 22) dX4_pressOnce_21 rfl ?_
  obtain ⟨h2, eh2, hf⟩ := bd_ex hf
  refine V.iast (q := 23) eh2 dX4_pressOnce_22 rfl ?_
  refine V.aload_n (q := 24) rfl dX4_pressOnce_23 rfl rfl ?_
  obtain ⟨b4, eb4, hf⟩ := bd_ex hf
  refine V.getR (q := 27) flX4_11 rfl eb4 dX4_pressOnce_24 rfl ?_
  refine V.bipush (q := 29) (v := 14) (by decide) dX4_pressOnce_27 rfl ?_
  refine V.iload_n (q := 30) rfl dX4_pressOnce_29 rfl rfl ?_
  refine V.iadd (q := 31) dX4_pressOnce_30 rfl ?_
  refine V.dup2 (q := 32) dX4_pressOnce_31 rfl ?_
  obtain ⟨v5, ev5, hf⟩ := bd_ex hf
  refine V.iald (q := 33) ev5 dX4_pressOnce_32 rfl ?_
  refine V.iconst (q := 34) (v := 1) (by decide) dX4_pressOnce_33 rfl ?_
  refine V.iadd (q := 35) dX4_pressOnce_34 rfl ?_
  obtain ⟨h3, eh3, hf⟩ := bd_ex hf
  refine V.iast (q := 36) eh3 dX4_pressOnce_35 rfl ?_
  refine V.aload_n (q := 37) rfl dX4_pressOnce_36 rfl rfl ?_
  obtain ⟨b6, eb6, hf⟩ := bd_ex hf
  refine V.getR (q := 40) flX4_11 rfl eb6 dX4_pressOnce_37 rfl ?_
  refine V.bipush (q := 42) (v := 28) (by decide) dX4_pressOnce_40 rfl ?_
  refine V.iload_n (q := 43) rfl dX4_pressOnce_42 rfl rfl ?_
  refine V.iadd (q := 44) dX4_pressOnce_43 rfl ?_
  refine V.dup2 (q := 45) dX4_pressOnce_44 rfl ?_
  obtain ⟨v7, ev7, hf⟩ := bd_ex hf
  refine V.iald (q := 46) ev7 dX4_pressOnce_45 rfl ?_
  refine V.iconst (q := 47) (v := 1) (by decide) dX4_pressOnce_46 rfl ?_
  refine V.iadd (q := 48) dX4_pressOnce_47 rfl ?_
  obtain ⟨h4, eh4, hf⟩ := bd_ex hf
  refine V.iast (q := 49) eh4 dX4_pressOnce_48 rfl ?_
  cases hf
  exact V.ret (r := none) trivial dX4_pressOnce_49
def fX5_hasAll (h : MH) (a0 : Nat) (x1 : Int32) (x2 : Int32) (x3 : Int32) : Option (Int32 × MH) := bd (ck h a0 5) fun _ => bd2 (fX5_hasStamp h a0 x1) fun v2 h1 => if v2 = 0 then (some (0, h1)) else (bd (ck h1 a0 5) fun _ => bd2 (fX5_hasHand h1 a0 x2) fun v4 h2 => if v4 = 0 then (some (0, h2)) else (bd (ck h2 a0 5) fun _ => bd2 (fX5_hasPaper h2 a0 x3) fun v6 h3 => if v6 = 0 then (some (0, h3)) else (some (1, h3))))
set_option maxRecDepth 20000 in
theorem tX5_hasAll {r : Int32} {h' : MH} {h : MH} {a0 : Nat} {x1 : Int32} {x2 : Int32} {x3 : Int32} (hf : fX5_hasAll h a0 x1 x2 x3 = some (r, h')) : VM mX5_hasAll 1 (some (.int r)) h' h [.ref a0, .int x1, .int x2, .int x3] := by
  show V TT mX5_hasAll 1 _ h' h 0 [.ref a0, .int x1, .int x2, .int x3] []
  unfold fX5_hasAll at hf
  refine V.aload_n (q := 1) rfl dX5_hasAll_0 rfl rfl ?_
  refine V.iload_n (q := 2) rfl dX5_hasAll_1 rfl rfl ?_
  obtain ⟨_, e1, hf⟩ := bd_ex hf
  obtain ⟨v2, h1, eh1, hf⟩ := bd2_ex hf
  refine V.callV (q := 5) (ci := 5) (vs := [.int x1]) (st := []) (S2 := [.int v2]) okX5_hasStamp imX5_hasStamp seX5_hasStamp rfl lkX5_41 (tX5_hasStamp eh1) rfl (ck_is e1) (by decide) rfl (Nat.le_of_ble_eq_true rfl) (Nat.le_of_ble_eq_true rfl) rfl dX5_hasAll_2 rfl rfl ?_
  refine V.if_eq (q := 8) (tgt := 28) dX5_hasAll_5 rfl (by decide) (fun c => ?_) (fun c => ?_)
  · rw [if_pos c] at hf
    refine V.iconst (q := 29) (v := 0) (by decide) dX5_hasAll_28 rfl ?_
    obtain ⟨rfl, rfl⟩ := ret_inj hf
    exact V.ret (r := some (.int 0)) (Or.inl rfl) dX5_hasAll_29
  · rw [if_neg c] at hf
    refine V.aload_n (q := 9) rfl dX5_hasAll_8 rfl rfl ?_
    refine V.iload_n (q := 10) rfl dX5_hasAll_9 rfl rfl ?_
    obtain ⟨_, e3, hf⟩ := bd_ex hf
    obtain ⟨v4, h2, eh2, hf⟩ := bd2_ex hf
    refine V.callV (q := 13) (ci := 5) (vs := [.int x2]) (st := []) (S2 := [.int v4]) okX5_hasHand imX5_hasHand seX5_hasHand rfl lkX5_45 (tX5_hasHand eh2) rfl (ck_is e3) (by decide) rfl (Nat.le_of_ble_eq_true rfl) (Nat.le_of_ble_eq_true rfl) rfl dX5_hasAll_10 rfl rfl ?_
    refine V.if_eq (q := 16) (tgt := 28) dX5_hasAll_13 rfl (by decide) (fun c => ?_) (fun c => ?_)
    · rw [if_pos c] at hf
      refine V.iconst (q := 29) (v := 0) (by decide) dX5_hasAll_28 rfl ?_
      obtain ⟨rfl, rfl⟩ := ret_inj hf
      exact V.ret (r := some (.int 0)) (Or.inl rfl) dX5_hasAll_29
    · rw [if_neg c] at hf
      refine V.aload_n (q := 17) rfl dX5_hasAll_16 rfl rfl ?_
      refine V.iload_n (q := 18) rfl dX5_hasAll_17 rfl rfl ?_
      obtain ⟨_, e5, hf⟩ := bd_ex hf
      obtain ⟨v6, h3, eh3, hf⟩ := bd2_ex hf
      refine V.callV (q := 21) (ci := 5) (vs := [.int x3]) (st := []) (S2 := [.int v6]) okX5_hasPaper imX5_hasPaper seX5_hasPaper rfl lkX5_48 (tX5_hasPaper eh3) rfl (ck_is e5) (by decide) rfl (Nat.le_of_ble_eq_true rfl) (Nat.le_of_ble_eq_true rfl) rfl dX5_hasAll_18 rfl rfl ?_
      refine V.if_eq (q := 24) (tgt := 28) dX5_hasAll_21 rfl (by decide) (fun c => ?_) (fun c => ?_)
      · rw [if_pos c] at hf
        refine V.iconst (q := 29) (v := 0) (by decide) dX5_hasAll_28 rfl ?_
        obtain ⟨rfl, rfl⟩ := ret_inj hf
        exact V.ret (r := some (.int 0)) (Or.inl rfl) dX5_hasAll_29
      · rw [if_neg c] at hf
        refine V.iconst (q := 25) (v := 1) (by decide) dX5_hasAll_24 rfl ?_
        refine V.goto (q := 29) dX5_hasAll_25 (by decide) ?_
        obtain ⟨rfl, rfl⟩ := ret_inj hf
        exact V.ret (r := some (.int 1)) (Or.inr rfl) dX5_hasAll_29
def fX11_press (h : MH) (a0 : Nat) (x1 : Int32) (x2 : Int32) (x3 : Int32) : Option (Int32 × MH) := bd (gR h a0 11 2) fun b1 => bd (ck h b1 5) fun _ => bd2 (fX5_hasAll h b1 x1 x2 x3) fun v3 h1 => if v3 = 0 then (bd (ck h1 a0 11) fun _ => bd2 (fX11_refuse h1 a0 1) fun v5 h2 => some (v5, h2)) else (bd (gR h1 a0 11 2) fun b4 => bd (gR h1 b4 5 0) fun b5 => bd (ck h1 b5 4) fun _ => bd2 (fX4_inkOf h1 b5 x1) fun v7 h2 => if 0 < v7 then (bd (gR h2 a0 11 2) fun b8 => bd (gR h2 a0 11 2) fun b9 => bd (ck h2 b9 5) fun _ => bd2 (fX5_sayOn h2 b9 x1 x3) fun v11 h3 => bd (ck h3 b8 5) fun _ => bd2 (fX5_printBy h3 b8 x2 v11) fun v13 h4 => bd (gR h4 a0 11 3) fun b14 => bd (gR h4 a0 11 2) fun b15 => bd (gR h4 b15 5 0) fun b16 => bd (ck h4 b14 6) fun _ => bd (fX6_remember h4 b14 b16) fun h5 => bd (gR h5 a0 11 2) fun b18 => bd (gR h5 b18 5 0) fun b19 => bd (ck h5 b19 4) fun _ => bd (fX4_pressOnce h5 b19 x1 x2 x3 v13) fun h6 => bd (ck h6 a0 11) fun _ => bd2 (fX11_answer h6 a0 v13) fun v22 h7 => some (v22, h7)) else (bd (ck h2 a0 11) fun _ => bd2 (fX11_refuse h2 a0 6) fun v9 h3 => some (v9, h3)))
set_option maxRecDepth 20000 in
theorem tX11_press {r : Int32} {h' : MH} {h : MH} {a0 : Nat} {x1 : Int32} {x2 : Int32} {x3 : Int32} (hf : fX11_press h a0 x1 x2 x3 = some (r, h')) : VM mX11_press 3 (some (.int r)) h' h [.ref a0, .int x1, .int x2, .int x3] := by
  show V TT mX11_press 3 _ h' h 0 [.ref a0, .int x1, .int x2, .int x3, Jk] []
  unfold fX11_press at hf
  refine V.aload_n (q := 1) rfl dX11_press_0 rfl rfl ?_
  obtain ⟨b1, eb1, hf⟩ := bd_ex hf
  refine V.getR (q := 4) flX11_28 rfl eb1 dX11_press_1 rfl ?_
  refine V.iload_n (q := 5) rfl dX11_press_4 rfl rfl ?_
  refine V.iload_n (q := 6) rfl dX11_press_5 rfl rfl ?_
  refine V.iload_n (q := 7) rfl dX11_press_6 rfl rfl ?_
  obtain ⟨_, e2, hf⟩ := bd_ex hf
  obtain ⟨v3, h1, eh1, hf⟩ := bd2_ex hf
  refine V.callV (q := 10) (ci := 5) (vs := [.int x1, .int x2, .int x3]) (st := []) (S2 := [.int v3]) okX5_hasAll imX5_hasAll seX5_hasAll rfl lkX11_211 (tX5_hasAll eh1) rfl (ck_is e2) (by decide) rfl (Nat.le_of_ble_eq_true rfl) (Nat.le_of_ble_eq_true rfl) rfl dX11_press_7 rfl rfl ?_
  refine V.if_ne (q := 13) (tgt := 19) dX11_press_10 rfl (by decide) (fun c => ?_) (fun c => ?_)
  · rw [if_neg c] at hf
    refine V.aload_n (q := 20) rfl dX11_press_19 rfl rfl ?_
    obtain ⟨b4, eb4, hf⟩ := bd_ex hf
    refine V.getR (q := 23) flX11_28 rfl eb4 dX11_press_20 rfl ?_
    obtain ⟨b5, eb5, hf⟩ := bd_ex hf
    refine V.getR (q := 26) flX11_137 rfl eb5 dX11_press_23 rfl ?_
    refine V.iload_n (q := 27) rfl dX11_press_26 rfl rfl ?_
    obtain ⟨_, e6, hf⟩ := bd_ex hf
    obtain ⟨v7, h2, eh2, hf⟩ := bd2_ex hf
    refine V.callV (q := 30) (ci := 4) (vs := [.int x1]) (st := []) (S2 := [.int v7]) okX4_inkOf imX4_inkOf seX4_inkOf rfl lkX11_155 (tX4_inkOf eh2) rfl (ck_is e6) (by decide) rfl (Nat.le_of_ble_eq_true rfl) (Nat.le_of_ble_eq_true rfl) rfl dX11_press_27 rfl rfl ?_
    refine V.if_gt (q := 33) (tgt := 40) dX11_press_30 rfl (by decide) (fun c => ?_) (fun c => ?_)
    · rw [if_pos c] at hf
      refine V.aload_n (q := 41) rfl dX11_press_40 rfl rfl ?_
      obtain ⟨b8, eb8, hf⟩ := bd_ex hf
      refine V.getR (q := 44) flX11_28 rfl eb8 dX11_press_41 rfl ?_
      refine V.iload_n (q := 45) rfl dX11_press_44 rfl rfl ?_
      refine V.aload_n (q := 46) rfl dX11_press_45 rfl rfl ?_
      obtain ⟨b9, eb9, hf⟩ := bd_ex hf
      refine V.getR (q := 49) flX11_28 rfl eb9 dX11_press_46 rfl ?_
      refine V.iload_n (q := 50) rfl dX11_press_49 rfl rfl ?_
      refine V.iload_n (q := 51) rfl dX11_press_50 rfl rfl ?_
      obtain ⟨_, e10, hf⟩ := bd_ex hf
      obtain ⟨v11, h3, eh3, hf⟩ := bd2_ex hf
      refine V.callV (q := 54) (ci := 5) (vs := [.int x1, .int x3]) (st := [.int x2, .ref b8]) (S2 := [.int v11, .int x2, .ref b8]) okX5_sayOn imX5_sayOn seX5_sayOn rfl lkX11_197 (tX5_sayOn eh3) rfl (ck_is e10) (by decide) rfl (Nat.le_of_ble_eq_true rfl) (Nat.le_of_ble_eq_true rfl) rfl dX11_press_51 rfl rfl ?_
      obtain ⟨_, e12, hf⟩ := bd_ex hf
      obtain ⟨v13, h4, eh4, hf⟩ := bd2_ex hf
      refine V.callV (q := 57) (ci := 5) (vs := [.int x2, .int v11]) (st := []) (S2 := [.int v13]) okX5_printBy imX5_printBy seX5_printBy rfl lkX11_215 (tX5_printBy eh4) rfl (ck_is e12) (by decide) rfl (Nat.le_of_ble_eq_true rfl) (Nat.le_of_ble_eq_true rfl) rfl dX11_press_54 rfl rfl ?_
      refine V.istore (q := 59) (L' := [.ref a0, .int x1, .int x2, .int x3, .int v13]) dX11_press_57 rfl (by decide) rfl rfl ?_
      refine V.aload_n (q := 60) rfl dX11_press_59 rfl rfl ?_
      obtain ⟨b14, eb14, hf⟩ := bd_ex hf
      refine V.getR (q := 63) flX11_35 rfl eb14 dX11_press_60 rfl ?_
      refine V.aload_n (q := 64) rfl dX11_press_63 rfl rfl ?_
      obtain ⟨b15, eb15, hf⟩ := bd_ex hf
      refine V.getR (q := 67) flX11_28 rfl eb15 dX11_press_64 rfl ?_
      obtain ⟨b16, eb16, hf⟩ := bd_ex hf
      refine V.getR (q := 70) flX11_137 rfl eb16 dX11_press_67 rfl ?_
      obtain ⟨_, e17, hf⟩ := bd_ex hf
      obtain ⟨h5, eh5, hf⟩ := bd_ex hf
      refine V.callV (q := 73) (ci := 6) (vs := [.ref b16]) (st := []) (S2 := []) okX6_remember imX6_remember seX6_remember rfl lkX11_339 (tX6_remember eh5) rfl (ck_is e17) (by decide) rfl (Nat.le_of_ble_eq_true rfl) (Nat.le_of_ble_eq_true rfl) rfl dX11_press_70 rfl rfl ?_
      refine V.aload_n (q := 74) rfl dX11_press_73 rfl rfl ?_
      obtain ⟨b18, eb18, hf⟩ := bd_ex hf
      refine V.getR (q := 77) flX11_28 rfl eb18 dX11_press_74 rfl ?_
      obtain ⟨b19, eb19, hf⟩ := bd_ex hf
      refine V.getR (q := 80) flX11_137 rfl eb19 dX11_press_77 rfl ?_
      refine V.iload_n (q := 81) rfl dX11_press_80 rfl rfl ?_
      refine V.iload_n (q := 82) rfl dX11_press_81 rfl rfl ?_
      refine V.iload_n (q := 83) rfl dX11_press_82 rfl rfl ?_
      refine V.iload (q := 85) dX11_press_83 rfl rfl ?_
      obtain ⟨_, e20, hf⟩ := bd_ex hf
      obtain ⟨h6, eh6, hf⟩ := bd_ex hf
      refine V.callV (q := 88) (ci := 4) (vs := [.int x1, .int x2, .int x3, .int v13]) (st := []) (S2 := []) okX4_pressOnce imX4_pressOnce seX4_pressOnce rfl lkX11_343 (tX4_pressOnce eh6) rfl (ck_is e20) (by decide) rfl (Nat.le_of_ble_eq_true rfl) (Nat.le_of_ble_eq_true rfl) rfl dX11_press_85 rfl rfl ?_
      refine V.aload_n (q := 89) rfl dX11_press_88 rfl rfl ?_
      refine V.iload (q := 91) dX11_press_89 rfl rfl ?_
      obtain ⟨_, e21, hf⟩ := bd_ex hf
      obtain ⟨v22, h7, eh7, hf⟩ := bd2_ex hf
      refine V.callV (q := 94) (ci := 11) (vs := [.int v13]) (st := []) (S2 := [.int v22]) okX11_answer imX11_answer seX11_answer rfl lkX11_127 (tX11_answer eh7) rfl (ck_is e21) (by decide) rfl (Nat.le_of_ble_eq_true rfl) (Nat.le_of_ble_eq_true rfl) rfl dX11_press_91 rfl rfl ?_
      obtain ⟨rfl, rfl⟩ := ret_inj hf
      exact V.ret (r := some (.int v22)) trivial dX11_press_94
    · rw [if_neg c] at hf
      refine V.aload_n (q := 34) rfl dX11_press_33 rfl rfl ?_
      refine V.bipush (q := 36) (v := 6) (by decide) dX11_press_34 rfl ?_
      obtain ⟨_, e8, hf⟩ := bd_ex hf
      obtain ⟨v9, h3, eh3, hf⟩ := bd2_ex hf
      refine V.callV (q := 39) (ci := 11) (vs := [.int 6]) (st := []) (S2 := [.int v9]) okX11_refuse imX11_refuse seX11_refuse rfl lkX11_101 (tX11_refuse eh3) rfl (ck_is e8) (by decide) rfl (Nat.le_of_ble_eq_true rfl) (Nat.le_of_ble_eq_true rfl) rfl dX11_press_36 rfl rfl ?_
      obtain ⟨rfl, rfl⟩ := ret_inj hf
      exact V.ret (r := some (.int v9)) trivial dX11_press_39
  · rw [if_pos c] at hf
    refine V.aload_n (q := 14) rfl dX11_press_13 rfl rfl ?_
    refine V.iconst (q := 15) (v := 1) (by decide) dX11_press_14 rfl ?_
    obtain ⟨_, e4, hf⟩ := bd_ex hf
    obtain ⟨v5, h2, eh2, hf⟩ := bd2_ex hf
    refine V.callV (q := 18) (ci := 11) (vs := [.int 1]) (st := []) (S2 := [.int v5]) okX11_refuse imX11_refuse seX11_refuse rfl lkX11_101 (tX11_refuse eh2) rfl (ck_is e4) (by decide) rfl (Nat.le_of_ble_eq_true rfl) (Nat.le_of_ble_eq_true rfl) rfl dX11_press_15 rfl rfl ?_
    obtain ⟨rfl, rfl⟩ := ret_inj hf
    exact V.ret (r := some (.int v5)) trivial dX11_press_18
def fX11_presses (h : MH) (a0 : Nat) (x1 : Int32) (x2 : Int32) (x3 : Int32) : Option (Int32 × MH) := bd2 (fX11_isVerdict h x1) fun v1 h1 => bd (ck h1 a0 11) fun _ => bd2 (fX11_troubleOfDraws h1 a0 v1 x2 x3) fun v3 h2 => if v3 = 0 then (bd (gR h2 a0 11 8) fun b4 => bd (ck h2 b4 1) fun _ => bd (fX1_run h2 b4 x2 x3) fun h3 => bd (gR h3 a0 11 8) fun b6 => bd (gR h3 b6 1 1) fun b7 => bd (lI h3 b7 x1) fun v8 => bd (ck h3 a0 11) fun _ => bd2 (fX11_answer h3 a0 v8) fun v10 h4 => some (v10, h4)) else (bd (ck h2 a0 11) fun _ => bd2 (fX11_refuse h2 a0 v3) fun v5 h3 => some (v5, h3))
set_option maxRecDepth 20000 in
theorem tX11_presses {r : Int32} {h' : MH} {h : MH} {a0 : Nat} {x1 : Int32} {x2 : Int32} {x3 : Int32} (hf : fX11_presses h a0 x1 x2 x3 = some (r, h')) : VM mX11_presses 5 (some (.int r)) h' h [.ref a0, .int x1, .int x2, .int x3] := by
  show V TT mX11_presses 5 _ h' h 0 [.ref a0, .int x1, .int x2, .int x3, Jk] []
  unfold fX11_presses at hf
  refine V.aload_n (q := 1) rfl dX11_presses_0 rfl rfl ?_
  refine V.iload_n (q := 2) rfl dX11_presses_1 rfl rfl ?_
  obtain ⟨v1, h1, eh1, hf⟩ := bd2_ex hf
  refine V.callS (q := 5) (vs := [.int x1]) (st := [.ref a0]) (S2 := [.int v1, .ref a0]) okX11_isVerdict stX11_isVerdict lkX11_218 (tX11_isVerdict eh1) rfl (by decide) rfl (Nat.le_of_ble_eq_true rfl) (Nat.le_of_ble_eq_true rfl) rfl dX11_presses_2 rfl rfl ?_
  refine V.iload_n (q := 6) rfl dX11_presses_5 rfl rfl ?_
  refine V.iload_n (q := 7) rfl dX11_presses_6 rfl rfl ?_
  obtain ⟨_, e2, hf⟩ := bd_ex hf
  obtain ⟨v3, h2, eh2, hf⟩ := bd2_ex hf
  refine V.callV (q := 10) (ci := 11) (vs := [.int v1, .int x2, .int x3]) (st := []) (S2 := [.int v3]) okX11_troubleOfDraws imX11_troubleOfDraws seX11_troubleOfDraws rfl lkX11_322 (tX11_troubleOfDraws eh2) rfl (ck_is e2) (by decide) rfl (Nat.le_of_ble_eq_true rfl) (Nat.le_of_ble_eq_true rfl) rfl dX11_presses_7 rfl rfl ?_
  refine V.istore (q := 12) (L' := [.ref a0, .int x1, .int x2, .int x3, .int v3]) dX11_presses_10 rfl (by decide) rfl rfl ?_
  refine V.iload (q := 14) dX11_presses_12 rfl rfl ?_
  refine V.if_eq (q := 17) (tgt := 24) dX11_presses_14 rfl (by decide) (fun c => ?_) (fun c => ?_)
  · rw [if_pos c] at hf
    refine V.aload_n (q := 25) rfl dX11_presses_24 rfl rfl ?_
    obtain ⟨b4, eb4, hf⟩ := bd_ex hf
    refine V.getR (q := 28) flX11_72 rfl eb4 dX11_presses_25 rfl ?_
    refine V.iload_n (q := 29) rfl dX11_presses_28 rfl rfl ?_
    refine V.iload_n (q := 30) rfl dX11_presses_29 rfl rfl ?_
    obtain ⟨_, e5, hf⟩ := bd_ex hf
    obtain ⟨h3, eh3, hf⟩ := bd_ex hf
    refine V.callV (q := 33) (ci := 1) (vs := [.int x2, .int x3]) (st := []) (S2 := []) okX1_run imX1_run seX1_run rfl lkX11_326 (tX1_run eh3) rfl (ck_is e5) (by decide) rfl (Nat.le_of_ble_eq_true rfl) (Nat.le_of_ble_eq_true rfl) rfl dX11_presses_30 rfl rfl ?_
    refine V.aload_n (q := 34) rfl dX11_presses_33 rfl rfl ?_
    refine V.aload_n (q := 35) rfl dX11_presses_34 rfl rfl ?_
    obtain ⟨b6, eb6, hf⟩ := bd_ex hf
    refine V.getR (q := 38) flX11_72 rfl eb6 dX11_presses_35 rfl ?_
    obtain ⟨b7, eb7, hf⟩ := bd_ex hf
    refine V.getR (q := 41) flX11_330 rfl eb7 dX11_presses_38 rfl ?_
    refine V.iload_n (q := 42) rfl dX11_presses_41 rfl rfl ?_
    obtain ⟨v8, ev8, hf⟩ := bd_ex hf
    refine V.iald (q := 43) ev8 dX11_presses_42 rfl ?_
    obtain ⟨_, e9, hf⟩ := bd_ex hf
    obtain ⟨v10, h4, eh4, hf⟩ := bd2_ex hf
    refine V.callV (q := 46) (ci := 11) (vs := [.int v8]) (st := []) (S2 := [.int v10]) okX11_answer imX11_answer seX11_answer rfl lkX11_127 (tX11_answer eh4) rfl (ck_is e9) (by decide) rfl (Nat.le_of_ble_eq_true rfl) (Nat.le_of_ble_eq_true rfl) rfl dX11_presses_43 rfl rfl ?_
    obtain ⟨rfl, rfl⟩ := ret_inj hf
    exact V.ret (r := some (.int v10)) trivial dX11_presses_46
  · rw [if_neg c] at hf
    refine V.aload_n (q := 18) rfl dX11_presses_17 rfl rfl ?_
    refine V.iload (q := 20) dX11_presses_18 rfl rfl ?_
    obtain ⟨_, e4, hf⟩ := bd_ex hf
    obtain ⟨v5, h3, eh3, hf⟩ := bd2_ex hf
    refine V.callV (q := 23) (ci := 11) (vs := [.int v3]) (st := []) (S2 := [.int v5]) okX11_refuse imX11_refuse seX11_refuse rfl lkX11_101 (tX11_refuse eh3) rfl (ck_is e4) (by decide) rfl (Nat.le_of_ble_eq_true rfl) (Nat.le_of_ble_eq_true rfl) rfl dX11_presses_20 rfl rfl ?_
    obtain ⟨rfl, rfl⟩ := ret_inj hf
    exact V.ret (r := some (.int v5)) trivial dX11_presses_23
def fX11_printed (h : MH) (a0 : Nat) (x1 : Int32) (x2 : Int32) (x3 : Int32) : Option (Int32 × MH) := bd (gR h a0 11 2) fun b1 => bd (ck h b1 5) fun _ => bd2 (fX5_hasPaper h b1 x1) fun v3 h1 => if v3 = 0 then (bd (ck h1 a0 11) fun _ => bd2 (fX11_refuse h1 a0 1) fun v5 h2 => some (v5, h2)) else (bd (ck h1 a0 11) fun _ => bd2 (fX11_troubleOfDraws h1 a0 1 x2 x3) fun v5 h2 => if v5 = 0 then (bd (gR h2 a0 11 8) fun b6 => bd (ck h2 b6 1) fun _ => bd (fX1_run h2 b6 x2 x3) fun h3 => bd (gR h3 a0 11 8) fun b8 => bd (gR h3 b8 1 2) fun b9 => bd (lI h3 b9 x1) fun v10 => bd (ck h3 a0 11) fun _ => bd2 (fX11_answer h3 a0 v10) fun v12 h4 => some (v12, h4)) else (bd (ck h2 a0 11) fun _ => bd2 (fX11_refuse h2 a0 v5) fun v7 h3 => some (v7, h3)))
set_option maxRecDepth 20000 in
theorem tX11_printed {r : Int32} {h' : MH} {h : MH} {a0 : Nat} {x1 : Int32} {x2 : Int32} {x3 : Int32} (hf : fX11_printed h a0 x1 x2 x3 = some (r, h')) : VM mX11_printed 5 (some (.int r)) h' h [.ref a0, .int x1, .int x2, .int x3] := by
  show V TT mX11_printed 5 _ h' h 0 [.ref a0, .int x1, .int x2, .int x3, Jk] []
  unfold fX11_printed at hf
  refine V.aload_n (q := 1) rfl dX11_printed_0 rfl rfl ?_
  obtain ⟨b1, eb1, hf⟩ := bd_ex hf
  refine V.getR (q := 4) flX11_28 rfl eb1 dX11_printed_1 rfl ?_
  refine V.iload_n (q := 5) rfl dX11_printed_4 rfl rfl ?_
  obtain ⟨_, e2, hf⟩ := bd_ex hf
  obtain ⟨v3, h1, eh1, hf⟩ := bd2_ex hf
  refine V.callV (q := 8) (ci := 5) (vs := [.int x1]) (st := []) (S2 := [.int v3]) okX5_hasPaper imX5_hasPaper seX5_hasPaper rfl lkX11_130 (tX5_hasPaper eh1) rfl (ck_is e2) (by decide) rfl (Nat.le_of_ble_eq_true rfl) (Nat.le_of_ble_eq_true rfl) rfl dX11_printed_5 rfl rfl ?_
  refine V.if_ne (q := 11) (tgt := 17) dX11_printed_8 rfl (by decide) (fun c => ?_) (fun c => ?_)
  · rw [if_neg c] at hf
    refine V.aload_n (q := 18) rfl dX11_printed_17 rfl rfl ?_
    refine V.iconst (q := 19) (v := 1) (by decide) dX11_printed_18 rfl ?_
    refine V.iload_n (q := 20) rfl dX11_printed_19 rfl rfl ?_
    refine V.iload_n (q := 21) rfl dX11_printed_20 rfl rfl ?_
    obtain ⟨_, e4, hf⟩ := bd_ex hf
    obtain ⟨v5, h2, eh2, hf⟩ := bd2_ex hf
    refine V.callV (q := 24) (ci := 11) (vs := [.int 1, .int x2, .int x3]) (st := []) (S2 := [.int v5]) okX11_troubleOfDraws imX11_troubleOfDraws seX11_troubleOfDraws rfl lkX11_322 (tX11_troubleOfDraws eh2) rfl (ck_is e4) (by decide) rfl (Nat.le_of_ble_eq_true rfl) (Nat.le_of_ble_eq_true rfl) rfl dX11_printed_21 rfl rfl ?_
    refine V.istore (q := 26) (L' := [.ref a0, .int x1, .int x2, .int x3, .int v5]) dX11_printed_24 rfl (by decide) rfl rfl ?_
    refine V.iload (q := 28) dX11_printed_26 rfl rfl ?_
    refine V.if_eq (q := 31) (tgt := 38) dX11_printed_28 rfl (by decide) (fun c => ?_) (fun c => ?_)
    · rw [if_pos c] at hf
      refine V.aload_n (q := 39) rfl dX11_printed_38 rfl rfl ?_
      obtain ⟨b6, eb6, hf⟩ := bd_ex hf
      refine V.getR (q := 42) flX11_72 rfl eb6 dX11_printed_39 rfl ?_
      refine V.iload_n (q := 43) rfl dX11_printed_42 rfl rfl ?_
      refine V.iload_n (q := 44) rfl dX11_printed_43 rfl rfl ?_
      obtain ⟨_, e7, hf⟩ := bd_ex hf
      obtain ⟨h3, eh3, hf⟩ := bd_ex hf
      refine V.callV (q := 47) (ci := 1) (vs := [.int x2, .int x3]) (st := []) (S2 := []) okX1_run imX1_run seX1_run rfl lkX11_326 (tX1_run eh3) rfl (ck_is e7) (by decide) rfl (Nat.le_of_ble_eq_true rfl) (Nat.le_of_ble_eq_true rfl) rfl dX11_printed_44 rfl rfl ?_
      refine V.aload_n (q := 48) rfl dX11_printed_47 rfl rfl ?_
      refine V.aload_n (q := 49) rfl dX11_printed_48 rfl rfl ?_
      obtain ⟨b8, eb8, hf⟩ := bd_ex hf
      refine V.getR (q := 52) flX11_72 rfl eb8 dX11_printed_49 rfl ?_
      obtain ⟨b9, eb9, hf⟩ := bd_ex hf
      refine V.getR (q := 55) flX11_336 rfl eb9 dX11_printed_52 rfl ?_
      refine V.iload_n (q := 56) rfl dX11_printed_55 rfl rfl ?_
      obtain ⟨v10, ev10, hf⟩ := bd_ex hf
      refine V.iald (q := 57) ev10 dX11_printed_56 rfl ?_
      obtain ⟨_, e11, hf⟩ := bd_ex hf
      obtain ⟨v12, h4, eh4, hf⟩ := bd2_ex hf
      refine V.callV (q := 60) (ci := 11) (vs := [.int v10]) (st := []) (S2 := [.int v12]) okX11_answer imX11_answer seX11_answer rfl lkX11_127 (tX11_answer eh4) rfl (ck_is e11) (by decide) rfl (Nat.le_of_ble_eq_true rfl) (Nat.le_of_ble_eq_true rfl) rfl dX11_printed_57 rfl rfl ?_
      obtain ⟨rfl, rfl⟩ := ret_inj hf
      exact V.ret (r := some (.int v12)) trivial dX11_printed_60
    · rw [if_neg c] at hf
      refine V.aload_n (q := 32) rfl dX11_printed_31 rfl rfl ?_
      refine V.iload (q := 34) dX11_printed_32 rfl rfl ?_
      obtain ⟨_, e6, hf⟩ := bd_ex hf
      obtain ⟨v7, h3, eh3, hf⟩ := bd2_ex hf
      refine V.callV (q := 37) (ci := 11) (vs := [.int v5]) (st := []) (S2 := [.int v7]) okX11_refuse imX11_refuse seX11_refuse rfl lkX11_101 (tX11_refuse eh3) rfl (ck_is e6) (by decide) rfl (Nat.le_of_ble_eq_true rfl) (Nat.le_of_ble_eq_true rfl) rfl dX11_printed_34 rfl rfl ?_
      obtain ⟨rfl, rfl⟩ := ret_inj hf
      exact V.ret (r := some (.int v7)) trivial dX11_printed_37
  · rw [if_pos c] at hf
    refine V.aload_n (q := 12) rfl dX11_printed_11 rfl rfl ?_
    refine V.iconst (q := 13) (v := 1) (by decide) dX11_printed_12 rfl ?_
    obtain ⟨_, e4, hf⟩ := bd_ex hf
    obtain ⟨v5, h2, eh2, hf⟩ := bd2_ex hf
    refine V.callV (q := 16) (ci := 11) (vs := [.int 1]) (st := []) (S2 := [.int v5]) okX11_refuse imX11_refuse seX11_refuse rfl lkX11_101 (tX11_refuse eh2) rfl (ck_is e4) (by decide) rfl (Nat.le_of_ble_eq_true rfl) (Nat.le_of_ble_eq_true rfl) rfl dX11_printed_13 rfl rfl ?_
    obtain ⟨rfl, rfl⟩ := ret_inj hf
    exact V.ret (r := some (.int v5)) trivial dX11_printed_16
def fX11_prints (h : MH) (a0 : Nat) (x1 : Int32) (x2 : Int32) (x3 : Int32) : Option (Int32 × MH) := bd (gR h a0 11 2) fun b1 => bd (ck h b1 5) fun _ => bd2 (fX5_hasAll h b1 x1 x2 x3) fun v3 h1 => if v3 = 0 then (bd (ck h1 a0 11) fun _ => bd2 (fX11_refuse h1 a0 1) fun v5 h2 => some (v5, h2)) else (bd (gR h1 a0 11 2) fun b4 => bd (gR h1 a0 11 2) fun b5 => bd (ck h1 b5 5) fun _ => bd2 (fX5_sayOn h1 b5 x1 x3) fun v7 h2 => bd (ck h2 b4 5) fun _ => bd2 (fX5_printBy h2 b4 x2 v7) fun v9 h3 => bd (ck h3 a0 11) fun _ => bd2 (fX11_answer h3 a0 v9) fun v11 h4 => some (v11, h4))
set_option maxRecDepth 20000 in
theorem tX11_prints {r : Int32} {h' : MH} {h : MH} {a0 : Nat} {x1 : Int32} {x2 : Int32} {x3 : Int32} (hf : fX11_prints h a0 x1 x2 x3 = some (r, h')) : VM mX11_prints 3 (some (.int r)) h' h [.ref a0, .int x1, .int x2, .int x3] := by
  show V TT mX11_prints 3 _ h' h 0 [.ref a0, .int x1, .int x2, .int x3] []
  unfold fX11_prints at hf
  refine V.aload_n (q := 1) rfl dX11_prints_0 rfl rfl ?_
  obtain ⟨b1, eb1, hf⟩ := bd_ex hf
  refine V.getR (q := 4) flX11_28 rfl eb1 dX11_prints_1 rfl ?_
  refine V.iload_n (q := 5) rfl dX11_prints_4 rfl rfl ?_
  refine V.iload_n (q := 6) rfl dX11_prints_5 rfl rfl ?_
  refine V.iload_n (q := 7) rfl dX11_prints_6 rfl rfl ?_
  obtain ⟨_, e2, hf⟩ := bd_ex hf
  obtain ⟨v3, h1, eh1, hf⟩ := bd2_ex hf
  refine V.callV (q := 10) (ci := 5) (vs := [.int x1, .int x2, .int x3]) (st := []) (S2 := [.int v3]) okX5_hasAll imX5_hasAll seX5_hasAll rfl lkX11_211 (tX5_hasAll eh1) rfl (ck_is e2) (by decide) rfl (Nat.le_of_ble_eq_true rfl) (Nat.le_of_ble_eq_true rfl) rfl dX11_prints_7 rfl rfl ?_
  refine V.if_ne (q := 13) (tgt := 19) dX11_prints_10 rfl (by decide) (fun c => ?_) (fun c => ?_)
  · rw [if_neg c] at hf
    refine V.aload_n (q := 20) rfl dX11_prints_19 rfl rfl ?_
    refine V.aload_n (q := 21) rfl dX11_prints_20 rfl rfl ?_
    obtain ⟨b4, eb4, hf⟩ := bd_ex hf
    refine V.getR (q := 24) flX11_28 rfl eb4 dX11_prints_21 rfl ?_
    refine V.iload_n (q := 25) rfl dX11_prints_24 rfl rfl ?_
    refine V.aload_n (q := 26) rfl dX11_prints_25 rfl rfl ?_
    obtain ⟨b5, eb5, hf⟩ := bd_ex hf
    refine V.getR (q := 29) flX11_28 rfl eb5 dX11_prints_26 rfl ?_
    refine V.iload_n (q := 30) rfl dX11_prints_29 rfl rfl ?_
    refine V.iload_n (q := 31) rfl dX11_prints_30 rfl rfl ?_
    obtain ⟨_, e6, hf⟩ := bd_ex hf
    obtain ⟨v7, h2, eh2, hf⟩ := bd2_ex hf
    refine V.callV (q := 34) (ci := 5) (vs := [.int x1, .int x3]) (st := [.int x2, .ref b4, .ref a0]) (S2 := [.int v7, .int x2, .ref b4, .ref a0]) okX5_sayOn imX5_sayOn seX5_sayOn rfl lkX11_197 (tX5_sayOn eh2) rfl (ck_is e6) (by decide) rfl (Nat.le_of_ble_eq_true rfl) (Nat.le_of_ble_eq_true rfl) rfl dX11_prints_31 rfl rfl ?_
    obtain ⟨_, e8, hf⟩ := bd_ex hf
    obtain ⟨v9, h3, eh3, hf⟩ := bd2_ex hf
    refine V.callV (q := 37) (ci := 5) (vs := [.int x2, .int v7]) (st := [.ref a0]) (S2 := [.int v9, .ref a0]) okX5_printBy imX5_printBy seX5_printBy rfl lkX11_215 (tX5_printBy eh3) rfl (ck_is e8) (by decide) rfl (Nat.le_of_ble_eq_true rfl) (Nat.le_of_ble_eq_true rfl) rfl dX11_prints_34 rfl rfl ?_
    obtain ⟨_, e10, hf⟩ := bd_ex hf
    obtain ⟨v11, h4, eh4, hf⟩ := bd2_ex hf
    refine V.callV (q := 40) (ci := 11) (vs := [.int v9]) (st := []) (S2 := [.int v11]) okX11_answer imX11_answer seX11_answer rfl lkX11_127 (tX11_answer eh4) rfl (ck_is e10) (by decide) rfl (Nat.le_of_ble_eq_true rfl) (Nat.le_of_ble_eq_true rfl) rfl dX11_prints_37 rfl rfl ?_
    obtain ⟨rfl, rfl⟩ := ret_inj hf
    exact V.ret (r := some (.int v11)) trivial dX11_prints_40
  · rw [if_pos c] at hf
    refine V.aload_n (q := 14) rfl dX11_prints_13 rfl rfl ?_
    refine V.iconst (q := 15) (v := 1) (by decide) dX11_prints_14 rfl ?_
    obtain ⟨_, e4, hf⟩ := bd_ex hf
    obtain ⟨v5, h2, eh2, hf⟩ := bd2_ex hf
    refine V.callV (q := 18) (ci := 11) (vs := [.int 1]) (st := []) (S2 := [.int v5]) okX11_refuse imX11_refuse seX11_refuse rfl lkX11_101 (tX11_refuse eh2) rfl (ck_is e4) (by decide) rfl (Nat.le_of_ble_eq_true rfl) (Nat.le_of_ble_eq_true rfl) rfl dX11_prints_15 rfl rfl ?_
    obtain ⟨rfl, rfl⟩ := ret_inj hf
    exact V.ret (r := some (.int v5)) trivial dX11_prints_18
def fX5_isFewer (h : MH) (x0 : Int32) (x1 : Int32) : Option (Int32 × MH) := if x1 < 0 then (some (1, h)) else (bd2 (fJ6_bitCount_0f7a4 h x0) fun v1 h1 => bd2 (fJ6_bitCount_0f7a4 h1 x1) fun v2 h2 => if v2 ≤ v1 then (some (0, h2)) else (some (1, h2)))
set_option maxRecDepth 20000 in
theorem tX5_isFewer {r : Int32} {h' : MH} {h : MH} {x0 : Int32} {x1 : Int32} (hf : fX5_isFewer h x0 x1 = some (r, h')) : VM mX5_isFewer 1 (some (.int r)) h' h [.int x0, .int x1] := by
  show V TT mX5_isFewer 1 _ h' h 0 [.int x0, .int x1] []
  unfold fX5_isFewer at hf
  refine V.iload_n (q := 1) rfl dX5_isFewer_0 rfl rfl ?_
  refine V.if_lt (q := 4) (tgt := 15) dX5_isFewer_1 rfl (by decide) (fun c => ?_) (fun c => ?_)
  · rw [if_pos c] at hf
    refine V.iconst (q := 16) (v := 1) (by decide) dX5_isFewer_15 rfl ?_
    refine V.goto (q := 20) dX5_isFewer_16 (by decide) ?_
    obtain ⟨rfl, rfl⟩ := ret_inj hf
    exact V.ret (r := some (.int 1)) (Or.inr rfl) dX5_isFewer_20
  · rw [if_neg c] at hf
    refine V.iload_n (q := 5) rfl dX5_isFewer_4 rfl rfl ?_
    obtain ⟨v1, h1, eh1, hf⟩ := bd2_ex hf
    refine V.callS (q := 8) (vs := [.int x0]) (st := []) (S2 := [.int v1]) okJ6_bitCount_0f7a4 stJ6_bitCount_0f7a4 lkX5_108 (tJ6_bitCount_0f7a4 eh1) rfl (by decide) rfl (Nat.le_of_ble_eq_true rfl) (Nat.le_of_ble_eq_true rfl) rfl dX5_isFewer_5 rfl rfl ?_
    refine V.iload_n (q := 9) rfl dX5_isFewer_8 rfl rfl ?_
    obtain ⟨v2, h2, eh2, hf⟩ := bd2_ex hf
    refine V.callS (q := 12) (vs := [.int x1]) (st := [.int v1]) (S2 := [.int v2, .int v1]) okJ6_bitCount_0f7a4 stJ6_bitCount_0f7a4 lkX5_108 (tJ6_bitCount_0f7a4 eh2) rfl (by decide) rfl (Nat.le_of_ble_eq_true rfl) (Nat.le_of_ble_eq_true rfl) rfl dX5_isFewer_9 rfl rfl ?_
    refine V.icmp_ge (q := 15) (tgt := 19) dX5_isFewer_12 rfl (by decide) (fun c => ?_) (fun c => ?_)
    · rw [if_pos c] at hf
      refine V.iconst (q := 20) (v := 0) (by decide) dX5_isFewer_19 rfl ?_
      obtain ⟨rfl, rfl⟩ := ret_inj hf
      exact V.ret (r := some (.int 0)) (Or.inl rfl) dX5_isFewer_20
    · rw [if_neg c] at hf
      refine V.iconst (q := 16) (v := 1) (by decide) dX5_isFewer_15 rfl ?_
      refine V.goto (q := 20) dX5_isFewer_16 (by decide) ?_
      obtain ⟨rfl, rfl⟩ := ret_inj hf
      exact V.ret (r := some (.int 1)) (Or.inr rfl) dX5_isFewer_20
def bX5_fewestChanges_7 (k7 : MH → Nat → Int32 → Int32 → Int32 → Int32 → Int32 → Option (Int32 × MH)) (h : MH) (a0 : Nat) (x1 : Int32) (x2 : Int32) (x3 : Int32) (x4 : Int32) (x5 : Int32) : Option (Int32 × MH) := bd (gR h a0 5 1) fun b1 => bd (ck h b1 7) fun _ => bd2 (fX7_markSets h b1 ) fun v3 h1 => if v3 ≤ x5 then (some (x4, h1)) else (bd2 (fX5_isFewer h1 x5 x4) fun v4 h2 => if v4 = 0 then (bd (some (x5 + 1)) fun v5 => k7 h2 a0 x1 x2 x3 x4 v5) else (bd (gR h2 a0 5 0) fun b5 => bd (ck h2 b5 4) fun _ => bd2 (fX4_marksOf h2 b5 x1) fun v7 h3 => bd (ck h3 a0 5) fun _ => bd2 (fX5_sayOf h3 a0 x2 (v7 ^^^ x5)) fun v9 h4 => if v9 = x3 then (bd (some (x5 + 1)) fun v10 => k7 h4 a0 x1 x2 x3 x5 v10) else (bd (some (x5 + 1)) fun v10 => k7 h4 a0 x1 x2 x3 x4 v10)))
set_option maxRecDepth 20000 in
theorem tX5_fewestChanges_7 {r : Int32} {h' : MH} (k7 : MH → Nat → Int32 → Int32 → Int32 → Int32 → Int32 → Option (Int32 × MH)) (hk7 : ∀ (h : MH) (a0 : Nat) (x1 : Int32) (x2 : Int32) (x3 : Int32) (x4 : Int32) (x5 : Int32), k7 h a0 x1 x2 x3 x4 x5 = some (r, h') → V TT mX5_fewestChanges 2 (some (.int r)) h' h 7 [.ref a0, .int x1, .int x2, .int x3, .int x4, .int x5] [])  {h : MH} {a0 : Nat} {x1 : Int32} {x2 : Int32} {x3 : Int32} {x4 : Int32} {x5 : Int32} (hf : bX5_fewestChanges_7 k7 h a0 x1 x2 x3 x4 x5 = some (r, h')) : V TT mX5_fewestChanges 2 (some (.int r)) h' h 7 [.ref a0, .int x1, .int x2, .int x3, .int x4, .int x5] [] := by
  unfold bX5_fewestChanges_7 at hf
  refine V.iload (q := 9) dX5_fewestChanges_7 rfl rfl ?_
  refine V.aload_n (q := 10) rfl dX5_fewestChanges_9 rfl rfl ?_
  obtain ⟨b1, eb1, hf⟩ := bd_ex hf
  refine V.getR (q := 13) flX5_21 rfl eb1 dX5_fewestChanges_10 rfl ?_
  obtain ⟨_, e2, hf⟩ := bd_ex hf
  obtain ⟨v3, h1, eh1, hf⟩ := bd2_ex hf
  refine V.callV (q := 16) (ci := 7) (vs := []) (st := [.int x5]) (S2 := [.int v3, .int x5]) okX7_markSets imX7_markSets seX7_markSets rfl lkX5_97 (tX7_markSets eh1) rfl (ck_is e2) (by decide) rfl (Nat.le_of_ble_eq_true rfl) (Nat.le_of_ble_eq_true rfl) rfl dX5_fewestChanges_13 rfl rfl ?_
  refine V.icmp_ge (q := 19) (tgt := 59) dX5_fewestChanges_16 rfl (by decide) (fun c => ?_) (fun c => ?_)
  · rw [if_pos c] at hf
    refine V.iload (q := 61) dX5_fewestChanges_59 rfl rfl ?_
    obtain ⟨rfl, rfl⟩ := ret_inj hf
    exact V.ret (r := some (.int x4)) trivial dX5_fewestChanges_61
  · rw [if_neg c] at hf
    refine V.iload (q := 21) dX5_fewestChanges_19 rfl rfl ?_
    refine V.iload (q := 23) dX5_fewestChanges_21 rfl rfl ?_
    obtain ⟨v4, h2, eh2, hf⟩ := bd2_ex hf
    refine V.callS (q := 26) (vs := [.int x5, .int x4]) (st := []) (S2 := [.int v4]) okX5_isFewer stX5_isFewer lkX5_101 (tX5_isFewer eh2) rfl (by decide) rfl (Nat.le_of_ble_eq_true rfl) (Nat.le_of_ble_eq_true rfl) rfl dX5_fewestChanges_23 rfl rfl ?_
    refine V.if_eq (q := 29) (tgt := 53) dX5_fewestChanges_26 rfl (by decide) (fun c => ?_) (fun c => ?_)
    · rw [if_pos c] at hf
      obtain ⟨v5, ev5, hf⟩ := bd_ex hf
      refine V.iinc (q := 56) (v := v5) (L' := [.ref a0, .int x1, .int x2, .int x3, .int x4, .int v5]) dX5_fewestChanges_53 rfl rfl (Option.some.inj ev5) (by decide) rfl rfl ?_
      refine V.goto (q := 7) dX5_fewestChanges_56 (by decide) ?_
      exact hk7 _ _ _ _ _ _ _ hf
    · rw [if_neg c] at hf
      refine V.aload_n (q := 30) rfl dX5_fewestChanges_29 rfl rfl ?_
      refine V.iload_n (q := 31) rfl dX5_fewestChanges_30 rfl rfl ?_
      refine V.aload_n (q := 32) rfl dX5_fewestChanges_31 rfl rfl ?_
      obtain ⟨b5, eb5, hf⟩ := bd_ex hf
      refine V.getR (q := 35) flX5_12 rfl eb5 dX5_fewestChanges_32 rfl ?_
      refine V.iload_n (q := 36) rfl dX5_fewestChanges_35 rfl rfl ?_
      obtain ⟨_, e6, hf⟩ := bd_ex hf
      obtain ⟨v7, h3, eh3, hf⟩ := bd2_ex hf
      refine V.callV (q := 39) (ci := 4) (vs := [.int x1]) (st := [.int x2, .ref a0]) (S2 := [.int v7, .int x2, .ref a0]) okX4_marksOf imX4_marksOf seX4_marksOf rfl lkX5_72 (tX4_marksOf eh3) rfl (ck_is e6) (by decide) rfl (Nat.le_of_ble_eq_true rfl) (Nat.le_of_ble_eq_true rfl) rfl dX5_fewestChanges_36 rfl rfl ?_
      refine V.iload (q := 41) dX5_fewestChanges_39 rfl rfl ?_
      refine V.ixor (q := 42) dX5_fewestChanges_41 rfl ?_
      obtain ⟨_, e8, hf⟩ := bd_ex hf
      obtain ⟨v9, h4, eh4, hf⟩ := bd2_ex hf
      refine V.callV (q := 45) (ci := 5) (vs := [.int x2, .int (v7 ^^^ x5)]) (st := []) (S2 := [.int v9]) okX5_sayOf imX5_sayOf seX5_sayOf rfl lkX5_75 (tX5_sayOf eh4) rfl (ck_is e8) (by decide) rfl (Nat.le_of_ble_eq_true rfl) (Nat.le_of_ble_eq_true rfl) rfl dX5_fewestChanges_42 rfl rfl ?_
      refine V.iload_n (q := 46) rfl dX5_fewestChanges_45 rfl rfl ?_
      refine V.icmp_ne (q := 49) (tgt := 53) dX5_fewestChanges_46 rfl (by decide) (fun c => ?_) (fun c => ?_)
      · rw [if_neg c] at hf
        obtain ⟨v10, ev10, hf⟩ := bd_ex hf
        refine V.iinc (q := 56) (v := v10) (L' := [.ref a0, .int x1, .int x2, .int x3, .int x4, .int v10]) dX5_fewestChanges_53 rfl rfl (Option.some.inj ev10) (by decide) rfl rfl ?_
        refine V.goto (q := 7) dX5_fewestChanges_56 (by decide) ?_
        exact hk7 _ _ _ _ _ _ _ hf
      · rw [if_pos c] at hf
        refine V.iload (q := 51) dX5_fewestChanges_49 rfl rfl ?_
        refine V.istore (q := 53) (L' := [.ref a0, .int x1, .int x2, .int x3, .int x5, .int x5]) dX5_fewestChanges_51 rfl (by decide) rfl rfl ?_
        obtain ⟨v10, ev10, hf⟩ := bd_ex hf
        refine V.iinc (q := 56) (v := v10) (L' := [.ref a0, .int x1, .int x2, .int x3, .int x5, .int v10]) dX5_fewestChanges_53 rfl rfl (Option.some.inj ev10) (by decide) rfl rfl ?_
        refine V.goto (q := 7) dX5_fewestChanges_56 (by decide) ?_
        exact hk7 _ _ _ _ _ _ _ hf
def fX5_fewestChanges_7  : Nat → MH → Nat → Int32 → Int32 → Int32 → Int32 → Int32 → Option (Int32 × MH)
  | 0 => fun _ _ _ _ _ _ _ => none
  | n + 1 => bX5_fewestChanges_7  (fX5_fewestChanges_7  n)
theorem tlX5_fewestChanges_7 {r : Int32} {h' : MH}   : ∀ (n : Nat) (h : MH) (a0 : Nat) (x1 : Int32) (x2 : Int32) (x3 : Int32) (x4 : Int32) (x5 : Int32), fX5_fewestChanges_7  n h a0 x1 x2 x3 x4 x5 = some (r, h') → V TT mX5_fewestChanges 2 (some (.int r)) h' h 7 [.ref a0, .int x1, .int x2, .int x3, .int x4, .int x5] [] := by
  intro n
  induction n with
  | zero => intro h a0 x1 x2 x3 x4 x5 hf; exact nomatch (show (none : Option (Int32 × MH)) = some (r, h') from hf)
  | succ n ih => intro h a0 x1 x2 x3 x4 x5 hf; exact tX5_fewestChanges_7  (fX5_fewestChanges_7  n) ih hf
def fX5_fewestChanges (h : MH) (a0 : Nat) (x1 : Int32) (x2 : Int32) (x3 : Int32) : Option (Int32 × MH) := fX5_fewestChanges_7 FU h a0 x1 x2 x3 (-2) 0
set_option maxRecDepth 20000 in
theorem tX5_fewestChanges {r : Int32} {h' : MH} {h : MH} {a0 : Nat} {x1 : Int32} {x2 : Int32} {x3 : Int32} (hf : fX5_fewestChanges h a0 x1 x2 x3 = some (r, h')) : VM mX5_fewestChanges 2 (some (.int r)) h' h [.ref a0, .int x1, .int x2, .int x3] := by
  show V TT mX5_fewestChanges 2 _ h' h 0 [.ref a0, .int x1, .int x2, .int x3, Jk, Jk] []
  unfold fX5_fewestChanges at hf
  refine V.bipush (q := 2) (v := (-2)) (by decide) dX5_fewestChanges_0 rfl ?_
  refine V.istore (q := 4) (L' := [.ref a0, .int x1, .int x2, .int x3, .int (-2), Jk]) dX5_fewestChanges_2 rfl (by decide) rfl rfl ?_
  refine V.iconst (q := 5) (v := 0) (by decide) dX5_fewestChanges_4 rfl ?_
  refine V.istore (q := 7) (L' := [.ref a0, .int x1, .int x2, .int x3, .int (-2), .int 0]) dX5_fewestChanges_5 rfl (by decide) rfl rfl ?_
  exact tlX5_fewestChanges_7  FU _ _ _ _ _ _ _ hf
def fX11_reword (h : MH) (a0 : Nat) (x1 : Int32) (x2 : Int32) (x3 : Int32) : Option (Int32 × MH) := bd (gR h a0 11 2) fun b1 => bd (ck h b1 5) fun _ => bd2 (fX5_hasPaper h b1 x1) fun v3 h1 => if v3 = 0 then (bd (ck h1 a0 11) fun _ => bd2 (fX11_refuse h1 a0 1) fun v5 h2 => some (v5, h2)) else (bd (gR h1 a0 11 2) fun b4 => bd (ck h1 b4 5) fun _ => bd2 (fX5_hasStamp h1 b4 x2) fun v6 h2 => if v6 = 0 then (bd (ck h2 a0 11) fun _ => bd2 (fX11_refuse h2 a0 1) fun v8 h3 => some (v8, h3)) else (bd2 (fX11_isVerdict h2 x3) fun v7 h3 => if v7 = 0 then (bd (ck h3 a0 11) fun _ => bd2 (fX11_refuse h3 a0 2) fun v9 h4 => some (v9, h4)) else (bd (gR h3 a0 11 2) fun b8 => bd (ck h3 b8 5) fun _ => bd2 (fX5_fewestChanges h3 b8 x1 x2 x3) fun v10 h4 => bd (ck h4 a0 11) fun _ => bd2 (fX11_answer h4 a0 v10) fun v12 h5 => some (v12, h5))))
set_option maxRecDepth 20000 in
theorem tX11_reword {r : Int32} {h' : MH} {h : MH} {a0 : Nat} {x1 : Int32} {x2 : Int32} {x3 : Int32} (hf : fX11_reword h a0 x1 x2 x3 = some (r, h')) : VM mX11_reword 3 (some (.int r)) h' h [.ref a0, .int x1, .int x2, .int x3] := by
  show V TT mX11_reword 3 _ h' h 0 [.ref a0, .int x1, .int x2, .int x3] []
  unfold fX11_reword at hf
  refine V.aload_n (q := 1) rfl dX11_reword_0 rfl rfl ?_
  obtain ⟨b1, eb1, hf⟩ := bd_ex hf
  refine V.getR (q := 4) flX11_28 rfl eb1 dX11_reword_1 rfl ?_
  refine V.iload_n (q := 5) rfl dX11_reword_4 rfl rfl ?_
  obtain ⟨_, e2, hf⟩ := bd_ex hf
  obtain ⟨v3, h1, eh1, hf⟩ := bd2_ex hf
  refine V.callV (q := 8) (ci := 5) (vs := [.int x1]) (st := []) (S2 := [.int v3]) okX5_hasPaper imX5_hasPaper seX5_hasPaper rfl lkX11_130 (tX5_hasPaper eh1) rfl (ck_is e2) (by decide) rfl (Nat.le_of_ble_eq_true rfl) (Nat.le_of_ble_eq_true rfl) rfl dX11_reword_5 rfl rfl ?_
  refine V.if_eq (q := 11) (tgt := 22) dX11_reword_8 rfl (by decide) (fun c => ?_) (fun c => ?_)
  · rw [if_pos c] at hf
    refine V.aload_n (q := 23) rfl dX11_reword_22 rfl rfl ?_
    refine V.iconst (q := 24) (v := 1) (by decide) dX11_reword_23 rfl ?_
    obtain ⟨_, e4, hf⟩ := bd_ex hf
    obtain ⟨v5, h2, eh2, hf⟩ := bd2_ex hf
    refine V.callV (q := 27) (ci := 11) (vs := [.int 1]) (st := []) (S2 := [.int v5]) okX11_refuse imX11_refuse seX11_refuse rfl lkX11_101 (tX11_refuse eh2) rfl (ck_is e4) (by decide) rfl (Nat.le_of_ble_eq_true rfl) (Nat.le_of_ble_eq_true rfl) rfl dX11_reword_24 rfl rfl ?_
    obtain ⟨rfl, rfl⟩ := ret_inj hf
    exact V.ret (r := some (.int v5)) trivial dX11_reword_27
  · rw [if_neg c] at hf
    refine V.aload_n (q := 12) rfl dX11_reword_11 rfl rfl ?_
    obtain ⟨b4, eb4, hf⟩ := bd_ex hf
    refine V.getR (q := 15) flX11_28 rfl eb4 dX11_reword_12 rfl ?_
    refine V.iload_n (q := 16) rfl dX11_reword_15 rfl rfl ?_
    obtain ⟨_, e5, hf⟩ := bd_ex hf
    obtain ⟨v6, h2, eh2, hf⟩ := bd2_ex hf
    refine V.callV (q := 19) (ci := 5) (vs := [.int x2]) (st := []) (S2 := [.int v6]) okX5_hasStamp imX5_hasStamp seX5_hasStamp rfl lkX11_152 (tX5_hasStamp eh2) rfl (ck_is e5) (by decide) rfl (Nat.le_of_ble_eq_true rfl) (Nat.le_of_ble_eq_true rfl) rfl dX11_reword_16 rfl rfl ?_
    refine V.if_ne (q := 22) (tgt := 28) dX11_reword_19 rfl (by decide) (fun c => ?_) (fun c => ?_)
    · rw [if_neg c] at hf
      refine V.iload_n (q := 29) rfl dX11_reword_28 rfl rfl ?_
      obtain ⟨v7, h3, eh3, hf⟩ := bd2_ex hf
      refine V.callS (q := 32) (vs := [.int x3]) (st := []) (S2 := [.int v7]) okX11_isVerdict stX11_isVerdict lkX11_218 (tX11_isVerdict eh3) rfl (by decide) rfl (Nat.le_of_ble_eq_true rfl) (Nat.le_of_ble_eq_true rfl) rfl dX11_reword_29 rfl rfl ?_
      refine V.if_ne (q := 35) (tgt := 41) dX11_reword_32 rfl (by decide) (fun c => ?_) (fun c => ?_)
      · rw [if_neg c] at hf
        refine V.aload_n (q := 42) rfl dX11_reword_41 rfl rfl ?_
        refine V.aload_n (q := 43) rfl dX11_reword_42 rfl rfl ?_
        obtain ⟨b8, eb8, hf⟩ := bd_ex hf
        refine V.getR (q := 46) flX11_28 rfl eb8 dX11_reword_43 rfl ?_
        refine V.iload_n (q := 47) rfl dX11_reword_46 rfl rfl ?_
        refine V.iload_n (q := 48) rfl dX11_reword_47 rfl rfl ?_
        refine V.iload_n (q := 49) rfl dX11_reword_48 rfl rfl ?_
        obtain ⟨_, e9, hf⟩ := bd_ex hf
        obtain ⟨v10, h4, eh4, hf⟩ := bd2_ex hf
        refine V.callV (q := 52) (ci := 5) (vs := [.int x1, .int x2, .int x3]) (st := [.ref a0]) (S2 := [.int v10, .ref a0]) okX5_fewestChanges imX5_fewestChanges seX5_fewestChanges rfl lkX11_242 (tX5_fewestChanges eh4) rfl (ck_is e9) (by decide) rfl (Nat.le_of_ble_eq_true rfl) (Nat.le_of_ble_eq_true rfl) rfl dX11_reword_49 rfl rfl ?_
        obtain ⟨_, e11, hf⟩ := bd_ex hf
        obtain ⟨v12, h5, eh5, hf⟩ := bd2_ex hf
        refine V.callV (q := 55) (ci := 11) (vs := [.int v10]) (st := []) (S2 := [.int v12]) okX11_answer imX11_answer seX11_answer rfl lkX11_127 (tX11_answer eh5) rfl (ck_is e11) (by decide) rfl (Nat.le_of_ble_eq_true rfl) (Nat.le_of_ble_eq_true rfl) rfl dX11_reword_52 rfl rfl ?_
        obtain ⟨rfl, rfl⟩ := ret_inj hf
        exact V.ret (r := some (.int v12)) trivial dX11_reword_55
      · rw [if_pos c] at hf
        refine V.aload_n (q := 36) rfl dX11_reword_35 rfl rfl ?_
        refine V.iconst (q := 37) (v := 2) (by decide) dX11_reword_36 rfl ?_
        obtain ⟨_, e8, hf⟩ := bd_ex hf
        obtain ⟨v9, h4, eh4, hf⟩ := bd2_ex hf
        refine V.callV (q := 40) (ci := 11) (vs := [.int 2]) (st := []) (S2 := [.int v9]) okX11_refuse imX11_refuse seX11_refuse rfl lkX11_101 (tX11_refuse eh4) rfl (ck_is e8) (by decide) rfl (Nat.le_of_ble_eq_true rfl) (Nat.le_of_ble_eq_true rfl) rfl dX11_reword_37 rfl rfl ?_
        obtain ⟨rfl, rfl⟩ := ret_inj hf
        exact V.ret (r := some (.int v9)) trivial dX11_reword_40
    · rw [if_pos c] at hf
      refine V.aload_n (q := 23) rfl dX11_reword_22 rfl rfl ?_
      refine V.iconst (q := 24) (v := 1) (by decide) dX11_reword_23 rfl ?_
      obtain ⟨_, e7, hf⟩ := bd_ex hf
      obtain ⟨v8, h3, eh3, hf⟩ := bd2_ex hf
      refine V.callV (q := 27) (ci := 11) (vs := [.int 1]) (st := []) (S2 := [.int v8]) okX11_refuse imX11_refuse seX11_refuse rfl lkX11_101 (tX11_refuse eh3) rfl (ck_is e7) (by decide) rfl (Nat.le_of_ble_eq_true rfl) (Nat.le_of_ble_eq_true rfl) rfl dX11_reword_24 rfl rfl ?_
      obtain ⟨rfl, rfl⟩ := ret_inj hf
      exact V.ret (r := some (.int v8)) trivial dX11_reword_27
def fX11_rule (h : MH) (a0 : Nat) (x1 : Int32) (x2 : Int32) : Option (Int32 × MH) := bd (gR h a0 11 2) fun b1 => bd (ck h b1 5) fun _ => bd2 (fX5_hasRule h b1 x1) fun v3 h1 => if v3 = 0 then (bd (ck h1 a0 11) fun _ => bd2 (fX11_refuse h1 a0 1) fun v5 h2 => some (v5, h2)) else (if x2 < 0 then (bd (ck h1 a0 11) fun _ => bd2 (fX11_refuse h1 a0 1) fun v5 h2 => some (v5, h2)) else (if x2 ≤ 3 then (if x2 = 0 then (bd (gR h1 a0 11 2) fun b4 => bd (gR h1 b4 5 1) fun b5 => bd (gR h1 b5 7 4) fun b6 => bd (lI h1 b6 x1) fun v7 => bd (ck h1 a0 11) fun _ => bd2 (fX11_answer h1 a0 v7) fun v9 h2 => some (v9, h2)) else (if x2 = 1 then (bd (gR h1 a0 11 2) fun b4 => bd (gR h1 b4 5 1) fun b5 => bd (gR h1 b5 7 5) fun b6 => bd (lI h1 b6 x1) fun v7 => bd (ck h1 a0 11) fun _ => bd2 (fX11_answer h1 a0 v7) fun v9 h2 => some (v9, h2)) else (if x2 = 2 then (bd (gR h1 a0 11 2) fun b4 => bd (gR h1 b4 5 1) fun b5 => bd (gR h1 b5 7 6) fun b6 => bd (lI h1 b6 x1) fun v7 => bd (ck h1 a0 11) fun _ => bd2 (fX11_answer h1 a0 v7) fun v9 h2 => some (v9, h2)) else (bd (gR h1 a0 11 2) fun b4 => bd (gR h1 b4 5 0) fun b5 => bd (ck h1 b5 4) fun _ => bd2 (fX4_verdictOf h1 b5 x1) fun v7 h2 => bd (ck h2 a0 11) fun _ => bd2 (fX11_answer h2 a0 v7) fun v9 h3 => some (v9, h3))))) else (bd (ck h1 a0 11) fun _ => bd2 (fX11_refuse h1 a0 1) fun v5 h2 => some (v5, h2))))
set_option maxRecDepth 20000 in
theorem tX11_rule {r : Int32} {h' : MH} {h : MH} {a0 : Nat} {x1 : Int32} {x2 : Int32} (hf : fX11_rule h a0 x1 x2 = some (r, h')) : VM mX11_rule 1 (some (.int r)) h' h [.ref a0, .int x1, .int x2] := by
  show V TT mX11_rule 1 _ h' h 0 [.ref a0, .int x1, .int x2] []
  unfold fX11_rule at hf
  refine V.aload_n (q := 1) rfl dX11_rule_0 rfl rfl ?_
  obtain ⟨b1, eb1, hf⟩ := bd_ex hf
  refine V.getR (q := 4) flX11_28 rfl eb1 dX11_rule_1 rfl ?_
  refine V.iload_n (q := 5) rfl dX11_rule_4 rfl rfl ?_
  obtain ⟨_, e2, hf⟩ := bd_ex hf
  obtain ⟨v3, h1, eh1, hf⟩ := bd2_ex hf
  refine V.callV (q := 8) (ci := 5) (vs := [.int x1]) (st := []) (S2 := [.int v3]) okX5_hasRule imX5_hasRule seX5_hasRule rfl lkX11_182 (tX5_hasRule eh1) rfl (ck_is e2) (by decide) rfl (Nat.le_of_ble_eq_true rfl) (Nat.le_of_ble_eq_true rfl) rfl dX11_rule_5 rfl rfl ?_
  refine V.if_eq (q := 11) (tgt := 20) dX11_rule_8 rfl (by decide) (fun c => ?_) (fun c => ?_)
  · rw [if_pos c] at hf
    refine V.aload_n (q := 21) rfl dX11_rule_20 rfl rfl ?_
    refine V.iconst (q := 22) (v := 1) (by decide) dX11_rule_21 rfl ?_
    obtain ⟨_, e4, hf⟩ := bd_ex hf
    obtain ⟨v5, h2, eh2, hf⟩ := bd2_ex hf
    refine V.callV (q := 25) (ci := 11) (vs := [.int 1]) (st := []) (S2 := [.int v5]) okX11_refuse imX11_refuse seX11_refuse rfl lkX11_101 (tX11_refuse eh2) rfl (ck_is e4) (by decide) rfl (Nat.le_of_ble_eq_true rfl) (Nat.le_of_ble_eq_true rfl) rfl dX11_rule_22 rfl rfl ?_
    obtain ⟨rfl, rfl⟩ := ret_inj hf
    exact V.ret (r := some (.int v5)) trivial dX11_rule_25
  · rw [if_neg c] at hf
    refine V.iload_n (q := 12) rfl dX11_rule_11 rfl rfl ?_
    refine V.if_lt (q := 15) (tgt := 20) dX11_rule_12 rfl (by decide) (fun c => ?_) (fun c => ?_)
    · rw [if_pos c] at hf
      refine V.aload_n (q := 21) rfl dX11_rule_20 rfl rfl ?_
      refine V.iconst (q := 22) (v := 1) (by decide) dX11_rule_21 rfl ?_
      obtain ⟨_, e4, hf⟩ := bd_ex hf
      obtain ⟨v5, h2, eh2, hf⟩ := bd2_ex hf
      refine V.callV (q := 25) (ci := 11) (vs := [.int 1]) (st := []) (S2 := [.int v5]) okX11_refuse imX11_refuse seX11_refuse rfl lkX11_101 (tX11_refuse eh2) rfl (ck_is e4) (by decide) rfl (Nat.le_of_ble_eq_true rfl) (Nat.le_of_ble_eq_true rfl) rfl dX11_rule_22 rfl rfl ?_
      obtain ⟨rfl, rfl⟩ := ret_inj hf
      exact V.ret (r := some (.int v5)) trivial dX11_rule_25
    · rw [if_neg c] at hf
      refine V.iload_n (q := 16) rfl dX11_rule_15 rfl rfl ?_
      refine V.iconst (q := 17) (v := 3) (by decide) dX11_rule_16 rfl ?_
      refine V.icmp_le (q := 20) (tgt := 26) dX11_rule_17 rfl (by decide) (fun c => ?_) (fun c => ?_)
      · rw [if_pos c] at hf
        refine V.iload_n (q := 27) rfl dX11_rule_26 rfl rfl ?_
        by_cases c0 : x2 = 0
        · rw [if_pos c0] at hf
          refine V.topI c0 ?_
          refine V.tableIn (q := 52) (off := 25) dX11_rule_27 (by decide) (by decide) (by decide) (by decide) ?_
          refine V.aload_n (q := 53) rfl dX11_rule_52 rfl rfl ?_
          refine V.aload_n (q := 54) rfl dX11_rule_53 rfl rfl ?_
          obtain ⟨b4, eb4, hf⟩ := bd_ex hf
          refine V.getR (q := 57) flX11_28 rfl eb4 dX11_rule_54 rfl ?_
          obtain ⟨b5, eb5, hf⟩ := bd_ex hf
          refine V.getR (q := 60) flX11_118 rfl eb5 dX11_rule_57 rfl ?_
          obtain ⟨b6, eb6, hf⟩ := bd_ex hf
          refine V.getR (q := 63) flX11_185 rfl eb6 dX11_rule_60 rfl ?_
          refine V.iload_n (q := 64) rfl dX11_rule_63 rfl rfl ?_
          obtain ⟨v7, ev7, hf⟩ := bd_ex hf
          refine V.iald (q := 65) ev7 dX11_rule_64 rfl ?_
          obtain ⟨_, e8, hf⟩ := bd_ex hf
          obtain ⟨v9, h2, eh2, hf⟩ := bd2_ex hf
          refine V.callV (q := 68) (ci := 11) (vs := [.int v7]) (st := []) (S2 := [.int v9]) okX11_answer imX11_answer seX11_answer rfl lkX11_127 (tX11_answer eh2) rfl (ck_is e8) (by decide) rfl (Nat.le_of_ble_eq_true rfl) (Nat.le_of_ble_eq_true rfl) rfl dX11_rule_65 rfl rfl ?_
          obtain ⟨rfl, rfl⟩ := ret_inj hf
          exact V.ret (r := some (.int v9)) trivial dX11_rule_68
        rw [if_neg c0] at hf
        by_cases c1 : x2 = 1
        · rw [if_pos c1] at hf
          refine V.topI c1 ?_
          refine V.tableIn (q := 69) (off := 42) dX11_rule_27 (by decide) (by decide) (by decide) (by decide) ?_
          refine V.aload_n (q := 70) rfl dX11_rule_69 rfl rfl ?_
          refine V.aload_n (q := 71) rfl dX11_rule_70 rfl rfl ?_
          obtain ⟨b4, eb4, hf⟩ := bd_ex hf
          refine V.getR (q := 74) flX11_28 rfl eb4 dX11_rule_71 rfl ?_
          obtain ⟨b5, eb5, hf⟩ := bd_ex hf
          refine V.getR (q := 77) flX11_118 rfl eb5 dX11_rule_74 rfl ?_
          obtain ⟨b6, eb6, hf⟩ := bd_ex hf
          refine V.getR (q := 80) flX11_188 rfl eb6 dX11_rule_77 rfl ?_
          refine V.iload_n (q := 81) rfl dX11_rule_80 rfl rfl ?_
          obtain ⟨v7, ev7, hf⟩ := bd_ex hf
          refine V.iald (q := 82) ev7 dX11_rule_81 rfl ?_
          obtain ⟨_, e8, hf⟩ := bd_ex hf
          obtain ⟨v9, h2, eh2, hf⟩ := bd2_ex hf
          refine V.callV (q := 85) (ci := 11) (vs := [.int v7]) (st := []) (S2 := [.int v9]) okX11_answer imX11_answer seX11_answer rfl lkX11_127 (tX11_answer eh2) rfl (ck_is e8) (by decide) rfl (Nat.le_of_ble_eq_true rfl) (Nat.le_of_ble_eq_true rfl) rfl dX11_rule_82 rfl rfl ?_
          obtain ⟨rfl, rfl⟩ := ret_inj hf
          exact V.ret (r := some (.int v9)) trivial dX11_rule_85
        rw [if_neg c1] at hf
        by_cases c2 : x2 = 2
        · rw [if_pos c2] at hf
          refine V.topI c2 ?_
          refine V.tableIn (q := 86) (off := 59) dX11_rule_27 (by decide) (by decide) (by decide) (by decide) ?_
          refine V.aload_n (q := 87) rfl dX11_rule_86 rfl rfl ?_
          refine V.aload_n (q := 88) rfl dX11_rule_87 rfl rfl ?_
          obtain ⟨b4, eb4, hf⟩ := bd_ex hf
          refine V.getR (q := 91) flX11_28 rfl eb4 dX11_rule_88 rfl ?_
          obtain ⟨b5, eb5, hf⟩ := bd_ex hf
          refine V.getR (q := 94) flX11_118 rfl eb5 dX11_rule_91 rfl ?_
          obtain ⟨b6, eb6, hf⟩ := bd_ex hf
          refine V.getR (q := 97) flX11_191 rfl eb6 dX11_rule_94 rfl ?_
          refine V.iload_n (q := 98) rfl dX11_rule_97 rfl rfl ?_
          obtain ⟨v7, ev7, hf⟩ := bd_ex hf
          refine V.iald (q := 99) ev7 dX11_rule_98 rfl ?_
          obtain ⟨_, e8, hf⟩ := bd_ex hf
          obtain ⟨v9, h2, eh2, hf⟩ := bd2_ex hf
          refine V.callV (q := 102) (ci := 11) (vs := [.int v7]) (st := []) (S2 := [.int v9]) okX11_answer imX11_answer seX11_answer rfl lkX11_127 (tX11_answer eh2) rfl (ck_is e8) (by decide) rfl (Nat.le_of_ble_eq_true rfl) (Nat.le_of_ble_eq_true rfl) rfl dX11_rule_99 rfl rfl ?_
          obtain ⟨rfl, rfl⟩ := ret_inj hf
          exact V.ret (r := some (.int v9)) trivial dX11_rule_102
        rw [if_neg c2] at hf
        have hout : x2.toInt < 0 ∨ 2 < x2.toInt := tsw_out (lo := 0) (n := 2) (fun k h1 h2 => by
          have : k = 0 ∨ k = 1 ∨ k = 2 := by omega
          rcases this with rfl | rfl | rfl
          · exact c0
          · exact c1
          · exact c2) (by decide)
        refine V.tableOut (q := 103) dX11_rule_27 hout (by decide) ?_
        refine V.aload_n (q := 104) rfl dX11_rule_103 rfl rfl ?_
        refine V.aload_n (q := 105) rfl dX11_rule_104 rfl rfl ?_
        obtain ⟨b4, eb4, hf⟩ := bd_ex hf
        refine V.getR (q := 108) flX11_28 rfl eb4 dX11_rule_105 rfl ?_
        obtain ⟨b5, eb5, hf⟩ := bd_ex hf
        refine V.getR (q := 111) flX11_137 rfl eb5 dX11_rule_108 rfl ?_
        refine V.iload_n (q := 112) rfl dX11_rule_111 rfl rfl ?_
        obtain ⟨_, e6, hf⟩ := bd_ex hf
        obtain ⟨v7, h2, eh2, hf⟩ := bd2_ex hf
        refine V.callV (q := 115) (ci := 4) (vs := [.int x1]) (st := [.ref a0]) (S2 := [.int v7, .ref a0]) okX4_verdictOf imX4_verdictOf seX4_verdictOf rfl lkX11_194 (tX4_verdictOf eh2) rfl (ck_is e6) (by decide) rfl (Nat.le_of_ble_eq_true rfl) (Nat.le_of_ble_eq_true rfl) rfl dX11_rule_112 rfl rfl ?_
        obtain ⟨_, e8, hf⟩ := bd_ex hf
        obtain ⟨v9, h3, eh3, hf⟩ := bd2_ex hf
        refine V.callV (q := 118) (ci := 11) (vs := [.int v7]) (st := []) (S2 := [.int v9]) okX11_answer imX11_answer seX11_answer rfl lkX11_127 (tX11_answer eh3) rfl (ck_is e8) (by decide) rfl (Nat.le_of_ble_eq_true rfl) (Nat.le_of_ble_eq_true rfl) rfl dX11_rule_115 rfl rfl ?_
        obtain ⟨rfl, rfl⟩ := ret_inj hf
        exact V.ret (r := some (.int v9)) trivial dX11_rule_118
      · rw [if_neg c] at hf
        refine V.aload_n (q := 21) rfl dX11_rule_20 rfl rfl ?_
        refine V.iconst (q := 22) (v := 1) (by decide) dX11_rule_21 rfl ?_
        obtain ⟨_, e4, hf⟩ := bd_ex hf
        obtain ⟨v5, h2, eh2, hf⟩ := bd2_ex hf
        refine V.callV (q := 25) (ci := 11) (vs := [.int 1]) (st := []) (S2 := [.int v5]) okX11_refuse imX11_refuse seX11_refuse rfl lkX11_101 (tX11_refuse eh2) rfl (ck_is e4) (by decide) rfl (Nat.le_of_ble_eq_true rfl) (Nat.le_of_ble_eq_true rfl) rfl dX11_rule_22 rfl rfl ?_
        obtain ⟨rfl, rfl⟩ := ret_inj hf
        exact V.ret (r := some (.int v5)) trivial dX11_rule_25
def fX11_sayers (h : MH) (a0 : Nat) (x1 : Int32) (x2 : Int32) : Option (Int32 × MH) := bd (gR h a0 11 2) fun b1 => bd (ck h b1 5) fun _ => bd2 (fX5_hasPaper h b1 x1) fun v3 h1 => if v3 = 0 then (bd (ck h1 a0 11) fun _ => bd2 (fX11_refuse h1 a0 1) fun v5 h2 => some (v5, h2)) else (bd2 (fX11_isVerdict h1 x2) fun v4 h2 => if v4 = 0 then (bd (ck h2 a0 11) fun _ => bd2 (fX11_refuse h2 a0 2) fun v6 h3 => some (v6, h3)) else (bd (gR h2 a0 11 2) fun b5 => bd (gR h2 a0 11 2) fun b6 => bd (gR h2 b6 5 0) fun b7 => bd (ck h2 b7 4) fun _ => bd2 (fX4_marksOf h2 b7 x1) fun v9 h3 => bd (ck h3 b5 5) fun _ => bd2 (fX5_stampsThatSay h3 b5 v9 x2) fun v11 h4 => bd (ck h4 a0 11) fun _ => bd2 (fX11_answer h4 a0 v11) fun v13 h5 => some (v13, h5)))
set_option maxRecDepth 20000 in
theorem tX11_sayers {r : Int32} {h' : MH} {h : MH} {a0 : Nat} {x1 : Int32} {x2 : Int32} (hf : fX11_sayers h a0 x1 x2 = some (r, h')) : VM mX11_sayers 3 (some (.int r)) h' h [.ref a0, .int x1, .int x2] := by
  show V TT mX11_sayers 3 _ h' h 0 [.ref a0, .int x1, .int x2] []
  unfold fX11_sayers at hf
  refine V.aload_n (q := 1) rfl dX11_sayers_0 rfl rfl ?_
  obtain ⟨b1, eb1, hf⟩ := bd_ex hf
  refine V.getR (q := 4) flX11_28 rfl eb1 dX11_sayers_1 rfl ?_
  refine V.iload_n (q := 5) rfl dX11_sayers_4 rfl rfl ?_
  obtain ⟨_, e2, hf⟩ := bd_ex hf
  obtain ⟨v3, h1, eh1, hf⟩ := bd2_ex hf
  refine V.callV (q := 8) (ci := 5) (vs := [.int x1]) (st := []) (S2 := [.int v3]) okX5_hasPaper imX5_hasPaper seX5_hasPaper rfl lkX11_130 (tX5_hasPaper eh1) rfl (ck_is e2) (by decide) rfl (Nat.le_of_ble_eq_true rfl) (Nat.le_of_ble_eq_true rfl) rfl dX11_sayers_5 rfl rfl ?_
  refine V.if_ne (q := 11) (tgt := 17) dX11_sayers_8 rfl (by decide) (fun c => ?_) (fun c => ?_)
  · rw [if_neg c] at hf
    refine V.iload_n (q := 18) rfl dX11_sayers_17 rfl rfl ?_
    obtain ⟨v4, h2, eh2, hf⟩ := bd2_ex hf
    refine V.callS (q := 21) (vs := [.int x2]) (st := []) (S2 := [.int v4]) okX11_isVerdict stX11_isVerdict lkX11_218 (tX11_isVerdict eh2) rfl (by decide) rfl (Nat.le_of_ble_eq_true rfl) (Nat.le_of_ble_eq_true rfl) rfl dX11_sayers_18 rfl rfl ?_
    refine V.if_ne (q := 24) (tgt := 30) dX11_sayers_21 rfl (by decide) (fun c => ?_) (fun c => ?_)
    · rw [if_neg c] at hf
      refine V.aload_n (q := 31) rfl dX11_sayers_30 rfl rfl ?_
      refine V.aload_n (q := 32) rfl dX11_sayers_31 rfl rfl ?_
      obtain ⟨b5, eb5, hf⟩ := bd_ex hf
      refine V.getR (q := 35) flX11_28 rfl eb5 dX11_sayers_32 rfl ?_
      refine V.aload_n (q := 36) rfl dX11_sayers_35 rfl rfl ?_
      obtain ⟨b6, eb6, hf⟩ := bd_ex hf
      refine V.getR (q := 39) flX11_28 rfl eb6 dX11_sayers_36 rfl ?_
      obtain ⟨b7, eb7, hf⟩ := bd_ex hf
      refine V.getR (q := 42) flX11_137 rfl eb7 dX11_sayers_39 rfl ?_
      refine V.iload_n (q := 43) rfl dX11_sayers_42 rfl rfl ?_
      obtain ⟨_, e8, hf⟩ := bd_ex hf
      obtain ⟨v9, h3, eh3, hf⟩ := bd2_ex hf
      refine V.callV (q := 46) (ci := 4) (vs := [.int x1]) (st := [.ref b5, .ref a0]) (S2 := [.int v9, .ref b5, .ref a0]) okX4_marksOf imX4_marksOf seX4_marksOf rfl lkX11_141 (tX4_marksOf eh3) rfl (ck_is e8) (by decide) rfl (Nat.le_of_ble_eq_true rfl) (Nat.le_of_ble_eq_true rfl) rfl dX11_sayers_43 rfl rfl ?_
      refine V.iload_n (q := 47) rfl dX11_sayers_46 rfl rfl ?_
      obtain ⟨_, e10, hf⟩ := bd_ex hf
      obtain ⟨v11, h4, eh4, hf⟩ := bd2_ex hf
      refine V.callV (q := 50) (ci := 5) (vs := [.int v9, .int x2]) (st := [.ref a0]) (S2 := [.int v11, .ref a0]) okX5_stampsThatSay imX5_stampsThatSay seX5_stampsThatSay rfl lkX11_221 (tX5_stampsThatSay eh4) rfl (ck_is e10) (by decide) rfl (Nat.le_of_ble_eq_true rfl) (Nat.le_of_ble_eq_true rfl) rfl dX11_sayers_47 rfl rfl ?_
      obtain ⟨_, e12, hf⟩ := bd_ex hf
      obtain ⟨v13, h5, eh5, hf⟩ := bd2_ex hf
      refine V.callV (q := 53) (ci := 11) (vs := [.int v11]) (st := []) (S2 := [.int v13]) okX11_answer imX11_answer seX11_answer rfl lkX11_127 (tX11_answer eh5) rfl (ck_is e12) (by decide) rfl (Nat.le_of_ble_eq_true rfl) (Nat.le_of_ble_eq_true rfl) rfl dX11_sayers_50 rfl rfl ?_
      obtain ⟨rfl, rfl⟩ := ret_inj hf
      exact V.ret (r := some (.int v13)) trivial dX11_sayers_53
    · rw [if_pos c] at hf
      refine V.aload_n (q := 25) rfl dX11_sayers_24 rfl rfl ?_
      refine V.iconst (q := 26) (v := 2) (by decide) dX11_sayers_25 rfl ?_
      obtain ⟨_, e5, hf⟩ := bd_ex hf
      obtain ⟨v6, h3, eh3, hf⟩ := bd2_ex hf
      refine V.callV (q := 29) (ci := 11) (vs := [.int 2]) (st := []) (S2 := [.int v6]) okX11_refuse imX11_refuse seX11_refuse rfl lkX11_101 (tX11_refuse eh3) rfl (ck_is e5) (by decide) rfl (Nat.le_of_ble_eq_true rfl) (Nat.le_of_ble_eq_true rfl) rfl dX11_sayers_26 rfl rfl ?_
      obtain ⟨rfl, rfl⟩ := ret_inj hf
      exact V.ret (r := some (.int v6)) trivial dX11_sayers_29
  · rw [if_pos c] at hf
    refine V.aload_n (q := 12) rfl dX11_sayers_11 rfl rfl ?_
    refine V.iconst (q := 13) (v := 1) (by decide) dX11_sayers_12 rfl ?_
    obtain ⟨_, e4, hf⟩ := bd_ex hf
    obtain ⟨v5, h2, eh2, hf⟩ := bd2_ex hf
    refine V.callV (q := 16) (ci := 11) (vs := [.int 1]) (st := []) (S2 := [.int v5]) okX11_refuse imX11_refuse seX11_refuse rfl lkX11_101 (tX11_refuse eh2) rfl (ck_is e4) (by decide) rfl (Nat.le_of_ble_eq_true rfl) (Nat.le_of_ble_eq_true rfl) rfl dX11_sayers_13 rfl rfl ?_
    obtain ⟨rfl, rfl⟩ := ret_inj hf
    exact V.ret (r := some (.int v5)) trivial dX11_sayers_16
