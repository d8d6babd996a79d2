def bX13_packed_4 (k4 : MH → Nat → Int64 → Int32 → Option (Int64 × MH)) (h : MH) (t0 : Nat) (y1 : Int64) (x3 : Int32) : Option (Int64 × MH) := bd (tkc t0) fun _ => bd (fJ0_length_8abf5 t0 ) fun v1 => if v1 ≤ x3 then (some (y1, h)) else (bd (fJ0_charAt_5068e t0 x3) fun v2 => bd (some ((32 * y1) + (Int32.toInt64 ((v2 - 97) + 1)))) fun w3 => bd (some (x3 + 1)) fun v4 => k4 h t0 w3 v4)
set_option maxRecDepth 20000 in
theorem tX13_packed_4 {r : Int64} {h' : MH} (k4 : MH → Nat → Int64 → Int32 → Option (Int64 × MH)) (hk4 : ∀ (h : MH) (t0 : Nat) (y1 : Int64) (x3 : Int32), k4 h t0 y1 x3 = some (r, h') → V TT mX13_packed 4 (some (.long r)) h' h 4 [.retAddr t0, .long y1, Jk, .int x3] [])  {h : MH} {t0 : Nat} {y1 : Int64} {x3 : Int32} (hf : bX13_packed_4 k4 h t0 y1 x3 = some (r, h')) : V TT mX13_packed 4 (some (.long r)) h' h 4 [.retAddr t0, .long y1, Jk, .int x3] [] := by
  unfold bX13_packed_4 at hf
  obtain ⟨_, et_t0, hf⟩ := bd_ex hf
  have ht_t0 := tkc_is et_t0
  refine V.iload_n (q := 5) rfl dX13_packed_4 rfl rfl ?_
  refine V.aloadT_n (q := 6) rfl (tk_ne ht_t0) (tk_ad ht_t0) dX13_packed_5 rfl rfl ?_
  obtain ⟨v1, ev1, hf⟩ := bd_ex hf
  refine V.callVT (q := 9) (vs := []) (st := [.int x3]) (S2 := [.int v1, .int x3]) ht_t0 okJ0_length_8abf5 imJ0_length_8abf5 seJ0_length_8abf5 rfl lkX13_68 (tJ0_length_8abf5 ev1) rfl (by decide) rfl (Nat.le_of_ble_eq_true rfl) (Nat.le_of_ble_eq_true rfl) rfl dX13_packed_6 rfl rfl ?_
  refine V.icmp_ge (q := 12) (tgt := 36) dX13_packed_9 rfl (by decide) (fun c => ?_) (fun c => ?_)
  · rw [if_pos c] at hf
    refine V.lload_n (q := 37) rfl dX13_packed_36 rfl rfl ?_
    obtain ⟨rfl, rfl⟩ := ret_inj hf
    exact V.ret (r := some (.long y1)) trivial dX13_packed_37
  · rw [if_neg c] at hf
    refine V.ldc2 (q := 15) kcX13_74 dX13_packed_12 rfl ?_
    refine V.lload_n (q := 16) rfl dX13_packed_15 rfl rfl ?_
    refine V.lmul (q := 17) dX13_packed_16 rfl ?_
    refine V.aloadT_n (q := 18) rfl (tk_ne ht_t0) (tk_ad ht_t0) dX13_packed_17 rfl rfl ?_
    refine V.iload_n (q := 19) rfl dX13_packed_18 rfl rfl ?_
    obtain ⟨v2, ev2, hf⟩ := bd_ex hf
    refine V.callVT (q := 22) (vs := [.int x3]) (st := [.long (32 * y1)]) (S2 := [.int v2, .long (32 * y1)]) ht_t0 okJ0_charAt_5068e imJ0_charAt_5068e seJ0_charAt_5068e rfl lkX13_76 (tJ0_charAt_5068e ev2) rfl (by decide) rfl (Nat.le_of_ble_eq_true rfl) (Nat.le_of_ble_eq_true rfl) rfl dX13_packed_19 rfl rfl ?_
    refine V.bipush (q := 24) (v := 97) (by decide) dX13_packed_22 rfl ?_
    refine V.isub (q := 25) dX13_packed_24 rfl ?_
    refine V.iconst (q := 26) (v := 1) (by decide) dX13_packed_25 rfl ?_
    refine V.iadd (q := 27) dX13_packed_26 rfl ?_
    refine V.i2l (q := 28) dX13_packed_27 rfl ?_
    refine V.ladd (q := 29) dX13_packed_28 rfl ?_
    obtain ⟨w3, ew3, hf⟩ := bd_ex hf
    refine V.topL (Option.some.inj ew3) ?_
    refine V.lstore_n (q := 30) (L' := [.retAddr t0, .long w3, Jk, .int x3]) rfl dX13_packed_29 rfl (by decide) rfl rfl ?_
    obtain ⟨v4, ev4, hf⟩ := bd_ex hf
    refine V.iinc (q := 33) (v := v4) (L' := [.retAddr t0, .long w3, Jk, .int v4]) dX13_packed_30 rfl rfl (Option.some.inj ev4) (by decide) rfl rfl ?_
    refine V.goto (q := 4) dX13_packed_33 (by decide) ?_
    exact hk4 _ _ _ _ hf
def fX13_packed_4  : Nat → MH → Nat → Int64 → Int32 → Option (Int64 × MH)
  | 0 => fun _ _ _ _ => none
  | n + 1 => bX13_packed_4  (fX13_packed_4  n)
theorem tlX13_packed_4 {r : Int64} {h' : MH}   : ∀ (n : Nat) (h : MH) (t0 : Nat) (y1 : Int64) (x3 : Int32), fX13_packed_4  n h t0 y1 x3 = some (r, h') → V TT mX13_packed 4 (some (.long r)) h' h 4 [.retAddr t0, .long y1, Jk, .int x3] [] := by
  intro n
  induction n with
  | zero => intro h t0 y1 x3 hf; exact nomatch (show (none : Option (Int64 × MH)) = some (r, h') from hf)
  | succ n ih => intro h t0 y1 x3 hf; exact tX13_packed_4  (fX13_packed_4  n) ih hf
def fX13_packed (h : MH) (t0 : Nat) : Option (Int64 × MH) := bd (tkc t0) fun _ => fX13_packed_4 FU h t0 0 0
set_option maxRecDepth 20000 in
theorem tX13_packed {r : Int64} {h' : MH} {h : MH} {t0 : Nat} (hf : fX13_packed h t0 = some (r, h')) : VM mX13_packed 4 (some (.long r)) h' h [.retAddr t0] := by
  show V TT mX13_packed 4 _ h' h 0 [.retAddr t0, Jk, Jk, Jk] []
  unfold fX13_packed at hf
  obtain ⟨_, et_t0, hf⟩ := bd_ex hf
  have ht_t0 := tkc_is et_t0
  refine V.lconst (q := 1) (v := 0) (by decide) dX13_packed_0 rfl ?_
  refine V.lstore_n (q := 2) (L' := [.retAddr t0, .long 0, Jk, Jk]) rfl dX13_packed_1 rfl (by decide) rfl rfl ?_
  refine V.iconst (q := 3) (v := 0) (by decide) dX13_packed_2 rfl ?_
  refine V.istore_n (q := 4) (L' := [.retAddr t0, .long 0, Jk, .int 0]) rfl dX13_packed_3 rfl (by decide) rfl rfl ?_
  exact tlX13_packed_4  FU _ _ _ _ hf
def fX13_isWord (h : MH) (a0 : Nat) (t1 : Nat) : Option (Int32 × MH) := bd (tkc t1) fun _ => bd (gI h a0 13 9) fun v1 => if v1 = 2 then (bd (gJ h a0 13 14) fun w2 => bd2 (fX13_packed h t1) fun w3 h1 => if (lg_cmp w2 w3) = 0 then (some (1, h1)) else (some (0, h1))) else (some (0, h))
set_option maxRecDepth 20000 in
theorem tX13_isWord {r : Int32} {h' : MH} {h : MH} {a0 : Nat} {t1 : Nat} (hf : fX13_isWord h a0 t1 = some (r, h')) : VM mX13_isWord 5 (some (.int r)) h' h [.ref a0, .retAddr t1] := by
  show V TT mX13_isWord 5 _ h' h 0 [.ref a0, .retAddr t1] []
  unfold fX13_isWord at hf
  obtain ⟨_, et_t1, hf⟩ := bd_ex hf
  have ht_t1 := tkc_is et_t1
  refine V.aload_n (q := 1) rfl dX13_isWord_0 rfl rfl ?_
  obtain ⟨v1, ev1, hf⟩ := bd_ex hf
  refine V.getI (q := 4) flX13_80 rfl ev1 dX13_isWord_1 rfl ?_
  refine V.iconst (q := 5) (v := 2) (by decide) dX13_isWord_4 rfl ?_
  refine V.icmp_ne (q := 8) (tgt := 24) dX13_isWord_5 rfl (by decide) (fun c => ?_) (fun c => ?_)
  · rw [if_neg c] at hf
    refine V.iconst (q := 25) (v := 0) (by decide) dX13_isWord_24 rfl ?_
    obtain ⟨rfl, rfl⟩ := ret_inj hf
    exact V.ret (r := some (.int 0)) (Or.inl rfl) dX13_isWord_25
  · rw [if_pos c] at hf
    refine V.aload_n (q := 9) rfl dX13_isWord_8 rfl rfl ?_
    obtain ⟨w2, ew2, hf⟩ := bd_ex hf
    refine V.getJ (q := 12) flX13_96 rfl ew2 dX13_isWord_9 rfl ?_
    refine V.aloadT_n (q := 13) rfl (tk_ne ht_t1) (tk_ad ht_t1) dX13_isWord_12 rfl rfl ?_
    obtain ⟨w3, h1, eh1, hf⟩ := bd2_ex hf
    refine V.callS (q := 16) (vs := [.retAddr t1]) (st := [.long w2]) (S2 := [.long w3, .long w2]) okX13_packed stX13_packed lkX13_112 (tX13_packed eh1) rfl (by decide) rfl (Nat.le_of_ble_eq_true rfl) (Nat.le_of_ble_eq_true rfl) rfl dX13_isWord_13 rfl rfl ?_
    refine V.lcmp (q := 17) dX13_isWord_16 rfl ?_
    refine V.if_ne (q := 20) (tgt := 24) dX13_isWord_17 rfl (by decide) (fun c => ?_) (fun c => ?_)
    · rw [if_neg c] at hf
      refine V.iconst (q := 25) (v := 0) (by decide) dX13_isWord_24 rfl ?_
      obtain ⟨rfl, rfl⟩ := ret_inj hf
      exact V.ret (r := some (.int 0)) (Or.inl rfl) dX13_isWord_25
    · rw [if_pos c] at hf
      refine V.iconst (q := 21) (v := 1) (by decide) dX13_isWord_20 rfl ?_
      refine V.goto (q := 25) dX13_isWord_21 (by decide) ?_
      obtain ⟨rfl, rfl⟩ := ret_inj hf
      exact V.ret (r := some (.int 1)) (Or.inr rfl) dX13_isWord_25
def fX13_isName (h : MH) (a0 : Nat) : Option (Int32 × MH) := bd (gI h a0 13 9) fun v1 => if v1 = 2 then (bd (ck h a0 13) fun _ => bd2 (fX13_isWord h a0 5) fun v3 h1 => if v3 = 0 then (bd (ck h1 a0 13) fun _ => bd2 (fX13_isWord h1 a0 7) fun v5 h2 => if v5 = 0 then (bd (ck h2 a0 13) fun _ => bd2 (fX13_isWord h2 a0 8) fun v7 h3 => if v7 = 0 then (bd (ck h3 a0 13) fun _ => bd2 (fX13_isWord h3 a0 9) fun v9 h4 => if v9 = 0 then (bd (ck h4 a0 13) fun _ => bd2 (fX13_isWord h4 a0 10) fun v11 h5 => if v11 = 0 then (bd (ck h5 a0 13) fun _ => bd2 (fX13_isWord h5 a0 11) fun v13 h6 => if v13 = 0 then (bd (ck h6 a0 13) fun _ => bd2 (fX13_isWord h6 a0 12) fun v15 h7 => if v15 = 0 then (bd (ck h7 a0 13) fun _ => bd2 (fX13_isWord h7 a0 13) fun v17 h8 => if v17 = 0 then (bd (ck h8 a0 13) fun _ => bd2 (fX13_isWord h8 a0 14) fun v19 h9 => if v19 = 0 then (some (1, h9)) else (some (0, h9))) else (some (0, h8))) else (some (0, h7))) else (some (0, h6))) else (some (0, h5))) else (some (0, h4))) else (some (0, h3))) else (some (0, h2))) else (some (0, h1))) else (some (0, h))
set_option maxRecDepth 20000 in
theorem tX13_isName {r : Int32} {h' : MH} {h : MH} {a0 : Nat} (hf : fX13_isName h a0 = some (r, h')) : VM mX13_isName 6 (some (.int r)) h' h [.ref a0] := by
  show V TT mX13_isName 6 _ h' h 0 [.ref a0] []
  unfold fX13_isName at hf
  refine V.aload_n (q := 1) rfl dX13_isName_0 rfl rfl ?_
  obtain ⟨v1, ev1, hf⟩ := bd_ex hf
  refine V.getI (q := 4) flX13_80 rfl ev1 dX13_isName_1 rfl ?_
  refine V.iconst (q := 5) (v := 2) (by decide) dX13_isName_4 rfl ?_
  refine V.icmp_ne (q := 8) (tgt := 53) dX13_isName_5 rfl (by decide) (fun c => ?_) (fun c => ?_)
  · rw [if_neg c] at hf
    refine V.iconst (q := 54) (v := 0) (by decide) dX13_isName_53 rfl ?_
    obtain ⟨rfl, rfl⟩ := ret_inj hf
    exact V.ret (r := some (.int 0)) (Or.inl rfl) dX13_isName_54
  · rw [if_pos c] at hf
    refine V.aload_n (q := 9) rfl dX13_isName_8 rfl rfl ?_
    refine V.ldcS (q := 11) (i := 5) rfl dX13_isName_9 rfl ?_
    obtain ⟨_, e2, hf⟩ := bd_ex hf
    obtain ⟨v3, h1, eh1, hf⟩ := bd2_ex hf
    refine V.callV (q := 14) (ci := 13) (vs := [.retAddr 5]) (st := []) (S2 := [.int v3]) okX13_isWord imX13_isWord seX13_isWord rfl lkX13_119 (tX13_isWord eh1) rfl (ck_is e2) (by decide) rfl (Nat.le_of_ble_eq_true rfl) (Nat.le_of_ble_eq_true rfl) rfl dX13_isName_11 rfl rfl ?_
    refine V.if_ne (q := 17) (tgt := 53) dX13_isName_14 rfl (by decide) (fun c => ?_) (fun c => ?_)
    · rw [if_neg c] at hf
      refine V.iconst (q := 54) (v := 0) (by decide) dX13_isName_53 rfl ?_
      obtain ⟨rfl, rfl⟩ := ret_inj hf
      exact V.ret (r := some (.int 0)) (Or.inl rfl) dX13_isName_54
    · rw [if_pos c] at hf
      refine V.aload_n (q := 18) rfl dX13_isName_17 rfl rfl ?_
      refine V.ldcS (q := 20) (i := 7) rfl dX13_isName_18 rfl ?_
      obtain ⟨_, e4, hf⟩ := bd_ex hf
      obtain ⟨v5, h2, eh2, hf⟩ := bd2_ex hf
      refine V.callV (q := 23) (ci := 13) (vs := [.retAddr 7]) (st := []) (S2 := [.int v5]) okX13_isWord imX13_isWord seX13_isWord rfl lkX13_119 (tX13_isWord eh2) rfl (ck_is e4) (by decide) rfl (Nat.le_of_ble_eq_true rfl) (Nat.le_of_ble_eq_true rfl) rfl dX13_isName_20 rfl rfl ?_
      refine V.if_ne (q := 26) (tgt := 53) dX13_isName_23 rfl (by decide) (fun c => ?_) (fun c => ?_)
      · rw [if_neg c] at hf
        refine V.iconst (q := 54) (v := 0) (by decide) dX13_isName_53 rfl ?_
        obtain ⟨rfl, rfl⟩ := ret_inj hf
        exact V.ret (r := some (.int 0)) (Or.inl rfl) dX13_isName_54
      · rw [if_pos c] at hf
        refine V.aload_n (q := 27) rfl dX13_isName_26 rfl rfl ?_
        refine V.ldcS (q := 29) (i := 8) rfl dX13_isName_27 rfl ?_
        obtain ⟨_, e6, hf⟩ := bd_ex hf
        obtain ⟨v7, h3, eh3, hf⟩ := bd2_ex hf
        refine V.callV (q := 32) (ci := 13) (vs := [.retAddr 8]) (st := []) (S2 := [.int v7]) okX13_isWord imX13_isWord seX13_isWord rfl lkX13_119 (tX13_isWord eh3) rfl (ck_is e6) (by decide) rfl (Nat.le_of_ble_eq_true rfl) (Nat.le_of_ble_eq_true rfl) rfl dX13_isName_29 rfl rfl ?_
        refine V.if_ne (q := 35) (tgt := 53) dX13_isName_32 rfl (by decide) (fun c => ?_) (fun c => ?_)
        · rw [if_neg c] at hf
          refine V.iconst (q := 54) (v := 0) (by decide) dX13_isName_53 rfl ?_
          obtain ⟨rfl, rfl⟩ := ret_inj hf
          exact V.ret (r := some (.int 0)) (Or.inl rfl) dX13_isName_54
        · rw [if_pos c] at hf
          refine V.aload_n (q := 36) rfl dX13_isName_35 rfl rfl ?_
          refine V.ldcS (q := 38) (i := 9) rfl dX13_isName_36 rfl ?_
          obtain ⟨_, e8, hf⟩ := bd_ex hf
          obtain ⟨v9, h4, eh4, hf⟩ := bd2_ex hf
          refine V.callV (q := 41) (ci := 13) (vs := [.retAddr 9]) (st := []) (S2 := [.int v9]) okX13_isWord imX13_isWord seX13_isWord rfl lkX13_119 (tX13_isWord eh4) rfl (ck_is e8) (by decide) rfl (Nat.le_of_ble_eq_true rfl) (Nat.le_of_ble_eq_true rfl) rfl dX13_isName_38 rfl rfl ?_
          refine V.if_ne (q := 44) (tgt := 53) dX13_isName_41 rfl (by decide) (fun c => ?_) (fun c => ?_)
          · rw [if_neg c] at hf
            refine V.iconst (q := 54) (v := 0) (by decide) dX13_isName_53 rfl ?_
            obtain ⟨rfl, rfl⟩ := ret_inj hf
            exact V.ret (r := some (.int 0)) (Or.inl rfl) dX13_isName_54
          · rw [if_pos c] at hf
            refine V.aload_n (q := 45) rfl dX13_isName_44 rfl rfl ?_
            refine V.ldcS (q := 47) (i := 10) rfl dX13_isName_45 rfl ?_
            obtain ⟨_, e10, hf⟩ := bd_ex hf
            obtain ⟨v11, h5, eh5, hf⟩ := bd2_ex hf
            refine V.callV (q := 50) (ci := 13) (vs := [.retAddr 10]) (st := []) (S2 := [.int v11]) okX13_isWord imX13_isWord seX13_isWord rfl lkX13_119 (tX13_isWord eh5) rfl (ck_is e10) (by decide) rfl (Nat.le_of_ble_eq_true rfl) (Nat.le_of_ble_eq_true rfl) rfl dX13_isName_47 rfl rfl ?_
            refine V.if_eq (q := 53) (tgt := 55) dX13_isName_50 rfl (by decide) (fun c => ?_) (fun c => ?_)
            · rw [if_pos c] at hf
              refine V.aload_n (q := 56) rfl dX13_isName_55 rfl rfl ?_
              refine V.ldcS (q := 58) (i := 11) rfl dX13_isName_56 rfl ?_
              obtain ⟨_, e12, hf⟩ := bd_ex hf
              obtain ⟨v13, h6, eh6, hf⟩ := bd2_ex hf
              refine V.callV (q := 61) (ci := 13) (vs := [.retAddr 11]) (st := []) (S2 := [.int v13]) okX13_isWord imX13_isWord seX13_isWord rfl lkX13_119 (tX13_isWord eh6) rfl (ck_is e12) (by decide) rfl (Nat.le_of_ble_eq_true rfl) (Nat.le_of_ble_eq_true rfl) rfl dX13_isName_58 rfl rfl ?_
              refine V.if_ne (q := 64) (tgt := 95) dX13_isName_61 rfl (by decide) (fun c => ?_) (fun c => ?_)
              · rw [if_neg c] at hf
                refine V.iconst (q := 96) (v := 0) (by decide) dX13_isName_95 rfl ?_
                obtain ⟨rfl, rfl⟩ := ret_inj hf
                exact V.ret (r := some (.int 0)) (Or.inl rfl) dX13_isName_96
              · rw [if_pos c] at hf
                refine V.aload_n (q := 65) rfl dX13_isName_64 rfl rfl ?_
                refine V.ldcS (q := 67) (i := 12) rfl dX13_isName_65 rfl ?_
                obtain ⟨_, e14, hf⟩ := bd_ex hf
                obtain ⟨v15, h7, eh7, hf⟩ := bd2_ex hf
                refine V.callV (q := 70) (ci := 13) (vs := [.retAddr 12]) (st := []) (S2 := [.int v15]) okX13_isWord imX13_isWord seX13_isWord rfl lkX13_119 (tX13_isWord eh7) rfl (ck_is e14) (by decide) rfl (Nat.le_of_ble_eq_true rfl) (Nat.le_of_ble_eq_true rfl) rfl dX13_isName_67 rfl rfl ?_
                refine V.if_ne (q := 73) (tgt := 95) dX13_isName_70 rfl (by decide) (fun c => ?_) (fun c => ?_)
                · rw [if_neg c] at hf
                  refine V.iconst (q := 96) (v := 0) (by decide) dX13_isName_95 rfl ?_
                  obtain ⟨rfl, rfl⟩ := ret_inj hf
                  exact V.ret (r := some (.int 0)) (Or.inl rfl) dX13_isName_96
                · rw [if_pos c] at hf
                  refine V.aload_n (q := 74) rfl dX13_isName_73 rfl rfl ?_
                  refine V.ldcS (q := 76) (i := 13) rfl dX13_isName_74 rfl ?_
                  obtain ⟨_, e16, hf⟩ := bd_ex hf
                  obtain ⟨v17, h8, eh8, hf⟩ := bd2_ex hf
                  refine V.callV (q := 79) (ci := 13) (vs := [.retAddr 13]) (st := []) (S2 := [.int v17]) okX13_isWord imX13_isWord seX13_isWord rfl lkX13_119 (tX13_isWord eh8) rfl (ck_is e16) (by decide) rfl (Nat.le_of_ble_eq_true rfl) (Nat.le_of_ble_eq_true rfl) rfl dX13_isName_76 rfl rfl ?_
                  refine V.if_ne (q := 82) (tgt := 95) dX13_isName_79 rfl (by decide) (fun c => ?_) (fun c => ?_)
                  · rw [if_neg c] at hf
                    refine V.iconst (q := 96) (v := 0) (by decide) dX13_isName_95 rfl ?_
                    obtain ⟨rfl, rfl⟩ := ret_inj hf
                    exact V.ret (r := some (.int 0)) (Or.inl rfl) dX13_isName_96
                  · rw [if_pos c] at hf
                    refine V.aload_n (q := 83) rfl dX13_isName_82 rfl rfl ?_
                    refine V.ldcS (q := 85) (i := 14) rfl dX13_isName_83 rfl ?_
                    obtain ⟨_, e18, hf⟩ := bd_ex hf
                    obtain ⟨v19, h9, eh9, hf⟩ := bd2_ex hf
                    refine V.callV (q := 88) (ci := 13) (vs := [.retAddr 14]) (st := []) (S2 := [.int v19]) okX13_isWord imX13_isWord seX13_isWord rfl lkX13_119 (tX13_isWord eh9) rfl (ck_is e18) (by decide) rfl (Nat.le_of_ble_eq_true rfl) (Nat.le_of_ble_eq_true rfl) rfl dX13_isName_85 rfl rfl ?_
                    refine V.if_ne (q := 91) (tgt := 95) dX13_isName_88 rfl (by decide) (fun c => ?_) (fun c => ?_)
                    · rw [if_neg c] at hf
                      refine V.iconst (q := 96) (v := 0) (by decide) dX13_isName_95 rfl ?_
                      obtain ⟨rfl, rfl⟩ := ret_inj hf
                      exact V.ret (r := some (.int 0)) (Or.inl rfl) dX13_isName_96
                    · rw [if_pos c] at hf
                      refine V.iconst (q := 92) (v := 1) (by decide) dX13_isName_91 rfl ?_
                      refine V.goto (q := 96) dX13_isName_92 (by decide) ?_
                      obtain ⟨rfl, rfl⟩ := ret_inj hf
                      exact V.ret (r := some (.int 1)) (Or.inr rfl) dX13_isName_96
            · rw [if_neg c] at hf
              refine V.iconst (q := 54) (v := 0) (by decide) dX13_isName_53 rfl ?_
              obtain ⟨rfl, rfl⟩ := ret_inj hf
              exact V.ret (r := some (.int 0)) (Or.inl rfl) dX13_isName_54
def fX13_judges (h : MH) (a0 : Nat) (x1 : Int32) (x2 : Int32) : Option (Int32 × MH) := bd (pI h a0 13 0 0) fun h1 => bd (ck h1 a0 13) fun _ => bd2 (fX13_isStamp h1 a0 x1) fun v2 h2 => if v2 = 0 then (bd (ck h2 a0 13) fun _ => bd2 (fX13_refused h2 a0 1) fun v4 h3 => some (v4, h3)) else (bd (ck h2 a0 13) fun _ => bd2 (fX13_isStamp h2 a0 x2) fun v4 h3 => if v4 = 0 then (bd (ck h3 a0 13) fun _ => bd2 (fX13_refused h3 a0 1) fun v6 h4 => some (v6, h4)) else (if x1 = x2 then (bd (ck h3 a0 13) fun _ => bd2 (fX13_refused h3 a0 1) fun v6 h4 => some (v6, h4)) else (bd (gR h3 a0 13 3) fun b5 => bd (gR h3 b5 12 14) fun b6 => bd (lI h3 b6 x2) fun v7 => bd (ck h3 a0 13) fun _ => bd2 (fX13_saysBy h3 a0 x1 v7) fun v9 h4 => bd (ck h4 a0 13) fun _ => bd2 (fX13_good1 h4 a0 v9) fun v11 h5 => some (v11, h5))))
set_option maxRecDepth 20000 in
theorem tX13_judges {r : Int32} {h' : MH} {h : MH} {a0 : Nat} {x1 : Int32} {x2 : Int32} (hf : fX13_judges h a0 x1 x2 = some (r, h')) : VM mX13_judges 3 (some (.int r)) h' h [.ref a0, .int x1, .int x2] := by
  show V TT mX13_judges 3 _ h' h 0 [.ref a0, .int x1, .int x2] []
  unfold fX13_judges at hf
  refine V.aload_n (q := 1) rfl dX13_judges_0 rfl rfl ?_
  refine V.iconst (q := 2) (v := 0) (by decide) dX13_judges_1 rfl ?_
  obtain ⟨h1, eh1, hf⟩ := bd_ex hf
  refine V.putI (q := 5) (fpX13_48 rfl) rfl eh1 dX13_judges_2 rfl ?_
  refine V.aload_n (q := 6) rfl dX13_judges_5 rfl rfl ?_
  refine V.iload_n (q := 7) rfl dX13_judges_6 rfl rfl ?_
  obtain ⟨_, e1, hf⟩ := bd_ex hf
  obtain ⟨v2, h2, eh2, hf⟩ := bd2_ex hf
  refine V.callV (q := 10) (ci := 13) (vs := [.int x1]) (st := []) (S2 := [.int v2]) okX13_isStamp imX13_isStamp seX13_isStamp rfl lkX13_358 (tX13_isStamp eh2) rfl (ck_is e1) (by decide) rfl (Nat.le_of_ble_eq_true rfl) (Nat.le_of_ble_eq_true rfl) rfl dX13_judges_7 rfl rfl ?_
  refine V.if_eq (q := 13) (tgt := 26) dX13_judges_10 rfl (by decide) (fun c => ?_) (fun c => ?_)
  · rw [if_pos c] at hf
    refine V.aload_n (q := 27) rfl dX13_judges_26 rfl rfl ?_
    refine V.iconst (q := 28) (v := 1) (by decide) dX13_judges_27 rfl ?_
    obtain ⟨_, e3, hf⟩ := bd_ex hf
    obtain ⟨v4, h3, eh3, hf⟩ := bd2_ex hf
    refine V.callV (q := 31) (ci := 13) (vs := [.int 1]) (st := []) (S2 := [.int v4]) okX13_refused imX13_refused seX13_refused rfl lkX13_54 (tX13_refused eh3) rfl (ck_is e3) (by decide) rfl (Nat.le_of_ble_eq_true rfl) (Nat.le_of_ble_eq_true rfl) rfl dX13_judges_28 rfl rfl ?_
    obtain ⟨rfl, rfl⟩ := ret_inj hf
    exact V.ret (r := some (.int v4)) trivial dX13_judges_31
  · rw [if_neg c] at hf
    refine V.aload_n (q := 14) rfl dX13_judges_13 rfl rfl ?_
    refine V.iload_n (q := 15) rfl dX13_judges_14 rfl rfl ?_
    obtain ⟨_, e3, hf⟩ := bd_ex hf
    obtain ⟨v4, h3, eh3, hf⟩ := bd2_ex hf
    refine V.callV (q := 18) (ci := 13) (vs := [.int x2]) (st := []) (S2 := [.int v4]) okX13_isStamp imX13_isStamp seX13_isStamp rfl lkX13_358 (tX13_isStamp eh3) rfl (ck_is e3) (by decide) rfl (Nat.le_of_ble_eq_true rfl) (Nat.le_of_ble_eq_true rfl) rfl dX13_judges_15 rfl rfl ?_
    refine V.if_eq (q := 21) (tgt := 26) dX13_judges_18 rfl (by decide) (fun c => ?_) (fun c => ?_)
    · rw [if_pos c] at hf
      refine V.aload_n (q := 27) rfl dX13_judges_26 rfl rfl ?_
      refine V.iconst (q := 28) (v := 1) (by decide) dX13_judges_27 rfl ?_
      obtain ⟨_, e5, hf⟩ := bd_ex hf
      obtain ⟨v6, h4, eh4, hf⟩ := bd2_ex hf
      refine V.callV (q := 31) (ci := 13) (vs := [.int 1]) (st := []) (S2 := [.int v6]) okX13_refused imX13_refused seX13_refused rfl lkX13_54 (tX13_refused eh4) rfl (ck_is e5) (by decide) rfl (Nat.le_of_ble_eq_true rfl) (Nat.le_of_ble_eq_true rfl) rfl dX13_judges_28 rfl rfl ?_
      obtain ⟨rfl, rfl⟩ := ret_inj hf
      exact V.ret (r := some (.int v6)) trivial dX13_judges_31
    · rw [if_neg c] at hf
      refine V.iload_n (q := 22) rfl dX13_judges_21 rfl rfl ?_
      refine V.iload_n (q := 23) rfl dX13_judges_22 rfl rfl ?_
      refine V.icmp_ne (q := 26) (tgt := 32) dX13_judges_23 rfl (by decide) (fun c => ?_) (fun c => ?_)
      · rw [if_neg c] at hf
        refine V.aload_n (q := 33) rfl dX13_judges_32 rfl rfl ?_
        refine V.aload_n (q := 34) rfl dX13_judges_33 rfl rfl ?_
        refine V.iload_n (q := 35) rfl dX13_judges_34 rfl rfl ?_
        refine V.aload_n (q := 36) rfl dX13_judges_35 rfl rfl ?_
        obtain ⟨b5, eb5, hf⟩ := bd_ex hf
        refine V.getR (q := 39) flX13_338 rfl eb5 dX13_judges_36 rfl ?_
        obtain ⟨b6, eb6, hf⟩ := bd_ex hf
        refine V.getR (q := 42) flX13_277 rfl eb6 dX13_judges_39 rfl ?_
        refine V.iload_n (q := 43) rfl dX13_judges_42 rfl rfl ?_
        obtain ⟨v7, ev7, hf⟩ := bd_ex hf
        refine V.iald (q := 44) ev7 dX13_judges_43 rfl ?_
        obtain ⟨_, e8, hf⟩ := bd_ex hf
        obtain ⟨v9, h4, eh4, hf⟩ := bd2_ex hf
        refine V.callV (q := 47) (ci := 13) (vs := [.int x1, .int v7]) (st := [.ref a0]) (S2 := [.int v9, .ref a0]) okX13_saysBy imX13_saysBy seX13_saysBy rfl lkX13_349 (tX13_saysBy eh4) rfl (ck_is e8) (by decide) rfl (Nat.le_of_ble_eq_true rfl) (Nat.le_of_ble_eq_true rfl) rfl dX13_judges_44 rfl rfl ?_
        obtain ⟨_, e10, hf⟩ := bd_ex hf
        obtain ⟨v11, h5, eh5, hf⟩ := bd2_ex hf
        refine V.callV (q := 50) (ci := 13) (vs := [.int v9]) (st := []) (S2 := [.int v11]) okX13_good1 imX13_good1 seX13_good1 rfl lkX13_58 (tX13_good1 eh5) rfl (ck_is e10) (by decide) rfl (Nat.le_of_ble_eq_true rfl) (Nat.le_of_ble_eq_true rfl) rfl dX13_judges_47 rfl rfl ?_
        obtain ⟨rfl, rfl⟩ := ret_inj hf
        exact V.ret (r := some (.int v11)) trivial dX13_judges_50
      · rw [if_pos c] at hf
        refine V.aload_n (q := 27) rfl dX13_judges_26 rfl rfl ?_
        refine V.iconst (q := 28) (v := 1) (by decide) dX13_judges_27 rfl ?_
        obtain ⟨_, e5, hf⟩ := bd_ex hf
        obtain ⟨v6, h4, eh4, hf⟩ := bd2_ex hf
        refine V.callV (q := 31) (ci := 13) (vs := [.int 1]) (st := []) (S2 := [.int v6]) okX13_refused imX13_refused seX13_refused rfl lkX13_54 (tX13_refused eh4) rfl (ck_is e5) (by decide) rfl (Nat.le_of_ble_eq_true rfl) (Nat.le_of_ble_eq_true rfl) rfl dX13_judges_28 rfl rfl ?_
        obtain ⟨rfl, rfl⟩ := ret_inj hf
        exact V.ret (r := some (.int v6)) trivial dX13_judges_31
def bX13_nextPair_2 (k2 : MH → Nat → Int32 → Int32 → Option (Int32 × MH)) (h : MH) (a0 : Nat) (x1 : Int32) (x3 : Int32) : Option (Int32 × MH) := bd (ck h a0 13) fun _ => bd2 (fX13_pairsMany h a0 ) fun v2 h1 => if v2 ≤ x3 then (some (x3, h1)) else (bd (ck h1 a0 13) fun _ => bd2 (fX13_canBe h1 a0 x1 x3) fun v4 h2 => if v4 = 0 then (bd (some (x3 + 1)) fun v5 => k2 h2 a0 x1 v5) else (some (x3, h2)))
set_option maxRecDepth 20000 in
theorem tX13_nextPair_2 {r : Int32} {h' : MH} (k2 : MH → Nat → Int32 → Int32 → Option (Int32 × MH)) (hk2 : ∀ (h : MH) (a0 : Nat) (x1 : Int32) (x3 : Int32), k2 h a0 x1 x3 = some (r, h') → V TT mX13_nextPair 5 (some (.int r)) h' h 2 [.ref a0, .int x1, Jk, .int x3] [])  {h : MH} {a0 : Nat} {x1 : Int32} {x3 : Int32} (hf : bX13_nextPair_2 k2 h a0 x1 x3 = some (r, h')) : V TT mX13_nextPair 5 (some (.int r)) h' h 2 [.ref a0, .int x1, Jk, .int x3] [] := by
  unfold bX13_nextPair_2 at hf
  refine V.iload_n (q := 3) rfl dX13_nextPair_2 rfl rfl ?_
  refine V.aload_n (q := 4) rfl dX13_nextPair_3 rfl rfl ?_
  obtain ⟨_, e1, hf⟩ := bd_ex hf
  obtain ⟨v2, h1, eh1, hf⟩ := bd2_ex hf
  refine V.callV (q := 7) (ci := 13) (vs := []) (st := [.int x3]) (S2 := [.int v2, .int x3]) okX13_pairsMany imX13_pairsMany seX13_pairsMany rfl lkX13_376 (tX13_pairsMany eh1) rfl (ck_is e1) (by decide) rfl (Nat.le_of_ble_eq_true rfl) (Nat.le_of_ble_eq_true rfl) rfl dX13_nextPair_4 rfl rfl ?_
  refine V.icmp_ge (q := 10) (tgt := 25) dX13_nextPair_7 rfl (by decide) (fun c => ?_) (fun c => ?_)
  · rw [if_pos c] at hf
    refine V.iload_n (q := 26) rfl dX13_nextPair_25 rfl rfl ?_
    obtain ⟨rfl, rfl⟩ := ret_inj hf
    exact V.ret (r := some (.int x3)) trivial dX13_nextPair_26
  · rw [if_neg c] at hf
    refine V.aload_n (q := 11) rfl dX13_nextPair_10 rfl rfl ?_
    refine V.iload_n (q := 12) rfl dX13_nextPair_11 rfl rfl ?_
    refine V.iload_n (q := 13) rfl dX13_nextPair_12 rfl rfl ?_
    obtain ⟨_, e3, hf⟩ := bd_ex hf
    obtain ⟨v4, h2, eh2, hf⟩ := bd2_ex hf
    refine V.callV (q := 16) (ci := 13) (vs := [.int x1, .int x3]) (st := []) (S2 := [.int v4]) okX13_canBe imX13_canBe seX13_canBe rfl lkX13_379 (tX13_canBe eh2) rfl (ck_is e3) (by decide) rfl (Nat.le_of_ble_eq_true rfl) (Nat.le_of_ble_eq_true rfl) rfl dX13_nextPair_13 rfl rfl ?_
    refine V.if_ne (q := 19) (tgt := 25) dX13_nextPair_16 rfl (by decide) (fun c => ?_) (fun c => ?_)
    · rw [if_neg c] at hf
      refine V.iload_n (q := 26) rfl dX13_nextPair_25 rfl rfl ?_
      obtain ⟨rfl, rfl⟩ := ret_inj hf
      exact V.ret (r := some (.int x3)) trivial dX13_nextPair_26
    · rw [if_pos c] at hf
      obtain ⟨v5, ev5, hf⟩ := bd_ex hf
      refine V.iinc (q := 22) (v := v5) (L' := [.ref a0, .int x1, Jk, .int v5]) dX13_nextPair_19 rfl rfl (Option.some.inj ev5) (by decide) rfl rfl ?_
      refine V.goto (q := 2) dX13_nextPair_22 (by decide) ?_
      exact hk2 _ _ _ _ hf
def fX13_nextPair_2  : Nat → MH → Nat → Int32 → Int32 → Option (Int32 × MH)
  | 0 => fun _ _ _ _ => none
  | n + 1 => bX13_nextPair_2  (fX13_nextPair_2  n)
theorem tlX13_nextPair_2 {r : Int32} {h' : MH}   : ∀ (n : Nat) (h : MH) (a0 : Nat) (x1 : Int32) (x3 : Int32), fX13_nextPair_2  n h a0 x1 x3 = some (r, h') → V TT mX13_nextPair 5 (some (.int r)) h' h 2 [.ref a0, .int x1, Jk, .int x3] [] := by
  intro n
  induction n with
  | zero => intro h a0 x1 x3 hf; exact nomatch (show (none : Option (Int32 × MH)) = some (r, h') from hf)
  | succ n ih => intro h a0 x1 x3 hf; exact tX13_nextPair_2  (fX13_nextPair_2  n) ih hf
def fX13_nextPair (h : MH) (a0 : Nat) (x1 : Int32) (x2 : Int32) : Option (Int32 × MH) := fX13_nextPair_2 FU h a0 x1 x2
set_option maxRecDepth 20000 in
theorem tX13_nextPair {r : Int32} {h' : MH} {h : MH} {a0 : Nat} {x1 : Int32} {x2 : Int32} (hf : fX13_nextPair h a0 x1 x2 = some (r, h')) : VM mX13_nextPair 5 (some (.int r)) h' h [.ref a0, .int x1, .int x2] := by
  show V TT mX13_nextPair 5 _ h' h 0 [.ref a0, .int x1, .int x2, Jk] []
  unfold fX13_nextPair at hf
  refine V.iload_n (q := 1) rfl dX13_nextPair_0 rfl rfl ?_
  refine V.istore_n (q := 2) (L' := [.ref a0, .int x1, .int x2, .int x2]) rfl dX13_nextPair_1 rfl (by decide) rfl rfl ?_
  refine V.forget (L' := [.ref a0, .int x1, Jk, .int x2]) ⟨Or.inr rfl, Or.inr rfl, Or.inl rfl, Or.inr rfl, trivial⟩ ?_
  exact tlX13_nextPair_2  FU _ _ _ _ hf
def bX13_wantsFrom_4 (k4 : MH → Nat → Int32 → Int32 → Option (Int32 × MH)) (h : MH) (a0 : Nat) (x2 : Int32) (x3 : Int32) : Option (Int32 × MH) := bd (gR h a0 13 3) fun b1 => bd (gI h b1 12 2) fun v2 => if v2 ≤ x3 then (some (x2, h)) else (bd (gR h a0 13 3) fun b3 => bd (gR h b3 12 11) fun b4 => bd (lI h b4 x3) fun v5 => if v5 = (-2) then (bd (some (x2 + 0)) fun v6 => bd (some (x3 + 1)) fun v7 => k4 h a0 v6 v7) else (bd (some (x2 + 1)) fun v6 => bd (some (x3 + 1)) fun v7 => k4 h a0 v6 v7))
set_option maxRecDepth 20000 in
theorem tX13_wantsFrom_4 {r : Int32} {h' : MH} (k4 : MH → Nat → Int32 → Int32 → Option (Int32 × MH)) (hk4 : ∀ (h : MH) (a0 : Nat) (x2 : Int32) (x3 : Int32), k4 h a0 x2 x3 = some (r, h') → V TT mX13_wantsFrom 0 (some (.int r)) h' h 4 [.ref a0, Jk, .int x2, .int x3] [])  {h : MH} {a0 : Nat} {x2 : Int32} {x3 : Int32} (hf : bX13_wantsFrom_4 k4 h a0 x2 x3 = some (r, h')) : V TT mX13_wantsFrom 0 (some (.int r)) h' h 4 [.ref a0, Jk, .int x2, .int x3] [] := by
  unfold bX13_wantsFrom_4 at hf
  refine V.iload_n (q := 5) rfl dX13_wantsFrom_4 rfl rfl ?_
  refine V.aload_n (q := 6) rfl dX13_wantsFrom_5 rfl rfl ?_
  obtain ⟨b1, eb1, hf⟩ := bd_ex hf
  refine V.getR (q := 9) flX13_338 rfl eb1 dX13_wantsFrom_6 rfl ?_
  obtain ⟨v2, ev2, hf⟩ := bd_ex hf
  refine V.getI (q := 12) flX13_206 rfl ev2 dX13_wantsFrom_9 rfl ?_
  refine V.icmp_ge (q := 15) (tgt := 43) dX13_wantsFrom_12 rfl (by decide) (fun c => ?_) (fun c => ?_)
  · rw [if_pos c] at hf
    refine V.iload_n (q := 44) rfl dX13_wantsFrom_43 rfl rfl ?_
    obtain ⟨rfl, rfl⟩ := ret_inj hf
    exact V.ret (r := some (.int x2)) trivial dX13_wantsFrom_44
  · rw [if_neg c] at hf
    refine V.iload_n (q := 16) rfl dX13_wantsFrom_15 rfl rfl ?_
    refine V.aload_n (q := 17) rfl dX13_wantsFrom_16 rfl rfl ?_
    obtain ⟨b3, eb3, hf⟩ := bd_ex hf
    refine V.getR (q := 20) flX13_338 rfl eb3 dX13_wantsFrom_17 rfl ?_
    obtain ⟨b4, eb4, hf⟩ := bd_ex hf
    refine V.getR (q := 23) flX13_315 rfl eb4 dX13_wantsFrom_20 rfl ?_
    refine V.iload_n (q := 24) rfl dX13_wantsFrom_23 rfl rfl ?_
    obtain ⟨v5, ev5, hf⟩ := bd_ex hf
    refine V.iald (q := 25) ev5 dX13_wantsFrom_24 rfl ?_
    refine V.bipush (q := 27) (v := (-2)) (by decide) dX13_wantsFrom_25 rfl ?_
    refine V.icmp_eq (q := 30) (tgt := 34) dX13_wantsFrom_27 rfl (by decide) (fun c => ?_) (fun c => ?_)
    · rw [if_pos c] at hf
      refine V.iconst (q := 35) (v := 0) (by decide) dX13_wantsFrom_34 rfl ?_
      refine V.iadd (q := 36) dX13_wantsFrom_35 rfl ?_
      obtain ⟨v6, ev6, hf⟩ := bd_ex hf
      refine V.topI (Option.some.inj ev6) ?_
      refine V.istore_n (q := 37) (L' := [.ref a0, Jk, .int v6, .int x3]) rfl dX13_wantsFrom_36 rfl (by decide) rfl rfl ?_
      obtain ⟨v7, ev7, hf⟩ := bd_ex hf
      refine V.iinc (q := 40) (v := v7) (L' := [.ref a0, Jk, .int v6, .int v7]) dX13_wantsFrom_37 rfl rfl (Option.some.inj ev7) (by decide) rfl rfl ?_
      refine V.goto (q := 4) dX13_wantsFrom_40 (by decide) ?_
      exact hk4 _ _ _ _ hf
    · rw [if_neg c] at hf
      refine V.iconst (q := 31) (v := 1) (by decide) dX13_wantsFrom_30 rfl ?_
      refine V.goto (q := 35) dX13_wantsFrom_31 (by decide) ?_
      refine V.iadd (q := 36) dX13_wantsFrom_35 rfl ?_
      obtain ⟨v6, ev6, hf⟩ := bd_ex hf
      refine V.topI (Option.some.inj ev6) ?_
      refine V.istore_n (q := 37) (L' := [.ref a0, Jk, .int v6, .int x3]) rfl dX13_wantsFrom_36 rfl (by decide) rfl rfl ?_
      obtain ⟨v7, ev7, hf⟩ := bd_ex hf
      refine V.iinc (q := 40) (v := v7) (L' := [.ref a0, Jk, .int v6, .int v7]) dX13_wantsFrom_37 rfl rfl (Option.some.inj ev7) (by decide) rfl rfl ?_
      refine V.goto (q := 4) dX13_wantsFrom_40 (by decide) ?_
      exact hk4 _ _ _ _ hf
def fX13_wantsFrom_4  : Nat → MH → Nat → Int32 → Int32 → Option (Int32 × MH)
  | 0 => fun _ _ _ _ => none
  | n + 1 => bX13_wantsFrom_4  (fX13_wantsFrom_4  n)
theorem tlX13_wantsFrom_4 {r : Int32} {h' : MH}   : ∀ (n : Nat) (h : MH) (a0 : Nat) (x2 : Int32) (x3 : Int32), fX13_wantsFrom_4  n h a0 x2 x3 = some (r, h') → V TT mX13_wantsFrom 0 (some (.int r)) h' h 4 [.ref a0, Jk, .int x2, .int x3] [] := by
  intro n
  induction n with
  | zero => intro h a0 x2 x3 hf; exact nomatch (show (none : Option (Int32 × MH)) = some (r, h') from hf)
  | succ n ih => intro h a0 x2 x3 hf; exact tX13_wantsFrom_4  (fX13_wantsFrom_4  n) ih hf
def fX13_wantsFrom (h : MH) (a0 : Nat) (x1 : Int32) : Option (Int32 × MH) := fX13_wantsFrom_4 FU h a0 0 x1
set_option maxRecDepth 20000 in
theorem tX13_wantsFrom {r : Int32} {h' : MH} {h : MH} {a0 : Nat} {x1 : Int32} (hf : fX13_wantsFrom h a0 x1 = some (r, h')) : VM mX13_wantsFrom 0 (some (.int r)) h' h [.ref a0, .int x1] := by
  show V TT mX13_wantsFrom 0 _ h' h 0 [.ref a0, .int x1, Jk, Jk] []
  unfold fX13_wantsFrom at hf
  refine V.iconst (q := 1) (v := 0) (by decide) dX13_wantsFrom_0 rfl ?_
  refine V.istore_n (q := 2) (L' := [.ref a0, .int x1, .int 0, Jk]) rfl dX13_wantsFrom_1 rfl (by decide) rfl rfl ?_
  refine V.iload_n (q := 3) rfl dX13_wantsFrom_2 rfl rfl ?_
  refine V.istore_n (q := 4) (L' := [.ref a0, .int x1, .int 0, .int x1]) rfl dX13_wantsFrom_3 rfl (by decide) rfl rfl ?_
  refine V.forget (L' := [.ref a0, Jk, .int 0, .int x1]) ⟨Or.inr rfl, Or.inl rfl, Or.inr rfl, Or.inr rfl, trivial⟩ ?_
  exact tlX13_wantsFrom_4  FU _ _ _ _ hf
def bX13_keeps_230 (k65 : MH → Nat → Int32 → Int32 → Int32 → Int32 → Option (Int32 × MH)) (k230 : MH → Nat → Int32 → Int32 → Int32 → Int32 → Int32 → Option (Int32 × MH)) (h : MH) (a0 : Nat) (x1 : Int32) (x2 : Int32) (x3 : Int32) (x4 : Int32) (x5 : Int32) : Option (Int32 × MH) := bd (gR h a0 13 3) fun b1 => bd (gI h b1 12 2) fun v2 => if v2 ≤ x5 then (k65 h a0 x1 x2 x3 x4) else (bd (gR h a0 13 21) fun b3 => bd (gR h a0 13 20) fun b4 => bd (lI h b4 x5) fun v5 => if x4 ≤ v5 then (bd (tI h b3 x5 (-2)) fun h1 => bd (some (x5 + 1)) fun v6 => k230 h1 a0 x1 x2 x3 x4 v6) else (bd (gR h a0 13 20) fun b6 => bd (lI h b6 x5) fun v7 => bd (tI h b3 x5 v7) fun h1 => bd (some (x5 + 1)) fun v8 => k230 h1 a0 x1 x2 x3 x4 v8))
set_option maxRecDepth 20000 in
theorem tX13_keeps_230 {r : Int32} {h' : MH} (k65 : MH → Nat → Int32 → Int32 → Int32 → Int32 → Option (Int32 × MH)) (hk65 : ∀ (h : MH) (a0 : Nat) (x1 : Int32) (x2 : Int32) (x3 : Int32) (x4 : Int32), k65 h a0 x1 x2 x3 x4 = some (r, h') → V TT mX13_keeps 6 (some (.int r)) h' h 65 [.ref a0, .int x1, .int x2, .int x3, .int x4, Jk] []) (k230 : MH → Nat → Int32 → Int32 → Int32 → Int32 → Int32 → Option (Int32 × MH)) (hk230 : ∀ (h : MH) (a0 : Nat) (x1 : Int32) (x2 : Int32) (x3 : Int32) (x4 : Int32) (x5 : Int32), k230 h a0 x1 x2 x3 x4 x5 = some (r, h') → V TT mX13_keeps 6 (some (.int r)) h' h 230 [.ref a0, .int x1, .int x2, .int x3, .int x4, .int x5] [])  {h : MH} {a0 : Nat} {x1 : Int32} {x2 : Int32} {x3 : Int32} {x4 : Int32} {x5 : Int32} (hf : bX13_keeps_230 k65 k230 h a0 x1 x2 x3 x4 x5 = some (r, h')) : V TT mX13_keeps 6 (some (.int r)) h' h 230 [.ref a0, .int x1, .int x2, .int x3, .int x4, .int x5] [] := by
  unfold bX13_keeps_230 at hf
  refine V.iload (q := 232) dX13_keeps_230 rfl rfl ?_
  refine V.aload_n (q := 233) rfl dX13_keeps_232 rfl rfl ?_
  obtain ⟨b1, eb1, hf⟩ := bd_ex hf
  refine V.getR (q := 236) flX13_338 rfl eb1 dX13_keeps_233 rfl ?_
  obtain ⟨v2, ev2, hf⟩ := bd_ex hf
  refine V.getI (q := 239) flX13_206 rfl ev2 dX13_keeps_236 rfl ?_
  refine V.icmp_ge (q := 242) (tgt := 279) dX13_keeps_239 rfl (by decide) (fun c => ?_) (fun c => ?_)
  · rw [if_pos c] at hf
    refine V.goto (q := 65) dX13_keeps_279 (by decide) ?_
    refine V.forget (L' := [.ref a0, .int x1, .int x2, .int x3, .int x4, Jk]) ⟨Or.inr rfl, Or.inr rfl, Or.inr rfl, Or.inr rfl, Or.inr rfl, Or.inl rfl, trivial⟩ ?_
    exact hk65 _ _ _ _ _ _ hf
  · rw [if_neg c] at hf
    refine V.aload_n (q := 243) rfl dX13_keeps_242 rfl rfl ?_
    obtain ⟨b3, eb3, hf⟩ := bd_ex hf
    refine V.getR (q := 246) flX13_30 rfl eb3 dX13_keeps_243 rfl ?_
    refine V.iload (q := 248) dX13_keeps_246 rfl rfl ?_
    refine V.aload_n (q := 249) rfl dX13_keeps_248 rfl rfl ?_
    obtain ⟨b4, eb4, hf⟩ := bd_ex hf
    refine V.getR (q := 252) flX13_27 rfl eb4 dX13_keeps_249 rfl ?_
    refine V.iload (q := 254) dX13_keeps_252 rfl rfl ?_
    obtain ⟨v5, ev5, hf⟩ := bd_ex hf
    refine V.iald (q := 255) ev5 dX13_keeps_254 rfl ?_
    refine V.iload (q := 257) dX13_keeps_255 rfl rfl ?_
    refine V.icmp_ge (q := 260) (tgt := 270) dX13_keeps_257 rfl (by decide) (fun c => ?_) (fun c => ?_)
    · rw [if_pos c] at hf
      refine V.bipush (q := 272) (v := (-2)) (by decide) dX13_keeps_270 rfl ?_
      obtain ⟨h1, eh1, hf⟩ := bd_ex hf
      refine V.iast (q := 273) eh1 dX13_keeps_272 rfl ?_
      obtain ⟨v6, ev6, hf⟩ := bd_ex hf
      refine V.iinc (q := 276) (v := v6) (L' := [.ref a0, .int x1, .int x2, .int x3, .int x4, .int v6]) dX13_keeps_273 rfl rfl (Option.some.inj ev6) (by decide) rfl rfl ?_
      refine V.goto (q := 230) dX13_keeps_276 (by decide) ?_
      exact hk230 _ _ _ _ _ _ _ hf
    · rw [if_neg c] at hf
      refine V.aload_n (q := 261) rfl dX13_keeps_260 rfl rfl ?_
      obtain ⟨b6, eb6, hf⟩ := bd_ex hf
      refine V.getR (q := 264) flX13_27 rfl eb6 dX13_keeps_261 rfl ?_
      refine V.iload (q := 266) dX13_keeps_264 rfl rfl ?_
      obtain ⟨v7, ev7, hf⟩ := bd_ex hf
      refine V.iald (q := 267) ev7 dX13_keeps_266 rfl ?_
      refine V.goto (q := 272) dX13_keeps_267 (by decide) ?_
      obtain ⟨h1, eh1, hf⟩ := bd_ex hf
      refine V.iast (q := 273) eh1 dX13_keeps_272 rfl ?_
      obtain ⟨v8, ev8, hf⟩ := bd_ex hf
      refine V.iinc (q := 276) (v := v8) (L' := [.ref a0, .int x1, .int x2, .int x3, .int x4, .int v8]) dX13_keeps_273 rfl rfl (Option.some.inj ev8) (by decide) rfl rfl ?_
      refine V.goto (q := 230) dX13_keeps_276 (by decide) ?_
      exact hk230 _ _ _ _ _ _ _ hf
def fX13_keeps_230 (k65 : MH → Nat → Int32 → Int32 → Int32 → Int32 → Option (Int32 × MH)) : Nat → MH → Nat → Int32 → Int32 → Int32 → Int32 → Int32 → Option (Int32 × MH)
  | 0 => fun _ _ _ _ _ _ _ => none
  | n + 1 => bX13_keeps_230 k65 (fX13_keeps_230 k65 n)
theorem tlX13_keeps_230 {r : Int32} {h' : MH} (k65 : MH → Nat → Int32 → Int32 → Int32 → Int32 → Option (Int32 × MH)) (hk65 : ∀ (h : MH) (a0 : Nat) (x1 : Int32) (x2 : Int32) (x3 : Int32) (x4 : Int32), k65 h a0 x1 x2 x3 x4 = some (r, h') → V TT mX13_keeps 6 (some (.int r)) h' h 65 [.ref a0, .int x1, .int x2, .int x3, .int x4, Jk] [])  : ∀ (n : Nat) (h : MH) (a0 : Nat) (x1 : Int32) (x2 : Int32) (x3 : Int32) (x4 : Int32) (x5 : Int32), fX13_keeps_230 k65 n h a0 x1 x2 x3 x4 x5 = some (r, h') → V TT mX13_keeps 6 (some (.int r)) h' h 230 [.ref a0, .int x1, .int x2, .int x3, .int x4, .int x5] [] := by
  intro n
  induction n with
  | zero => intro h a0 x1 x2 x3 x4 x5 hf; exact nomatch (show (none : Option (Int32 × MH)) = some (r, h') from hf)
  | succ n ih => intro h a0 x1 x2 x3 x4 x5 hf; exact tX13_keeps_230 k65 hk65 (fX13_keeps_230 k65 n) ih hf
def bX13_keeps_183 (k65 : MH → Nat → Int32 → Int32 → Int32 → Int32 → Option (Int32 × MH)) (h : MH) (a0 : Nat) (x1 : Int32) (x2 : Int32) (x3 : Int32) (x4 : Int32) : Option (Int32 × MH) := bd (ck h a0 13) fun _ => bd2 (fX13_wantsFrom h a0 (x3 + 1)) fun v2 h1 => if x1 < (x2 + v2) then (bd (gR h1 a0 13 3) fun b3 => bd (gI h1 b3 12 2) fun v4 => if v4 ≤ (x3 + 1) then (fX13_keeps_230 k65 FU h1 a0 x2 x2 x3 x4 0) else (bd (some (x3 + 1)) fun v5 => bd (gR h1 a0 13 20) fun b6 => bd (tI h1 b6 v5 (-1)) fun h2 => k65 h2 a0 x1 x2 v5 x4)) else (k65 h1 a0 x1 x2 x3 x4)
set_option maxRecDepth 20000 in
theorem tX13_keeps_183 {r : Int32} {h' : MH} (k65 : MH → Nat → Int32 → Int32 → Int32 → Int32 → Option (Int32 × MH)) (hk65 : ∀ (h : MH) (a0 : Nat) (x1 : Int32) (x2 : Int32) (x3 : Int32) (x4 : Int32), k65 h a0 x1 x2 x3 x4 = some (r, h') → V TT mX13_keeps 6 (some (.int r)) h' h 65 [.ref a0, .int x1, .int x2, .int x3, .int x4, Jk] [])  {h : MH} {a0 : Nat} {x1 : Int32} {x2 : Int32} {x3 : Int32} {x4 : Int32} (hf : bX13_keeps_183 k65 h a0 x1 x2 x3 x4 = some (r, h')) : V TT mX13_keeps 6 (some (.int r)) h' h 183 [.ref a0, .int x1, .int x2, .int x3, .int x4, Jk] [] := by
  unfold bX13_keeps_183 at hf
  refine V.iload_n (q := 184) rfl dX13_keeps_183 rfl rfl ?_
  refine V.aload_n (q := 185) rfl dX13_keeps_184 rfl rfl ?_
  refine V.iload_n (q := 186) rfl dX13_keeps_185 rfl rfl ?_
  refine V.iconst (q := 187) (v := 1) (by decide) dX13_keeps_186 rfl ?_
  refine V.iadd (q := 188) dX13_keeps_187 rfl ?_
  obtain ⟨_, e1, hf⟩ := bd_ex hf
  obtain ⟨v2, h1, eh1, hf⟩ := bd2_ex hf
  refine V.callV (q := 191) (ci := 13) (vs := [.int (x3 + 1)]) (st := [.int x2]) (S2 := [.int v2, .int x2]) okX13_wantsFrom imX13_wantsFrom seX13_wantsFrom rfl lkX13_388 (tX13_wantsFrom eh1) rfl (ck_is e1) (by decide) rfl (Nat.le_of_ble_eq_true rfl) (Nat.le_of_ble_eq_true rfl) rfl dX13_keeps_188 rfl rfl ?_
  refine V.iadd (q := 192) dX13_keeps_191 rfl ?_
  refine V.iload_n (q := 193) rfl dX13_keeps_192 rfl rfl ?_
  refine V.icmp_gt (q := 196) (tgt := 199) dX13_keeps_193 rfl (by decide) (fun c => ?_) (fun c => ?_)
  · rw [if_pos c] at hf
    refine V.iload_n (q := 200) rfl dX13_keeps_199 rfl rfl ?_
    refine V.iconst (q := 201) (v := 1) (by decide) dX13_keeps_200 rfl ?_
    refine V.iadd (q := 202) dX13_keeps_201 rfl ?_
    refine V.aload_n (q := 203) rfl dX13_keeps_202 rfl rfl ?_
    obtain ⟨b3, eb3, hf⟩ := bd_ex hf
    refine V.getR (q := 206) flX13_338 rfl eb3 dX13_keeps_203 rfl ?_
    obtain ⟨v4, ev4, hf⟩ := bd_ex hf
    refine V.getI (q := 209) flX13_206 rfl ev4 dX13_keeps_206 rfl ?_
    refine V.icmp_ge (q := 212) (tgt := 225) dX13_keeps_209 rfl (by decide) (fun c => ?_) (fun c => ?_)
    · rw [if_pos c] at hf
      refine V.iload_n (q := 226) rfl dX13_keeps_225 rfl rfl ?_
      refine V.istore_n (q := 227) (L' := [.ref a0, .int x2, .int x2, .int x3, .int x4, Jk]) rfl dX13_keeps_226 rfl (by decide) rfl rfl ?_
      refine V.iconst (q := 228) (v := 0) (by decide) dX13_keeps_227 rfl ?_
      refine V.istore (q := 230) (L' := [.ref a0, .int x2, .int x2, .int x3, .int x4, .int 0]) dX13_keeps_228 rfl (by decide) rfl rfl ?_
      exact tlX13_keeps_230 k65 hk65 FU _ _ _ _ _ _ _ hf
    · rw [if_neg c] at hf
      obtain ⟨v5, ev5, hf⟩ := bd_ex hf
      refine V.iinc (q := 215) (v := v5) (L' := [.ref a0, .int x1, .int x2, .int v5, .int x4, Jk]) dX13_keeps_212 rfl rfl (Option.some.inj ev5) (by decide) rfl rfl ?_
      refine V.aload_n (q := 216) rfl dX13_keeps_215 rfl rfl ?_
      obtain ⟨b6, eb6, hf⟩ := bd_ex hf
      refine V.getR (q := 219) flX13_27 rfl eb6 dX13_keeps_216 rfl ?_
      refine V.iload_n (q := 220) rfl dX13_keeps_219 rfl rfl ?_
      refine V.iconst (q := 221) (v := (-1)) (by decide) dX13_keeps_220 rfl ?_
      obtain ⟨h2, eh2, hf⟩ := bd_ex hf
      refine V.iast (q := 222) eh2 dX13_keeps_221 rfl ?_
      refine V.goto (q := 65) dX13_keeps_222 (by decide) ?_
      exact hk65 _ _ _ _ _ _ hf
  · rw [if_neg c] at hf
    refine V.goto (q := 65) dX13_keeps_196 (by decide) ?_
    exact hk65 _ _ _ _ _ _ hf
def bX13_keeps_140 (k65 : MH → Nat → Int32 → Int32 → Int32 → Int32 → Option (Int32 × MH)) (h : MH) (a0 : Nat) (x1 : Int32) (x2 : Int32) (x3 : Int32) (x4 : Int32) (xs0 : Int32) (xs1 : Int32) (as2 : Nat) : Option (Int32 × MH) := bd (tI h as2 xs1 xs0) fun h1 => bd (gR h1 a0 13 20) fun b1 => bd (lI h1 b1 x3) fun v2 => if v2 ≤ x4 then (bd (gR h1 a0 13 20) fun b3 => bd (lI h1 b3 x3) fun v4 => if x4 ≤ v4 then (bX13_keeps_183 k65 h1 a0 x1 x2 x3 x4) else (bd (gR h1 a0 13 20) fun b5 => bd (lI h1 b5 x3) fun v6 => bd (ck h1 a0 13) fun _ => bd (fX13_counts h1 a0 v6 1) fun h2 => bd (some (x2 + 1)) fun v8 => bX13_keeps_183 k65 h2 a0 x1 v8 x3 x4)) else (bd (some (x3 + (-1))) fun v3 => k65 h1 a0 x1 x2 v3 x4)
set_option maxRecDepth 20000 in
theorem tX13_keeps_140 {r : Int32} {h' : MH} (k65 : MH → Nat → Int32 → Int32 → Int32 → Int32 → Option (Int32 × MH)) (hk65 : ∀ (h : MH) (a0 : Nat) (x1 : Int32) (x2 : Int32) (x3 : Int32) (x4 : Int32), k65 h a0 x1 x2 x3 x4 = some (r, h') → V TT mX13_keeps 6 (some (.int r)) h' h 65 [.ref a0, .int x1, .int x2, .int x3, .int x4, Jk] [])  {h : MH} {a0 : Nat} {x1 : Int32} {x2 : Int32} {x3 : Int32} {x4 : Int32} {xs0 : Int32} {xs1 : Int32} {as2 : Nat} (hf : bX13_keeps_140 k65 h a0 x1 x2 x3 x4 xs0 xs1 as2 = some (r, h')) : V TT mX13_keeps 6 (some (.int r)) h' h 140 [.ref a0, .int x1, .int x2, .int x3, .int x4, Jk] [.int xs0, .int xs1, .ref as2] := by
  unfold bX13_keeps_140 at hf
  obtain ⟨h1, eh1, hf⟩ := bd_ex hf
  refine V.iast (q := 141) eh1 dX13_keeps_140 rfl ?_
  refine V.aload_n (q := 142) rfl dX13_keeps_141 rfl rfl ?_
  obtain ⟨b1, eb1, hf⟩ := bd_ex hf
  refine V.getR (q := 145) flX13_27 rfl eb1 dX13_keeps_142 rfl ?_
  refine V.iload_n (q := 146) rfl dX13_keeps_145 rfl rfl ?_
  obtain ⟨v2, ev2, hf⟩ := bd_ex hf
  refine V.iald (q := 147) ev2 dX13_keeps_146 rfl ?_
  refine V.iload (q := 149) dX13_keeps_147 rfl rfl ?_
  refine V.icmp_le (q := 152) (tgt := 158) dX13_keeps_149 rfl (by decide) (fun c => ?_) (fun c => ?_)
  · rw [if_pos c] at hf
    refine V.aload_n (q := 159) rfl dX13_keeps_158 rfl rfl ?_
    obtain ⟨b3, eb3, hf⟩ := bd_ex hf
    refine V.getR (q := 162) flX13_27 rfl eb3 dX13_keeps_159 rfl ?_
    refine V.iload_n (q := 163) rfl dX13_keeps_162 rfl rfl ?_
    obtain ⟨v4, ev4, hf⟩ := bd_ex hf
    refine V.iald (q := 164) ev4 dX13_keeps_163 rfl ?_
    refine V.iload (q := 166) dX13_keeps_164 rfl rfl ?_
    refine V.icmp_ge (q := 169) (tgt := 183) dX13_keeps_166 rfl (by decide) (fun c => ?_) (fun c => ?_)
    · rw [if_pos c] at hf
      exact tX13_keeps_183 k65 hk65 hf
    · rw [if_neg c] at hf
      refine V.aload_n (q := 170) rfl dX13_keeps_169 rfl rfl ?_
      refine V.aload_n (q := 171) rfl dX13_keeps_170 rfl rfl ?_
      obtain ⟨b5, eb5, hf⟩ := bd_ex hf
      refine V.getR (q := 174) flX13_27 rfl eb5 dX13_keeps_171 rfl ?_
      refine V.iload_n (q := 175) rfl dX13_keeps_174 rfl rfl ?_
      obtain ⟨v6, ev6, hf⟩ := bd_ex hf
      refine V.iald (q := 176) ev6 dX13_keeps_175 rfl ?_
      refine V.iconst (q := 177) (v := 1) (by decide) dX13_keeps_176 rfl ?_
      obtain ⟨_, e7, hf⟩ := bd_ex hf
      obtain ⟨h2, eh2, hf⟩ := bd_ex hf
      refine V.callV (q := 180) (ci := 13) (vs := [.int v6, .int 1]) (st := []) (S2 := []) okX13_counts imX13_counts seX13_counts rfl lkX13_382 (tX13_counts eh2) rfl (ck_is e7) (by decide) rfl (Nat.le_of_ble_eq_true rfl) (Nat.le_of_ble_eq_true rfl) rfl dX13_keeps_177 rfl rfl ?_
      obtain ⟨v8, ev8, hf⟩ := bd_ex hf
      refine V.iinc (q := 183) (v := v8) (L' := [.ref a0, .int x1, .int v8, .int x3, .int x4, Jk]) dX13_keeps_180 rfl rfl (Option.some.inj ev8) (by decide) rfl rfl ?_
      exact tX13_keeps_183 k65 hk65 hf
  · rw [if_neg c] at hf
    obtain ⟨v3, ev3, hf⟩ := bd_ex hf
    refine V.iinc (q := 155) (v := v3) (L' := [.ref a0, .int x1, .int x2, .int v3, .int x4, Jk]) dX13_keeps_152 rfl rfl (Option.some.inj ev3) (by decide) rfl rfl ?_
    refine V.goto (q := 65) dX13_keeps_155 (by decide) ?_
    exact hk65 _ _ _ _ _ _ hf
def bX13_keeps_104 (k65 : MH → Nat → Int32 → Int32 → Int32 → Int32 → Option (Int32 × MH)) (h : MH) (a0 : Nat) (x1 : Int32) (x2 : Int32) (x3 : Int32) (x4 : Int32) : Option (Int32 × MH) := bd (gR h a0 13 20) fun b1 => bd (gR h a0 13 20) fun b2 => bd (lI h b2 x3) fun v3 => if v3 < x4 then (bd (gR h a0 13 20) fun b4 => bd (lI h b4 x3) fun v5 => bd (ck h a0 13) fun _ => bd2 (fX13_nextPair h a0 x3 (v5 + 1)) fun v7 h1 => bX13_keeps_140 k65 h1 a0 x1 x2 x3 x4 v7 x3 b1) else (bX13_keeps_140 k65 h a0 x1 x2 x3 x4 (x4 + 1) x3 b1)
set_option maxRecDepth 20000 in
theorem tX13_keeps_104 {r : Int32} {h' : MH} (k65 : MH → Nat → Int32 → Int32 → Int32 → Int32 → Option (Int32 × MH)) (hk65 : ∀ (h : MH) (a0 : Nat) (x1 : Int32) (x2 : Int32) (x3 : Int32) (x4 : Int32), k65 h a0 x1 x2 x3 x4 = some (r, h') → V TT mX13_keeps 6 (some (.int r)) h' h 65 [.ref a0, .int x1, .int x2, .int x3, .int x4, Jk] [])  {h : MH} {a0 : Nat} {x1 : Int32} {x2 : Int32} {x3 : Int32} {x4 : Int32} (hf : bX13_keeps_104 k65 h a0 x1 x2 x3 x4 = some (r, h')) : V TT mX13_keeps 6 (some (.int r)) h' h 104 [.ref a0, .int x1, .int x2, .int x3, .int x4, Jk] [] := by
  unfold bX13_keeps_104 at hf
  refine V.aload_n (q := 105) rfl dX13_keeps_104 rfl rfl ?_
  obtain ⟨b1, eb1, hf⟩ := bd_ex hf
  refine V.getR (q := 108) flX13_27 rfl eb1 dX13_keeps_105 rfl ?_
  refine V.iload_n (q := 109) rfl dX13_keeps_108 rfl rfl ?_
  refine V.aload_n (q := 110) rfl dX13_keeps_109 rfl rfl ?_
  obtain ⟨b2, eb2, hf⟩ := bd_ex hf
  refine V.getR (q := 113) flX13_27 rfl eb2 dX13_keeps_110 rfl ?_
  refine V.iload_n (q := 114) rfl dX13_keeps_113 rfl rfl ?_
  obtain ⟨v3, ev3, hf⟩ := bd_ex hf
  refine V.iald (q := 115) ev3 dX13_keeps_114 rfl ?_
  refine V.iload (q := 117) dX13_keeps_115 rfl rfl ?_
  refine V.icmp_lt (q := 120) (tgt := 127) dX13_keeps_117 rfl (by decide) (fun c => ?_) (fun c => ?_)
  · rw [if_pos c] at hf
    refine V.aload_n (q := 128) rfl dX13_keeps_127 rfl rfl ?_
    refine V.iload_n (q := 129) rfl dX13_keeps_128 rfl rfl ?_
    refine V.aload_n (q := 130) rfl dX13_keeps_129 rfl rfl ?_
    obtain ⟨b4, eb4, hf⟩ := bd_ex hf
    refine V.getR (q := 133) flX13_27 rfl eb4 dX13_keeps_130 rfl ?_
    refine V.iload_n (q := 134) rfl dX13_keeps_133 rfl rfl ?_
    obtain ⟨v5, ev5, hf⟩ := bd_ex hf
    refine V.iald (q := 135) ev5 dX13_keeps_134 rfl ?_
    refine V.iconst (q := 136) (v := 1) (by decide) dX13_keeps_135 rfl ?_
    refine V.iadd (q := 137) dX13_keeps_136 rfl ?_
    obtain ⟨_, e6, hf⟩ := bd_ex hf
    obtain ⟨v7, h1, eh1, hf⟩ := bd2_ex hf
    refine V.callV (q := 140) (ci := 13) (vs := [.int x3, .int (v5 + 1)]) (st := [.int x3, .ref b1]) (S2 := [.int v7, .int x3, .ref b1]) okX13_nextPair imX13_nextPair seX13_nextPair rfl lkX13_385 (tX13_nextPair eh1) rfl (ck_is e6) (by decide) rfl (Nat.le_of_ble_eq_true rfl) (Nat.le_of_ble_eq_true rfl) rfl dX13_keeps_137 rfl rfl ?_
    exact tX13_keeps_140 k65 hk65 hf
  · rw [if_neg c] at hf
    refine V.iload (q := 122) dX13_keeps_120 rfl rfl ?_
    refine V.iconst (q := 123) (v := 1) (by decide) dX13_keeps_122 rfl ?_
    refine V.iadd (q := 124) dX13_keeps_123 rfl ?_
    refine V.goto (q := 140) dX13_keeps_124 (by decide) ?_
    exact tX13_keeps_140 k65 hk65 hf
def bX13_keeps_65 (k65 : MH → Nat → Int32 → Int32 → Int32 → Int32 → Option (Int32 × MH)) (h : MH) (a0 : Nat) (x1 : Int32) (x2 : Int32) (x3 : Int32) (x4 : Int32) : Option (Int32 × MH) := if x3 < 0 then (some (x1, h)) else (bd (gR h a0 13 20) fun b1 => bd (lI h b1 x3) fun v2 => if v2 = (-1) then (bX13_keeps_104 k65 h a0 x1 x2 x3 x4) else (bd (gR h a0 13 20) fun b3 => bd (lI h b3 x3) fun v4 => if x4 ≤ v4 then (bX13_keeps_104 k65 h a0 x1 x2 x3 x4) else (bd (gR h a0 13 20) fun b5 => bd (lI h b5 x3) fun v6 => bd (ck h a0 13) fun _ => bd (fX13_counts h a0 v6 (-1)) fun h1 => bd (some (x2 + (-1))) fun v8 => bX13_keeps_104 k65 h1 a0 x1 v8 x3 x4)))
set_option maxRecDepth 20000 in
theorem tX13_keeps_65 {r : Int32} {h' : MH} (k65 : MH → Nat → Int32 → Int32 → Int32 → Int32 → Option (Int32 × MH)) (hk65 : ∀ (h : MH) (a0 : Nat) (x1 : Int32) (x2 : Int32) (x3 : Int32) (x4 : Int32), k65 h a0 x1 x2 x3 x4 = some (r, h') → V TT mX13_keeps 6 (some (.int r)) h' h 65 [.ref a0, .int x1, .int x2, .int x3, .int x4, Jk] [])  {h : MH} {a0 : Nat} {x1 : Int32} {x2 : Int32} {x3 : Int32} {x4 : Int32} (hf : bX13_keeps_65 k65 h a0 x1 x2 x3 x4 = some (r, h')) : V TT mX13_keeps 6 (some (.int r)) h' h 65 [.ref a0, .int x1, .int x2, .int x3, .int x4, Jk] [] := by
  unfold bX13_keeps_65 at hf
  refine V.iload_n (q := 66) rfl dX13_keeps_65 rfl rfl ?_
  refine V.if_lt (q := 69) (tgt := 282) dX13_keeps_66 rfl (by decide) (fun c => ?_) (fun c => ?_)
  · rw [if_pos c] at hf
    refine V.iload_n (q := 283) rfl dX13_keeps_282 rfl rfl ?_
    obtain ⟨rfl, rfl⟩ := ret_inj hf
    exact V.ret (r := some (.int x1)) trivial dX13_keeps_283
  · rw [if_neg c] at hf
    refine V.aload_n (q := 70) rfl dX13_keeps_69 rfl rfl ?_
    obtain ⟨b1, eb1, hf⟩ := bd_ex hf
    refine V.getR (q := 73) flX13_27 rfl eb1 dX13_keeps_70 rfl ?_
    refine V.iload_n (q := 74) rfl dX13_keeps_73 rfl rfl ?_
    obtain ⟨v2, ev2, hf⟩ := bd_ex hf
    refine V.iald (q := 75) ev2 dX13_keeps_74 rfl ?_
    refine V.iconst (q := 76) (v := (-1)) (by decide) dX13_keeps_75 rfl ?_
    refine V.icmp_eq (q := 79) (tgt := 104) dX13_keeps_76 rfl (by decide) (fun c => ?_) (fun c => ?_)
    · rw [if_pos c] at hf
      exact tX13_keeps_104 k65 hk65 hf
    · rw [if_neg c] at hf
      refine V.aload_n (q := 80) rfl dX13_keeps_79 rfl rfl ?_
      obtain ⟨b3, eb3, hf⟩ := bd_ex hf
      refine V.getR (q := 83) flX13_27 rfl eb3 dX13_keeps_80 rfl ?_
      refine V.iload_n (q := 84) rfl dX13_keeps_83 rfl rfl ?_
      obtain ⟨v4, ev4, hf⟩ := bd_ex hf
      refine V.iald (q := 85) ev4 dX13_keeps_84 rfl ?_
      refine V.iload (q := 87) dX13_keeps_85 rfl rfl ?_
      refine V.icmp_ge (q := 90) (tgt := 104) dX13_keeps_87 rfl (by decide) (fun c => ?_) (fun c => ?_)
      · rw [if_pos c] at hf
        exact tX13_keeps_104 k65 hk65 hf
      · rw [if_neg c] at hf
        refine V.aload_n (q := 91) rfl dX13_keeps_90 rfl rfl ?_
        refine V.aload_n (q := 92) rfl dX13_keeps_91 rfl rfl ?_
        obtain ⟨b5, eb5, hf⟩ := bd_ex hf
        refine V.getR (q := 95) flX13_27 rfl eb5 dX13_keeps_92 rfl ?_
        refine V.iload_n (q := 96) rfl dX13_keeps_95 rfl rfl ?_
        obtain ⟨v6, ev6, hf⟩ := bd_ex hf
        refine V.iald (q := 97) ev6 dX13_keeps_96 rfl ?_
        refine V.iconst (q := 98) (v := (-1)) (by decide) dX13_keeps_97 rfl ?_
        obtain ⟨_, e7, hf⟩ := bd_ex hf
        obtain ⟨h1, eh1, hf⟩ := bd_ex hf
        refine V.callV (q := 101) (ci := 13) (vs := [.int v6, .int (-1)]) (st := []) (S2 := []) okX13_counts imX13_counts seX13_counts rfl lkX13_382 (tX13_counts eh1) rfl (ck_is e7) (by decide) rfl (Nat.le_of_ble_eq_true rfl) (Nat.le_of_ble_eq_true rfl) rfl dX13_keeps_98 rfl rfl ?_
        obtain ⟨v8, ev8, hf⟩ := bd_ex hf
        refine V.iinc (q := 104) (v := v8) (L' := [.ref a0, .int x1, .int v8, .int x3, .int x4, Jk]) dX13_keeps_101 rfl rfl (Option.some.inj ev8) (by decide) rfl rfl ?_
        exact tX13_keeps_104 k65 hk65 hf
def fX13_keeps_65  : Nat → MH → Nat → Int32 → Int32 → Int32 → Int32 → Option (Int32 × MH)
  | 0 => fun _ _ _ _ _ _ => none
  | n + 1 => bX13_keeps_65  (fX13_keeps_65  n)
theorem tlX13_keeps_65 {r : Int32} {h' : MH}   : ∀ (n : Nat) (h : MH) (a0 : Nat) (x1 : Int32) (x2 : Int32) (x3 : Int32) (x4 : Int32), fX13_keeps_65  n h a0 x1 x2 x3 x4 = some (r, h') → V TT mX13_keeps 6 (some (.int r)) h' h 65 [.ref a0, .int x1, .int x2, .int x3, .int x4, Jk] [] := by
  intro n
  induction n with
  | zero => intro h a0 x1 x2 x3 x4 hf; exact nomatch (show (none : Option (Int32 × MH)) = some (r, h') from hf)
  | succ n ih => intro h a0 x1 x2 x3 x4 hf; exact tX13_keeps_65  (fX13_keeps_65  n) ih hf
def bX13_keeps_38 (k38 : MH → Nat → Int32 → Int32 → Int32 → Int32 → Int32 → Option (Int32 × MH)) (h : MH) (a0 : Nat) (x1 : Int32) (x2 : Int32) (x3 : Int32) (x4 : Int32) (x5 : Int32) : Option (Int32 × MH) := if 3 ≤ x5 then (bd (gR h a0 13 20) fun b1 => bd (tI h b1 0 (-1)) fun h1 => fX13_keeps_65 FU h1 a0 x1 x2 x3 x4) else (bd (gR h a0 13 23) fun b1 => bd (tI h b1 x5 0) fun h1 => bd (some (x5 + 1)) fun v2 => k38 h1 a0 x1 x2 x3 x4 v2)
set_option maxRecDepth 20000 in
theorem tX13_keeps_38 {r : Int32} {h' : MH} (k38 : MH → Nat → Int32 → Int32 → Int32 → Int32 → Int32 → Option (Int32 × MH)) (hk38 : ∀ (h : MH) (a0 : Nat) (x1 : Int32) (x2 : Int32) (x3 : Int32) (x4 : Int32) (x5 : Int32), k38 h a0 x1 x2 x3 x4 x5 = some (r, h') → V TT mX13_keeps 6 (some (.int r)) h' h 38 [.ref a0, .int x1, .int x2, .int x3, .int x4, .int x5] [])  {h : MH} {a0 : Nat} {x1 : Int32} {x2 : Int32} {x3 : Int32} {x4 : Int32} {x5 : Int32} (hf : bX13_keeps_38 k38 h a0 x1 x2 x3 x4 x5 = some (r, h')) : V TT mX13_keeps 6 (some (.int r)) h' h 38 [.ref a0, .int x1, .int x2, .int x3, .int x4, .int x5] [] := by
  unfold bX13_keeps_38 at hf
  refine V.iload (q := 40) dX13_keeps_38 rfl rfl ?_
  refine V.iconst (q := 41) (v := 3) (by decide) dX13_keeps_40 rfl ?_
  refine V.icmp_ge (q := 44) (tgt := 58) dX13_keeps_41 rfl (by decide) (fun c => ?_) (fun c => ?_)
  · rw [if_pos c] at hf
    refine V.aload_n (q := 59) rfl dX13_keeps_58 rfl rfl ?_
    obtain ⟨b1, eb1, hf⟩ := bd_ex hf
    refine V.getR (q := 62) flX13_27 rfl eb1 dX13_keeps_59 rfl ?_
    refine V.iconst (q := 63) (v := 0) (by decide) dX13_keeps_62 rfl ?_
    refine V.iconst (q := 64) (v := (-1)) (by decide) dX13_keeps_63 rfl ?_
    obtain ⟨h1, eh1, hf⟩ := bd_ex hf
    refine V.iast (q := 65) eh1 dX13_keeps_64 rfl ?_
    refine V.forget (L' := [.ref a0, .int x1, .int x2, .int x3, .int x4, Jk]) ⟨Or.inr rfl, Or.inr rfl, Or.inr rfl, Or.inr rfl, Or.inr rfl, Or.inl rfl, trivial⟩ ?_
    exact tlX13_keeps_65  FU _ _ _ _ _ _ hf
  · rw [if_neg c] at hf
    refine V.aload_n (q := 45) rfl dX13_keeps_44 rfl rfl ?_
    obtain ⟨b1, eb1, hf⟩ := bd_ex hf
    refine V.getR (q := 48) flX13_36 rfl eb1 dX13_keeps_45 rfl ?_
    refine V.iload (q := 50) dX13_keeps_48 rfl rfl ?_
    refine V.iconst (q := 51) (v := 0) (by decide) dX13_keeps_50 rfl ?_
    obtain ⟨h1, eh1, hf⟩ := bd_ex hf
    refine V.iast (q := 52) eh1 dX13_keeps_51 rfl ?_
    obtain ⟨v2, ev2, hf⟩ := bd_ex hf
    refine V.iinc (q := 55) (v := v2) (L' := [.ref a0, .int x1, .int x2, .int x3, .int x4, .int v2]) dX13_keeps_52 rfl rfl (Option.some.inj ev2) (by decide) rfl rfl ?_
    refine V.goto (q := 38) dX13_keeps_55 (by decide) ?_
    exact hk38 _ _ _ _ _ _ _ hf
def fX13_keeps_38  : Nat → MH → Nat → Int32 → Int32 → Int32 → Int32 → Int32 → Option (Int32 × MH)
  | 0 => fun _ _ _ _ _ _ _ => none
  | n + 1 => bX13_keeps_38  (fX13_keeps_38  n)
theorem tlX13_keeps_38 {r : Int32} {h' : MH}   : ∀ (n : Nat) (h : MH) (a0 : Nat) (x1 : Int32) (x2 : Int32) (x3 : Int32) (x4 : Int32) (x5 : Int32), fX13_keeps_38  n h a0 x1 x2 x3 x4 x5 = some (r, h') → V TT mX13_keeps 6 (some (.int r)) h' h 38 [.ref a0, .int x1, .int x2, .int x3, .int x4, .int x5] [] := by
  intro n
  induction n with
  | zero => intro h a0 x1 x2 x3 x4 x5 hf; exact nomatch (show (none : Option (Int32 × MH)) = some (r, h') from hf)
  | succ n ih => intro h a0 x1 x2 x3 x4 x5 hf; exact tX13_keeps_38  (fX13_keeps_38  n) ih hf
def bX13_keeps_15 (k15 : MH → Nat → Int32 → Int32 → Int32 → Int32 → Int32 → Option (Int32 × MH)) (h : MH) (a0 : Nat) (x1 : Int32) (x2 : Int32) (x3 : Int32) (x4 : Int32) (x5 : Int32) : Option (Int32 × MH) := if 4 ≤ x5 then (fX13_keeps_38 FU h a0 x1 x2 x3 x4 0) else (bd (gR h a0 13 22) fun b1 => bd (tI h b1 x5 0) fun h1 => bd (some (x5 + 1)) fun v2 => k15 h1 a0 x1 x2 x3 x4 v2)
set_option maxRecDepth 20000 in
theorem tX13_keeps_15 {r : Int32} {h' : MH} (k15 : MH → Nat → Int32 → Int32 → Int32 → Int32 → Int32 → Option (Int32 × MH)) (hk15 : ∀ (h : MH) (a0 : Nat) (x1 : Int32) (x2 : Int32) (x3 : Int32) (x4 : Int32) (x5 : Int32), k15 h a0 x1 x2 x3 x4 x5 = some (r, h') → V TT mX13_keeps 6 (some (.int r)) h' h 15 [.ref a0, .int x1, .int x2, .int x3, .int x4, .int x5] [])  {h : MH} {a0 : Nat} {x1 : Int32} {x2 : Int32} {x3 : Int32} {x4 : Int32} {x5 : Int32} (hf : bX13_keeps_15 k15 h a0 x1 x2 x3 x4 x5 = some (r, h')) : V TT mX13_keeps 6 (some (.int r)) h' h 15 [.ref a0, .int x1, .int x2, .int x3, .int x4, .int x5] [] := by
  unfold bX13_keeps_15 at hf
  refine V.iload (q := 17) dX13_keeps_15 rfl rfl ?_
  refine V.iconst (q := 18) (v := 4) (by decide) dX13_keeps_17 rfl ?_
  refine V.icmp_ge (q := 21) (tgt := 35) dX13_keeps_18 rfl (by decide) (fun c => ?_) (fun c => ?_)
  · rw [if_pos c] at hf
    refine V.iconst (q := 36) (v := 0) (by decide) dX13_keeps_35 rfl ?_
    refine V.istore (q := 38) (L' := [.ref a0, .int x1, .int x2, .int x3, .int x4, .int 0]) dX13_keeps_36 rfl (by decide) rfl rfl ?_
    exact tlX13_keeps_38  FU _ _ _ _ _ _ _ hf
  · rw [if_neg c] at hf
    refine V.aload_n (q := 22) rfl dX13_keeps_21 rfl rfl ?_
    obtain ⟨b1, eb1, hf⟩ := bd_ex hf
    refine V.getR (q := 25) flX13_33 rfl eb1 dX13_keeps_22 rfl ?_
    refine V.iload (q := 27) dX13_keeps_25 rfl rfl ?_
    refine V.iconst (q := 28) (v := 0) (by decide) dX13_keeps_27 rfl ?_
    obtain ⟨h1, eh1, hf⟩ := bd_ex hf
    refine V.iast (q := 29) eh1 dX13_keeps_28 rfl ?_
    obtain ⟨v2, ev2, hf⟩ := bd_ex hf
    refine V.iinc (q := 32) (v := v2) (L' := [.ref a0, .int x1, .int x2, .int x3, .int x4, .int v2]) dX13_keeps_29 rfl rfl (Option.some.inj ev2) (by decide) rfl rfl ?_
    refine V.goto (q := 15) dX13_keeps_32 (by decide) ?_
    exact hk15 _ _ _ _ _ _ _ hf
def fX13_keeps_15  : Nat → MH → Nat → Int32 → Int32 → Int32 → Int32 → Int32 → Option (Int32 × MH)
  | 0 => fun _ _ _ _ _ _ _ => none
  | n + 1 => bX13_keeps_15  (fX13_keeps_15  n)
theorem tlX13_keeps_15 {r : Int32} {h' : MH}   : ∀ (n : Nat) (h : MH) (a0 : Nat) (x1 : Int32) (x2 : Int32) (x3 : Int32) (x4 : Int32) (x5 : Int32), fX13_keeps_15  n h a0 x1 x2 x3 x4 x5 = some (r, h') → V TT mX13_keeps 6 (some (.int r)) h' h 15 [.ref a0, .int x1, .int x2, .int x3, .int x4, .int x5] [] := by
  intro n
  induction n with
  | zero => intro h a0 x1 x2 x3 x4 x5 hf; exact nomatch (show (none : Option (Int32 × MH)) = some (r, h') from hf)
  | succ n ih => intro h a0 x1 x2 x3 x4 x5 hf; exact tX13_keeps_15  (fX13_keeps_15  n) ih hf
def fX13_keeps (h : MH) (a0 : Nat) : Option (Int32 × MH) := bd (ck h a0 13) fun _ => bd2 (fX13_pairsMany h a0 ) fun v2 h1 => fX13_keeps_15 FU h1 a0 (-1) 0 0 v2 0
set_option maxRecDepth 20000 in
theorem tX13_keeps {r : Int32} {h' : MH} {h : MH} {a0 : Nat} (hf : fX13_keeps h a0 = some (r, h')) : VM mX13_keeps 6 (some (.int r)) h' h [.ref a0] := by
  show V TT mX13_keeps 6 _ h' h 0 [.ref a0, Jk, Jk, Jk, Jk, Jk] []
  unfold fX13_keeps at hf
  refine V.iconst (q := 1) (v := (-1)) (by decide) dX13_keeps_0 rfl ?_
  refine V.istore_n (q := 2) (L' := [.ref a0, .int (-1), Jk, Jk, Jk, Jk]) rfl dX13_keeps_1 rfl (by decide) rfl rfl ?_
  refine V.iconst (q := 3) (v := 0) (by decide) dX13_keeps_2 rfl ?_
  refine V.istore_n (q := 4) (L' := [.ref a0, .int (-1), .int 0, Jk, Jk, Jk]) rfl dX13_keeps_3 rfl (by decide) rfl rfl ?_
  refine V.iconst (q := 5) (v := 0) (by decide) dX13_keeps_4 rfl ?_
  refine V.istore_n (q := 6) (L' := [.ref a0, .int (-1), .int 0, .int 0, Jk, Jk]) rfl dX13_keeps_5 rfl (by decide) rfl rfl ?_
  refine V.aload_n (q := 7) rfl dX13_keeps_6 rfl rfl ?_
  obtain ⟨_, e1, hf⟩ := bd_ex hf
  obtain ⟨v2, h1, eh1, hf⟩ := bd2_ex hf
  refine V.callV (q := 10) (ci := 13) (vs := []) (st := []) (S2 := [.int v2]) okX13_pairsMany imX13_pairsMany seX13_pairsMany rfl lkX13_376 (tX13_pairsMany eh1) rfl (ck_is e1) (by decide) rfl (Nat.le_of_ble_eq_true rfl) (Nat.le_of_ble_eq_true rfl) rfl dX13_keeps_7 rfl rfl ?_
  refine V.istore (q := 12) (L' := [.ref a0, .int (-1), .int 0, .int 0, .int v2, Jk]) dX13_keeps_10 rfl (by decide) rfl rfl ?_
  refine V.iconst (q := 13) (v := 0) (by decide) dX13_keeps_12 rfl ?_
  refine V.istore (q := 15) (L' := [.ref a0, .int (-1), .int 0, .int 0, .int v2, .int 0]) dX13_keeps_13 rfl (by decide) rfl rfl ?_
  exact tlX13_keeps_15  FU _ _ _ _ _ _ _ hf
def fX13_kept (h : MH) (a0 : Nat) : Option (Int32 × MH) := bd (pI h a0 13 0 0) fun h1 => bd (gZ h1 a0 13 3) fun z1 => if z1 = true then (bd (ck h1 a0 13) fun _ => bd2 (fX13_refused h1 a0 1) fun v8 h5 => some (v8, h5)) else (bd (ck h1 a0 13) fun _ => bd (fX13_asInk h1 a0 ) fun h2 => bd (ck h2 a0 13) fun _ => bd2 (fX13_keeps h2 a0 ) fun v4 h3 => bd (ck h3 a0 13) fun _ => bd2 (fX13_good1 h3 a0 v4) fun v6 h4 => some (v6, h4))
set_option maxRecDepth 20000 in
theorem tX13_kept {r : Int32} {h' : MH} {h : MH} {a0 : Nat} (hf : fX13_kept h a0 = some (r, h')) : VM mX13_kept 7 (some (.int r)) h' h [.ref a0] := by
  show V TT mX13_kept 7 _ h' h 0 [.ref a0] []
  unfold fX13_kept at hf
  refine V.aload_n (q := 1) rfl dX13_kept_0 rfl rfl ?_
  refine V.iconst (q := 2) (v := 0) (by decide) dX13_kept_1 rfl ?_
  obtain ⟨h1, eh1, hf⟩ := bd_ex hf
  refine V.putI (q := 5) (fpX13_48 rfl) rfl eh1 dX13_kept_2 rfl ?_
  refine V.aload_n (q := 6) rfl dX13_kept_5 rfl rfl ?_
  obtain ⟨z1, ez1, hf⟩ := bd_ex hf
  refine V.getZN (q := 9) (q2 := 12) (tgt := 18) flX13_338 rfl ez1 dX13_kept_6 rfl dX13_kept_9 rfl (by decide) (fun c => ?_) (fun c => ?_)
  · rw [if_neg c] at hf
    refine V.aload_n (q := 19) rfl dX13_kept_18 rfl rfl ?_
    obtain ⟨_, e2, hf⟩ := bd_ex hf
    obtain ⟨h2, eh2, hf⟩ := bd_ex hf
    refine V.callV (q := 22) (ci := 13) (vs := []) (st := []) (S2 := []) okX13_asInk imX13_asInk seX13_asInk rfl lkX13_391 (tX13_asInk eh2) rfl (ck_is e2) (by decide) rfl (Nat.le_of_ble_eq_true rfl) (Nat.le_of_ble_eq_true rfl) rfl dX13_kept_19 rfl rfl ?_
    refine V.aload_n (q := 23) rfl dX13_kept_22 rfl rfl ?_
    refine V.aload_n (q := 24) rfl dX13_kept_23 rfl rfl ?_
    obtain ⟨_, e3, hf⟩ := bd_ex hf
    obtain ⟨v4, h3, eh3, hf⟩ := bd2_ex hf
    refine V.callV (q := 27) (ci := 13) (vs := []) (st := [.ref a0]) (S2 := [.int v4, .ref a0]) okX13_keeps imX13_keeps seX13_keeps rfl lkX13_394 (tX13_keeps eh3) rfl (ck_is e3) (by decide) rfl (Nat.le_of_ble_eq_true rfl) (Nat.le_of_ble_eq_true rfl) rfl dX13_kept_24 rfl rfl ?_
    obtain ⟨_, e5, hf⟩ := bd_ex hf
    obtain ⟨v6, h4, eh4, hf⟩ := bd2_ex hf
    refine V.callV (q := 30) (ci := 13) (vs := [.int v4]) (st := []) (S2 := [.int v6]) okX13_good1 imX13_good1 seX13_good1 rfl lkX13_58 (tX13_good1 eh4) rfl (ck_is e5) (by decide) rfl (Nat.le_of_ble_eq_true rfl) (Nat.le_of_ble_eq_true rfl) rfl dX13_kept_27 rfl rfl ?_
    obtain ⟨rfl, rfl⟩ := ret_inj hf
    exact V.ret (r := some (.int v6)) trivial dX13_kept_30
  · rw [if_pos c] at hf
    refine V.aload_n (q := 13) rfl dX13_kept_12 rfl rfl ?_
    refine V.iconst (q := 14) (v := 1) (by decide) dX13_kept_13 rfl ?_
    obtain ⟨_, e7, hf⟩ := bd_ex hf
    obtain ⟨v8, h5, eh5, hf⟩ := bd2_ex hf
    refine V.callV (q := 17) (ci := 13) (vs := [.int 1]) (st := []) (S2 := [.int v8]) okX13_refused imX13_refused seX13_refused rfl lkX13_54 (tX13_refused eh5) rfl (ck_is e7) (by decide) rfl (Nat.le_of_ble_eq_true rfl) (Nat.le_of_ble_eq_true rfl) rfl dX13_kept_14 rfl rfl ?_
    obtain ⟨rfl, rfl⟩ := ret_inj hf
    exact V.ret (r := some (.int v8)) trivial dX13_kept_17
def fX13_keptBy (h : MH) (a0 : Nat) (x1 : Int32) : Option (Int32 × MH) := bd (pI h a0 13 0 0) fun h1 => bd (ck h1 a0 13) fun _ => bd2 (fX13_isPaper h1 a0 x1) fun v2 h2 => if v2 = 0 then (bd (ck h2 a0 13) fun _ => bd2 (fX13_refused h2 a0 1) fun v4 h3 => some (v4, h3)) else (bd (ck h2 a0 13) fun _ => bd (fX13_asInk h2 a0 ) fun h3 => bd (ck h3 a0 13) fun _ => bd2 (fX13_keeps h3 a0 ) fun v5 h4 => bd (gR h4 a0 13 21) fun b6 => bd (lI h4 b6 x1) fun v7 => if v7 = (-2) then (bd (ck h4 a0 13) fun _ => bd2 (fX13_good1 h4 a0 (-2)) fun v9 h5 => some (v9, h5)) else (bd (gR h4 a0 13 21) fun b8 => bd (lI h4 b8 x1) fun v9 => bd (gR h4 a0 13 3) fun b10 => bd (gI h4 b10 12 5) fun v11 => bd (nz v11) fun _ => bd (gR h4 a0 13 21) fun b13 => bd (lI h4 b13 x1) fun v14 => bd (gR h4 a0 13 3) fun b15 => bd (gI h4 b15 12 5) fun v16 => bd (nz v16) fun _ => bd (ck h4 a0 13) fun _ => bd2 (fX13_good1 h4 a0 ((10 * (v9 / v11)) + (v14 - v14 / v16 * v16))) fun v19 h5 => some (v19, h5)))
set_option maxRecDepth 20000 in
theorem tX13_keptBy {r : Int32} {h' : MH} {h : MH} {a0 : Nat} {x1 : Int32} (hf : fX13_keptBy h a0 x1 = some (r, h')) : VM mX13_keptBy 7 (some (.int r)) h' h [.ref a0, .int x1] := by
  show V TT mX13_keptBy 7 _ h' h 0 [.ref a0, .int x1] []
  unfold fX13_keptBy at hf
  refine V.aload_n (q := 1) rfl dX13_keptBy_0 rfl rfl ?_
  refine V.iconst (q := 2) (v := 0) (by decide) dX13_keptBy_1 rfl ?_
  obtain ⟨h1, eh1, hf⟩ := bd_ex hf
  refine V.putI (q := 5) (fpX13_48 rfl) rfl eh1 dX13_keptBy_2 rfl ?_
  refine V.aload_n (q := 6) rfl dX13_keptBy_5 rfl rfl ?_
  refine V.iload_n (q := 7) rfl dX13_keptBy_6 rfl rfl ?_
  obtain ⟨_, e1, hf⟩ := bd_ex hf
  obtain ⟨v2, h2, eh2, hf⟩ := bd2_ex hf
  refine V.callV (q := 10) (ci := 13) (vs := [.int x1]) (st := []) (S2 := [.int v2]) okX13_isPaper imX13_isPaper seX13_isPaper rfl lkX13_355 (tX13_isPaper eh2) rfl (ck_is e1) (by decide) rfl (Nat.le_of_ble_eq_true rfl) (Nat.le_of_ble_eq_true rfl) rfl dX13_keptBy_7 rfl rfl ?_
  refine V.if_ne (q := 13) (tgt := 19) dX13_keptBy_10 rfl (by decide) (fun c => ?_) (fun c => ?_)
  · rw [if_neg c] at hf
    refine V.aload_n (q := 20) rfl dX13_keptBy_19 rfl rfl ?_
    obtain ⟨_, e3, hf⟩ := bd_ex hf
    obtain ⟨h3, eh3, hf⟩ := bd_ex hf
    refine V.callV (q := 23) (ci := 13) (vs := []) (st := []) (S2 := []) okX13_asInk imX13_asInk seX13_asInk rfl lkX13_391 (tX13_asInk eh3) rfl (ck_is e3) (by decide) rfl (Nat.le_of_ble_eq_true rfl) (Nat.le_of_ble_eq_true rfl) rfl dX13_keptBy_20 rfl rfl ?_
    refine V.aload_n (q := 24) rfl dX13_keptBy_23 rfl rfl ?_
    obtain ⟨_, e4, hf⟩ := bd_ex hf
    obtain ⟨v5, h4, eh4, hf⟩ := bd2_ex hf
    refine V.callV (q := 27) (ci := 13) (vs := []) (st := []) (S2 := [.int v5]) okX13_keeps imX13_keeps seX13_keeps rfl lkX13_394 (tX13_keeps eh4) rfl (ck_is e4) (by decide) rfl (Nat.le_of_ble_eq_true rfl) (Nat.le_of_ble_eq_true rfl) rfl dX13_keptBy_24 rfl rfl ?_
    refine V.popI (q := 28) dX13_keptBy_27 rfl ?_
    refine V.aload_n (q := 29) rfl dX13_keptBy_28 rfl rfl ?_
    refine V.aload_n (q := 30) rfl dX13_keptBy_29 rfl rfl ?_
    obtain ⟨b6, eb6, hf⟩ := bd_ex hf
    refine V.getR (q := 33) flX13_30 rfl eb6 dX13_keptBy_30 rfl ?_
    refine V.iload_n (q := 34) rfl dX13_keptBy_33 rfl rfl ?_
    obtain ⟨v7, ev7, hf⟩ := bd_ex hf
    refine V.iald (q := 35) ev7 dX13_keptBy_34 rfl ?_
    refine V.bipush (q := 37) (v := (-2)) (by decide) dX13_keptBy_35 rfl ?_
    refine V.icmp_ne (q := 40) (tgt := 45) dX13_keptBy_37 rfl (by decide) (fun c => ?_) (fun c => ?_)
    · rw [if_neg c] at hf
      refine V.bipush (q := 47) (v := 10) (by decide) dX13_keptBy_45 rfl ?_
      refine V.aload_n (q := 48) rfl dX13_keptBy_47 rfl rfl ?_
      obtain ⟨b8, eb8, hf⟩ := bd_ex hf
      refine V.getR (q := 51) flX13_30 rfl eb8 dX13_keptBy_48 rfl ?_
      refine V.iload_n (q := 52) rfl dX13_keptBy_51 rfl rfl ?_
      obtain ⟨v9, ev9, hf⟩ := bd_ex hf
      refine V.iald (q := 53) ev9 dX13_keptBy_52 rfl ?_
      refine V.aload_n (q := 54) rfl dX13_keptBy_53 rfl rfl ?_
      obtain ⟨b10, eb10, hf⟩ := bd_ex hf
      refine V.getR (q := 57) flX13_338 rfl eb10 dX13_keptBy_54 rfl ?_
      obtain ⟨v11, ev11, hf⟩ := bd_ex hf
      refine V.getI (q := 60) flX13_298 rfl ev11 dX13_keptBy_57 rfl ?_
      obtain ⟨_, e12, hf⟩ := bd_ex hf
      refine V.idiv (q := 61) (nz_is e12) dX13_keptBy_60 rfl ?_
      refine V.imul (q := 62) dX13_keptBy_61 rfl ?_
      refine V.aload_n (q := 63) rfl dX13_keptBy_62 rfl rfl ?_
      obtain ⟨b13, eb13, hf⟩ := bd_ex hf
      refine V.getR (q := 66) flX13_30 rfl eb13 dX13_keptBy_63 rfl ?_
      refine V.iload_n (q := 67) rfl dX13_keptBy_66 rfl rfl ?_
      obtain ⟨v14, ev14, hf⟩ := bd_ex hf
      refine V.iald (q := 68) ev14 dX13_keptBy_67 rfl ?_
      refine V.aload_n (q := 69) rfl dX13_keptBy_68 rfl rfl ?_
      obtain ⟨b15, eb15, hf⟩ := bd_ex hf
      refine V.getR (q := 72) flX13_338 rfl eb15 dX13_keptBy_69 rfl ?_
      obtain ⟨v16, ev16, hf⟩ := bd_ex hf
      refine V.getI (q := 75) flX13_298 rfl ev16 dX13_keptBy_72 rfl ?_
      obtain ⟨_, e17, hf⟩ := bd_ex hf
      refine V.irem (q := 76) (nz_is e17) dX13_keptBy_75 rfl ?_
      refine V.iadd (q := 77) dX13_keptBy_76 rfl ?_
      obtain ⟨_, e18, hf⟩ := bd_ex hf
      obtain ⟨v19, h5, eh5, hf⟩ := bd2_ex hf
      refine V.callV (q := 80) (ci := 13) (vs := [.int ((10 * (v9 / v11)) + (v14 - v14 / v16 * v16))]) (st := []) (S2 := [.int v19]) okX13_good1 imX13_good1 seX13_good1 rfl lkX13_58 (tX13_good1 eh5) rfl (ck_is e18) (by decide) rfl (Nat.le_of_ble_eq_true rfl) (Nat.le_of_ble_eq_true rfl) rfl dX13_keptBy_77 rfl rfl ?_
      obtain ⟨rfl, rfl⟩ := ret_inj hf
      exact V.ret (r := some (.int v19)) trivial dX13_keptBy_80
    · rw [if_pos c] at hf
      refine V.bipush (q := 42) (v := (-2)) (by decide) dX13_keptBy_40 rfl ?_
      refine V.goto (q := 77) dX13_keptBy_42 (by decide) ?_
      obtain ⟨_, e8, hf⟩ := bd_ex hf
      obtain ⟨v9, h5, eh5, hf⟩ := bd2_ex hf
      refine V.callV (q := 80) (ci := 13) (vs := [.int (-2)]) (st := []) (S2 := [.int v9]) okX13_good1 imX13_good1 seX13_good1 rfl lkX13_58 (tX13_good1 eh5) rfl (ck_is e8) (by decide) rfl (Nat.le_of_ble_eq_true rfl) (Nat.le_of_ble_eq_true rfl) rfl dX13_keptBy_77 rfl rfl ?_
      obtain ⟨rfl, rfl⟩ := ret_inj hf
      exact V.ret (r := some (.int v9)) trivial dX13_keptBy_80
  · rw [if_pos c] at hf
    refine V.aload_n (q := 14) rfl dX13_keptBy_13 rfl rfl ?_
    refine V.iconst (q := 15) (v := 1) (by decide) dX13_keptBy_14 rfl ?_
    obtain ⟨_, e3, hf⟩ := bd_ex hf
    obtain ⟨v4, h3, eh3, hf⟩ := bd2_ex hf
    refine V.callV (q := 18) (ci := 13) (vs := [.int 1]) (st := []) (S2 := [.int v4]) okX13_refused imX13_refused seX13_refused rfl lkX13_54 (tX13_refused eh3) rfl (ck_is e3) (by decide) rfl (Nat.le_of_ble_eq_true rfl) (Nat.le_of_ble_eq_true rfl) rfl dX13_keptBy_15 rfl rfl ?_
    obtain ⟨rfl, rfl⟩ := ret_inj hf
    exact V.ret (r := some (.int v4)) trivial dX13_keptBy_18
def bX13_knownOne_47  (h : MH) (a0 : Nat) (x2 : Int32) : Option (Int32 × MH) := bd (gI h a0 13 9) fun v1 => if v1 = 6 then (some (0, h)) else (bd (gR h a0 13 4) fun b2 => bd (gR h b2 12 26) fun b3 => bd (lI h b3 x2) fun v4 => some (v4, h))
set_option maxRecDepth 20000 in
theorem tX13_knownOne_47 {r : Int32} {h' : MH}   {h : MH} {a0 : Nat} {x2 : Int32} (hf : bX13_knownOne_47  h a0 x2 = some (r, h')) : V TT mX13_knownOne 7 (some (.int r)) h' h 47 [.ref a0, Jk, .int x2] [] := by
  unfold bX13_knownOne_47 at hf
  refine V.aload_n (q := 48) rfl dX13_knownOne_47 rfl rfl ?_
  obtain ⟨v1, ev1, hf⟩ := bd_ex hf
  refine V.getI (q := 51) flX13_80 rfl ev1 dX13_knownOne_48 rfl ?_
  refine V.bipush (q := 53) (v := 6) (by decide) dX13_knownOne_51 rfl ?_
  refine V.icmp_ne (q := 56) (tgt := 60) dX13_knownOne_53 rfl (by decide) (fun c => ?_) (fun c => ?_)
  · rw [if_neg c] at hf
    refine V.aload_n (q := 61) rfl dX13_knownOne_60 rfl rfl ?_
    obtain ⟨b2, eb2, hf⟩ := bd_ex hf
    refine V.getR (q := 64) flX13_157 rfl eb2 dX13_knownOne_61 rfl ?_
    obtain ⟨b3, eb3, hf⟩ := bd_ex hf
    refine V.getR (q := 67) flX13_184 rfl eb3 dX13_knownOne_64 rfl ?_
    refine V.iload_n (q := 68) rfl dX13_knownOne_67 rfl rfl ?_
    obtain ⟨v4, ev4, hf⟩ := bd_ex hf
    refine V.iald (q := 69) ev4 dX13_knownOne_68 rfl ?_
    obtain ⟨rfl, rfl⟩ := ret_inj hf
    exact V.ret (r := some (.int v4)) trivial dX13_knownOne_69
  · rw [if_pos c] at hf
    refine V.iconst (q := 57) (v := 0) (by decide) dX13_knownOne_56 rfl ?_
    refine V.goto (q := 69) dX13_knownOne_57 (by decide) ?_
    obtain ⟨rfl, rfl⟩ := ret_inj hf
    exact V.ret (r := some (.int 0)) trivial dX13_knownOne_69
def bX13_knownOne_12  (h : MH) (a0 : Nat) (x1 : Int32) : Option (Int32 × MH) := bd (gR h a0 13 4) fun b1 => bd (gJ h a0 13 14) fun w2 => bd (ck h b1 12) fun _ => bd2 (fX12_find h b1 w2) fun v4 h1 => if v4 = (-1) then (bd (ck h1 a0 13) fun _ => bd (fX13_flaw h1 a0 2) fun h2 => bX13_knownOne_47 h2 a0 v4) else (bd (gR h1 a0 13 4) fun b5 => bd (gR h1 b5 12 25) fun b6 => bd (lI h1 b6 v4) fun v7 => if v7 = x1 then (bX13_knownOne_47 h1 a0 v4) else (bd (ck h1 a0 13) fun _ => bd (fX13_flaw h1 a0 2) fun h2 => bX13_knownOne_47 h2 a0 v4))
set_option maxRecDepth 20000 in
theorem tX13_knownOne_12 {r : Int32} {h' : MH}   {h : MH} {a0 : Nat} {x1 : Int32} (hf : bX13_knownOne_12  h a0 x1 = some (r, h')) : V TT mX13_knownOne 7 (some (.int r)) h' h 12 [.ref a0, .int x1, Jk] [] := by
  unfold bX13_knownOne_12 at hf
  refine V.aload_n (q := 13) rfl dX13_knownOne_12 rfl rfl ?_
  obtain ⟨b1, eb1, hf⟩ := bd_ex hf
  refine V.getR (q := 16) flX13_157 rfl eb1 dX13_knownOne_13 rfl ?_
  refine V.aload_n (q := 17) rfl dX13_knownOne_16 rfl rfl ?_
  obtain ⟨w2, ew2, hf⟩ := bd_ex hf
  refine V.getJ (q := 20) flX13_96 rfl ew2 dX13_knownOne_17 rfl ?_
  obtain ⟨_, e3, hf⟩ := bd_ex hf
  obtain ⟨v4, h1, eh1, hf⟩ := bd2_ex hf
  refine V.callV (q := 23) (ci := 12) (vs := [.long w2]) (st := []) (S2 := [.int v4]) okX12_find imX12_find seX12_find rfl lkX13_170 (tX12_find eh1) rfl (ck_is e3) (by decide) rfl (Nat.le_of_ble_eq_true rfl) (Nat.le_of_ble_eq_true rfl) rfl dX13_knownOne_20 rfl rfl ?_
  refine V.istore_n (q := 24) (L' := [.ref a0, .int x1, .int v4]) rfl dX13_knownOne_23 rfl (by decide) rfl rfl ?_
  refine V.iload_n (q := 25) rfl dX13_knownOne_24 rfl rfl ?_
  refine V.iconst (q := 26) (v := (-1)) (by decide) dX13_knownOne_25 rfl ?_
  refine V.icmp_eq (q := 29) (tgt := 42) dX13_knownOne_26 rfl (by decide) (fun c => ?_) (fun c => ?_)
  · rw [if_pos c] at hf
    refine V.aload_n (q := 43) rfl dX13_knownOne_42 rfl rfl ?_
    refine V.iconst (q := 44) (v := 2) (by decide) dX13_knownOne_43 rfl ?_
    obtain ⟨_, e5, hf⟩ := bd_ex hf
    obtain ⟨h2, eh2, hf⟩ := bd_ex hf
    refine V.callV (q := 47) (ci := 13) (vs := [.int 2]) (st := []) (S2 := []) okX13_flaw imX13_flaw seX13_flaw rfl lkX13_123 (tX13_flaw eh2) rfl (ck_is e5) (by decide) rfl (Nat.le_of_ble_eq_true rfl) (Nat.le_of_ble_eq_true rfl) rfl dX13_knownOne_44 rfl rfl ?_
    refine V.forget (L' := [.ref a0, Jk, .int v4]) ⟨Or.inr rfl, Or.inl rfl, Or.inr rfl, trivial⟩ ?_
    exact tX13_knownOne_47  hf
  · rw [if_neg c] at hf
    refine V.aload_n (q := 30) rfl dX13_knownOne_29 rfl rfl ?_
    obtain ⟨b5, eb5, hf⟩ := bd_ex hf
    refine V.getR (q := 33) flX13_157 rfl eb5 dX13_knownOne_30 rfl ?_
    obtain ⟨b6, eb6, hf⟩ := bd_ex hf
    refine V.getR (q := 36) flX13_181 rfl eb6 dX13_knownOne_33 rfl ?_
    refine V.iload_n (q := 37) rfl dX13_knownOne_36 rfl rfl ?_
    obtain ⟨v7, ev7, hf⟩ := bd_ex hf
    refine V.iald (q := 38) ev7 dX13_knownOne_37 rfl ?_
    refine V.iload_n (q := 39) rfl dX13_knownOne_38 rfl rfl ?_
    refine V.icmp_eq (q := 42) (tgt := 47) dX13_knownOne_39 rfl (by decide) (fun c => ?_) (fun c => ?_)
    · rw [if_pos c] at hf
      refine V.forget (L' := [.ref a0, Jk, .int v4]) ⟨Or.inr rfl, Or.inl rfl, Or.inr rfl, trivial⟩ ?_
      exact tX13_knownOne_47  hf
    · rw [if_neg c] at hf
      refine V.aload_n (q := 43) rfl dX13_knownOne_42 rfl rfl ?_
      refine V.iconst (q := 44) (v := 2) (by decide) dX13_knownOne_43 rfl ?_
      obtain ⟨_, e8, hf⟩ := bd_ex hf
      obtain ⟨h2, eh2, hf⟩ := bd_ex hf
      refine V.callV (q := 47) (ci := 13) (vs := [.int 2]) (st := []) (S2 := []) okX13_flaw imX13_flaw seX13_flaw rfl lkX13_123 (tX13_flaw eh2) rfl (ck_is e8) (by decide) rfl (Nat.le_of_ble_eq_true rfl) (Nat.le_of_ble_eq_true rfl) rfl dX13_knownOne_44 rfl rfl ?_
      refine V.forget (L' := [.ref a0, Jk, .int v4]) ⟨Or.inr rfl, Or.inl rfl, Or.inr rfl, trivial⟩ ?_
      exact tX13_knownOne_47  hf
def fX13_knownOne (h : MH) (a0 : Nat) (x1 : Int32) : Option (Int32 × MH) := bd (ck h a0 13) fun _ => bd2 (fX13_isName h a0 ) fun v2 h1 => if v2 = 0 then (bd (ck h1 a0 13) fun _ => bd (fX13_flaw h1 a0 1) fun h2 => bX13_knownOne_12 h2 a0 x1) else (bX13_knownOne_12 h1 a0 x1)
set_option maxRecDepth 20000 in
theorem tX13_knownOne {r : Int32} {h' : MH} {h : MH} {a0 : Nat} {x1 : Int32} (hf : fX13_knownOne h a0 x1 = some (r, h')) : VM mX13_knownOne 7 (some (.int r)) h' h [.ref a0, .int x1] := by
  show V TT mX13_knownOne 7 _ h' h 0 [.ref a0, .int x1, Jk] []
  unfold fX13_knownOne at hf
  refine V.aload_n (q := 1) rfl dX13_knownOne_0 rfl rfl ?_
  obtain ⟨_, e1, hf⟩ := bd_ex hf
  obtain ⟨v2, h1, eh1, hf⟩ := bd2_ex hf
  refine V.callV (q := 4) (ci := 13) (vs := []) (st := []) (S2 := [.int v2]) okX13_isName imX13_isName seX13_isName rfl lkX13_166 (tX13_isName eh1) rfl (ck_is e1) (by decide) rfl (Nat.le_of_ble_eq_true rfl) (Nat.le_of_ble_eq_true rfl) rfl dX13_knownOne_1 rfl rfl ?_
  refine V.if_ne (q := 7) (tgt := 12) dX13_knownOne_4 rfl (by decide) (fun c => ?_) (fun c => ?_)
  · rw [if_neg c] at hf
    exact tX13_knownOne_12  hf
  · rw [if_pos c] at hf
    refine V.aload_n (q := 8) rfl dX13_knownOne_7 rfl rfl ?_
    refine V.iconst (q := 9) (v := 1) (by decide) dX13_knownOne_8 rfl ?_
    obtain ⟨_, e3, hf⟩ := bd_ex hf
    obtain ⟨h2, eh2, hf⟩ := bd_ex hf
    refine V.callV (q := 12) (ci := 13) (vs := [.int 1]) (st := []) (S2 := []) okX13_flaw imX13_flaw seX13_flaw rfl lkX13_123 (tX13_flaw eh2) rfl (ck_is e3) (by decide) rfl (Nat.le_of_ble_eq_true rfl) (Nat.le_of_ble_eq_true rfl) rfl dX13_knownOne_9 rfl rfl ?_
    exact tX13_knownOne_12  hf
def fX13_lawOf (h : MH) (a0 : Nat) (x1 : Int32) (x2 : Int32) : Option (Int32 × MH) := if 3 ≤ x1 then (bd (some (x1 - 3)) fun v1 => bd (nz 6) fun _ => bd (some (v1 / 6)) fun v3 => bd2 (fX13_bit h x2 v3) fun v4 h1 => bd (nz 6) fun _ => bd (nz 2) fun _ => bd (some ((v1 - v1 / 6 * 6) / 2)) fun v7 => bd (nz 2) fun _ => bd (nz 3) fun _ => bd (some (((v7 + 1) + (v1 - v1 / 2 * 2)) - ((v7 + 1) + (v1 - v1 / 2 * 2)) / 3 * 3)) fun v10 => if v4 = 0 then (some (v10, h1)) else (some (v7, h1))) else (some (x1, h))
set_option maxRecDepth 20000 in
theorem tX13_lawOf {r : Int32} {h' : MH} {h : MH} {a0 : Nat} {x1 : Int32} {x2 : Int32} (hf : fX13_lawOf h a0 x1 x2 = some (r, h')) : VM mX13_lawOf 1 (some (.int r)) h' h [.ref a0, .int x1, .int x2] := by
  show V TT mX13_lawOf 1 _ h' h 0 [.ref a0, .int x1, .int x2, Jk, Jk, Jk, Jk, Jk] []
  unfold fX13_lawOf at hf
  refine V.iload_n (q := 1) rfl dX13_lawOf_0 rfl rfl ?_
  refine V.iconst (q := 2) (v := 3) (by decide) dX13_lawOf_1 rfl ?_
  refine V.icmp_ge (q := 5) (tgt := 7) dX13_lawOf_2 rfl (by decide) (fun c => ?_) (fun c => ?_)
  · rw [if_pos c] at hf
    refine V.iload_n (q := 8) rfl dX13_lawOf_7 rfl rfl ?_
    refine V.iconst (q := 9) (v := 3) (by decide) dX13_lawOf_8 rfl ?_
    refine V.isub (q := 10) dX13_lawOf_9 rfl ?_
    obtain ⟨v1, ev1, hf⟩ := bd_ex hf
    refine V.topI (Option.some.inj ev1) ?_
    refine V.istore_n (q := 11) (L' := [.ref a0, .int x1, .int x2, .int v1, Jk, Jk, Jk, Jk]) rfl dX13_lawOf_10 rfl (by decide) rfl rfl ?_
    refine V.iload_n (q := 12) rfl dX13_lawOf_11 rfl rfl ?_
    refine V.bipush (q := 14) (v := 6) (by decide) dX13_lawOf_12 rfl ?_
    obtain ⟨_, e2, hf⟩ := bd_ex hf
    refine V.idiv (q := 15) (nz_is e2) dX13_lawOf_14 rfl ?_
    obtain ⟨v3, ev3, hf⟩ := bd_ex hf
    refine V.topI (Option.some.inj ev3) ?_
    refine V.istore (q := 17) (L' := [.ref a0, .int x1, .int x2, .int v1, .int v3, Jk, Jk, Jk]) dX13_lawOf_15 rfl (by decide) rfl rfl ?_
    refine V.iload_n (q := 18) rfl dX13_lawOf_17 rfl rfl ?_
    refine V.iload (q := 20) dX13_lawOf_18 rfl rfl ?_
    obtain ⟨v4, h1, eh1, hf⟩ := bd2_ex hf
    refine V.callS (q := 23) (vs := [.int x2, .int v3]) (st := []) (S2 := [.int v4]) okX13_bit stX13_bit lkX13_199 (tX13_bit eh1) rfl (by decide) rfl (Nat.le_of_ble_eq_true rfl) (Nat.le_of_ble_eq_true rfl) rfl dX13_lawOf_20 rfl rfl ?_
    refine V.istore (q := 25) (L' := [.ref a0, .int x1, .int x2, .int v1, .int v3, .int v4, Jk, Jk]) dX13_lawOf_23 rfl (by decide) rfl rfl ?_
    refine V.iload_n (q := 26) rfl dX13_lawOf_25 rfl rfl ?_
    refine V.bipush (q := 28) (v := 6) (by decide) dX13_lawOf_26 rfl ?_
    obtain ⟨_, e5, hf⟩ := bd_ex hf
    refine V.irem (q := 29) (nz_is e5) dX13_lawOf_28 rfl ?_
    refine V.iconst (q := 30) (v := 2) (by decide) dX13_lawOf_29 rfl ?_
    obtain ⟨_, e6, hf⟩ := bd_ex hf
    refine V.idiv (q := 31) (nz_is e6) dX13_lawOf_30 rfl ?_
    obtain ⟨v7, ev7, hf⟩ := bd_ex hf
    refine V.topI (Option.some.inj ev7) ?_
    refine V.istore (q := 33) (L' := [.ref a0, .int x1, .int x2, .int v1, .int v3, .int v4, .int v7, Jk]) dX13_lawOf_31 rfl (by decide) rfl rfl ?_
    refine V.iload (q := 35) dX13_lawOf_33 rfl rfl ?_
    refine V.iconst (q := 36) (v := 1) (by decide) dX13_lawOf_35 rfl ?_
    refine V.iadd (q := 37) dX13_lawOf_36 rfl ?_
    refine V.iload_n (q := 38) rfl dX13_lawOf_37 rfl rfl ?_
    refine V.iconst (q := 39) (v := 2) (by decide) dX13_lawOf_38 rfl ?_
    obtain ⟨_, e8, hf⟩ := bd_ex hf
    refine V.irem (q := 40) (nz_is e8) dX13_lawOf_39 rfl ?_
    refine V.iadd (q := 41) dX13_lawOf_40 rfl ?_
    refine V.iconst (q := 42) (v := 3) (by decide) dX13_lawOf_41 rfl ?_
    obtain ⟨_, e9, hf⟩ := bd_ex hf
    refine V.irem (q := 43) (nz_is e9) dX13_lawOf_42 rfl ?_
    obtain ⟨v10, ev10, hf⟩ := bd_ex hf
    refine V.topI (Option.some.inj ev10) ?_
    refine V.istore (q := 45) (L' := [.ref a0, .int x1, .int x2, .int v1, .int v3, .int v4, .int v7, .int v10]) dX13_lawOf_43 rfl (by decide) rfl rfl ?_
    refine V.iload (q := 47) dX13_lawOf_45 rfl rfl ?_
    refine V.if_eq (q := 50) (tgt := 55) dX13_lawOf_47 rfl (by decide) (fun c => ?_) (fun c => ?_)
    · rw [if_pos c] at hf
      refine V.iload (q := 57) dX13_lawOf_55 rfl rfl ?_
      obtain ⟨rfl, rfl⟩ := ret_inj hf
      exact V.ret (r := some (.int v10)) trivial dX13_lawOf_57
    · rw [if_neg c] at hf
      refine V.iload (q := 52) dX13_lawOf_50 rfl rfl ?_
      refine V.goto (q := 57) dX13_lawOf_52 (by decide) ?_
      obtain ⟨rfl, rfl⟩ := ret_inj hf
      exact V.ret (r := some (.int v7)) trivial dX13_lawOf_57
  · rw [if_neg c] at hf
    refine V.iload_n (q := 6) rfl dX13_lawOf_5 rfl rfl ?_
    obtain ⟨rfl, rfl⟩ := ret_inj hf
    exact V.ret (r := some (.int x1)) trivial dX13_lawOf_6
def bX13_lawFits_2 (k2 : MH → Nat → Int32 → Int32 → Option (Int32 × MH)) (h : MH) (a0 : Nat) (x1 : Int32) (x2 : Int32) : Option (Int32 × MH) := bd (gR h a0 13 3) fun b1 => bd (gI h b1 12 7) fun v2 => if v2 ≤ x2 then (some (1, h)) else (bd (gR h a0 13 3) fun b3 => bd (gR h b3 12 22) fun b4 => bd (lI h b4 x2) fun v5 => bd (gR h a0 13 15) fun b6 => bd (gR h a0 13 3) fun b7 => bd (gR h b7 12 21) fun b8 => bd (lI h b8 x2) fun v9 => bd (lI h b6 (11 + v9)) fun v10 => bd (ck h a0 13) fun _ => bd2 (fX13_lawOf h a0 x1 v10) fun v12 h1 => bd (ck h1 a0 13) fun _ => bd2 (fX13_printsBy h1 a0 v5 v12) fun v14 h2 => bd (gR h2 a0 13 3) fun b15 => bd (gR h2 b15 12 23) fun b16 => bd (lI h2 b16 x2) fun v17 => if v14 = v17 then (bd (some (x2 + 1)) fun v18 => k2 h2 a0 x1 v18) else (some (0, h2)))
set_option maxRecDepth 20000 in
theorem tX13_lawFits_2 {r : Int32} {h' : MH} (k2 : MH → Nat → Int32 → Int32 → Option (Int32 × MH)) (hk2 : ∀ (h : MH) (a0 : Nat) (x1 : Int32) (x2 : Int32), k2 h a0 x1 x2 = some (r, h') → V TT mX13_lawFits 2 (some (.int r)) h' h 2 [.ref a0, .int x1, .int x2] [])  {h : MH} {a0 : Nat} {x1 : Int32} {x2 : Int32} (hf : bX13_lawFits_2 k2 h a0 x1 x2 = some (r, h')) : V TT mX13_lawFits 2 (some (.int r)) h' h 2 [.ref a0, .int x1, .int x2] [] := by
  unfold bX13_lawFits_2 at hf
  refine V.iload_n (q := 3) rfl dX13_lawFits_2 rfl rfl ?_
  refine V.aload_n (q := 4) rfl dX13_lawFits_3 rfl rfl ?_
  obtain ⟨b1, eb1, hf⟩ := bd_ex hf
  refine V.getR (q := 7) flX13_338 rfl eb1 dX13_lawFits_4 rfl ?_
  obtain ⟨v2, ev2, hf⟩ := bd_ex hf
  refine V.getI (q := 10) flX13_320 rfl ev2 dX13_lawFits_7 rfl ?_
  refine V.icmp_ge (q := 13) (tgt := 68) dX13_lawFits_10 rfl (by decide) (fun c => ?_) (fun c => ?_)
  · rw [if_pos c] at hf
    refine V.iconst (q := 69) (v := 1) (by decide) dX13_lawFits_68 rfl ?_
    obtain ⟨rfl, rfl⟩ := ret_inj hf
    exact V.ret (r := some (.int 1)) (Or.inr rfl) dX13_lawFits_69
  · rw [if_neg c] at hf
    refine V.aload_n (q := 14) rfl dX13_lawFits_13 rfl rfl ?_
    refine V.aload_n (q := 15) rfl dX13_lawFits_14 rfl rfl ?_
    obtain ⟨b3, eb3, hf⟩ := bd_ex hf
    refine V.getR (q := 18) flX13_338 rfl eb3 dX13_lawFits_15 rfl ?_
    obtain ⟨b4, eb4, hf⟩ := bd_ex hf
    refine V.getR (q := 21) flX13_326 rfl eb4 dX13_lawFits_18 rfl ?_
    refine V.iload_n (q := 22) rfl dX13_lawFits_21 rfl rfl ?_
    obtain ⟨v5, ev5, hf⟩ := bd_ex hf
    refine V.iald (q := 23) ev5 dX13_lawFits_22 rfl ?_
    refine V.aload_n (q := 24) rfl dX13_lawFits_23 rfl rfl ?_
    refine V.iload_n (q := 25) rfl dX13_lawFits_24 rfl rfl ?_
    refine V.aload_n (q := 26) rfl dX13_lawFits_25 rfl rfl ?_
    obtain ⟨b6, eb6, hf⟩ := bd_ex hf
    refine V.getR (q := 29) flX13_17 rfl eb6 dX13_lawFits_26 rfl ?_
    refine V.bipush (q := 31) (v := 11) (by decide) dX13_lawFits_29 rfl ?_
    refine V.aload_n (q := 32) rfl dX13_lawFits_31 rfl rfl ?_
    obtain ⟨b7, eb7, hf⟩ := bd_ex hf
    refine V.getR (q := 35) flX13_338 rfl eb7 dX13_lawFits_32 rfl ?_
    obtain ⟨b8, eb8, hf⟩ := bd_ex hf
    refine V.getR (q := 38) flX13_323 rfl eb8 dX13_lawFits_35 rfl ?_
    refine V.iload_n (q := 39) rfl dX13_lawFits_38 rfl rfl ?_
    obtain ⟨v9, ev9, hf⟩ := bd_ex hf
    refine V.iald (q := 40) ev9 dX13_lawFits_39 rfl ?_
    refine V.iadd (q := 41) dX13_lawFits_40 rfl ?_
    obtain ⟨v10, ev10, hf⟩ := bd_ex hf
    refine V.iald (q := 42) ev10 dX13_lawFits_41 rfl ?_
    obtain ⟨_, e11, hf⟩ := bd_ex hf
    obtain ⟨v12, h1, eh1, hf⟩ := bd2_ex hf
    refine V.callV (q := 45) (ci := 13) (vs := [.int x1, .int v10]) (st := [.int v5, .ref a0]) (S2 := [.int v12, .int v5, .ref a0]) okX13_lawOf imX13_lawOf seX13_lawOf rfl lkX13_423 (tX13_lawOf eh1) rfl (ck_is e11) (by decide) rfl (Nat.le_of_ble_eq_true rfl) (Nat.le_of_ble_eq_true rfl) rfl dX13_lawFits_42 rfl rfl ?_
    obtain ⟨_, e13, hf⟩ := bd_ex hf
    obtain ⟨v14, h2, eh2, hf⟩ := bd2_ex hf
    refine V.callV (q := 48) (ci := 13) (vs := [.int v5, .int v12]) (st := []) (S2 := [.int v14]) okX13_printsBy imX13_printsBy seX13_printsBy rfl lkX13_352 (tX13_printsBy eh2) rfl (ck_is e13) (by decide) rfl (Nat.le_of_ble_eq_true rfl) (Nat.le_of_ble_eq_true rfl) rfl dX13_lawFits_45 rfl rfl ?_
    refine V.aload_n (q := 49) rfl dX13_lawFits_48 rfl rfl ?_
    obtain ⟨b15, eb15, hf⟩ := bd_ex hf
    refine V.getR (q := 52) flX13_338 rfl eb15 dX13_lawFits_49 rfl ?_
    obtain ⟨b16, eb16, hf⟩ := bd_ex hf
    refine V.getR (q := 55) flX13_329 rfl eb16 dX13_lawFits_52 rfl ?_
    refine V.iload_n (q := 56) rfl dX13_lawFits_55 rfl rfl ?_
    obtain ⟨v17, ev17, hf⟩ := bd_ex hf
    refine V.iald (q := 57) ev17 dX13_lawFits_56 rfl ?_
    refine V.icmp_eq (q := 60) (tgt := 62) dX13_lawFits_57 rfl (by decide) (fun c => ?_) (fun c => ?_)
    · rw [if_pos c] at hf
      obtain ⟨v18, ev18, hf⟩ := bd_ex hf
      refine V.iinc (q := 65) (v := v18) (L' := [.ref a0, .int x1, .int v18]) dX13_lawFits_62 rfl rfl (Option.some.inj ev18) (by decide) rfl rfl ?_
      refine V.goto (q := 2) dX13_lawFits_65 (by decide) ?_
      exact hk2 _ _ _ _ hf
    · rw [if_neg c] at hf
      refine V.iconst (q := 61) (v := 0) (by decide) dX13_lawFits_60 rfl ?_
      obtain ⟨rfl, rfl⟩ := ret_inj hf
      exact V.ret (r := some (.int 0)) (Or.inl rfl) dX13_lawFits_61
def fX13_lawFits_2  : Nat → MH → Nat → Int32 → Int32 → Option (Int32 × MH)
  | 0 => fun _ _ _ _ => none
  | n + 1 => bX13_lawFits_2  (fX13_lawFits_2  n)
theorem tlX13_lawFits_2 {r : Int32} {h' : MH}   : ∀ (n : Nat) (h : MH) (a0 : Nat) (x1 : Int32) (x2 : Int32), fX13_lawFits_2  n h a0 x1 x2 = some (r, h') → V TT mX13_lawFits 2 (some (.int r)) h' h 2 [.ref a0, .int x1, .int x2] [] := by
  intro n
  induction n with
  | zero => intro h a0 x1 x2 hf; exact nomatch (show (none : Option (Int32 × MH)) = some (r, h') from hf)
  | succ n ih => intro h a0 x1 x2 hf; exact tX13_lawFits_2  (fX13_lawFits_2  n) ih hf
def fX13_lawFits (h : MH) (a0 : Nat) (x1 : Int32) : Option (Int32 × MH) := fX13_lawFits_2 FU h a0 x1 0
set_option maxRecDepth 20000 in
theorem tX13_lawFits {r : Int32} {h' : MH} {h : MH} {a0 : Nat} {x1 : Int32} (hf : fX13_lawFits h a0 x1 = some (r, h')) : VM mX13_lawFits 2 (some (.int r)) h' h [.ref a0, .int x1] := by
  show V TT mX13_lawFits 2 _ h' h 0 [.ref a0, .int x1, Jk] []
  unfold fX13_lawFits at hf
  refine V.iconst (q := 1) (v := 0) (by decide) dX13_lawFits_0 rfl ?_
  refine V.istore_n (q := 2) (L' := [.ref a0, .int x1, .int 0]) rfl dX13_lawFits_1 rfl (by decide) rfl rfl ?_
  exact tlX13_lawFits_2  FU _ _ _ _ hf
def fX13_lawsAll (h : MH) (a0 : Nat) : Option (Int32 × MH) := bd (gR h a0 13 3) fun b1 => bd (gI h b1 12 1) fun v2 => some ((3 + (6 * v2)), h)
set_option maxRecDepth 20000 in
theorem tX13_lawsAll {r : Int32} {h' : MH} {h : MH} {a0 : Nat} (hf : fX13_lawsAll h a0 = some (r, h')) : VM mX13_lawsAll 0 (some (.int r)) h' h [.ref a0] := by
  show V TT mX13_lawsAll 0 _ h' h 0 [.ref a0] []
  unfold fX13_lawsAll at hf
  refine V.iconst (q := 1) (v := 3) (by decide) dX13_lawsAll_0 rfl ?_
  refine V.bipush (q := 3) (v := 6) (by decide) dX13_lawsAll_1 rfl ?_
  refine V.aload_n (q := 4) rfl dX13_lawsAll_3 rfl rfl ?_
  obtain ⟨b1, eb1, hf⟩ := bd_ex hf
  refine V.getR (q := 7) flX13_338 rfl eb1 dX13_lawsAll_4 rfl ?_
  obtain ⟨v2, ev2, hf⟩ := bd_ex hf
  refine V.getI (q := 10) flX13_238 rfl ev2 dX13_lawsAll_7 rfl ?_
  refine V.imul (q := 11) dX13_lawsAll_10 rfl ?_
  refine V.iadd (q := 12) dX13_lawsAll_11 rfl ?_
  obtain ⟨rfl, rfl⟩ := ret_inj hf
  exact V.ret (r := some (.int (3 + (6 * v2)))) trivial dX13_lawsAll_12
def bX13_lawsFor_5 (k5 : MH → Nat → Int32 → Int32 → Int32 → Int32 → Option (Int32 × MH)) (h : MH) (a0 : Nat) (x1 : Int32) (x2 : Int32) (x3 : Int32) (x4 : Int32) : Option (Int32 × MH) := bd (ck h a0 13) fun _ => bd2 (fX13_lawsAll h a0 ) fun v2 h1 => if v2 ≤ x4 then (some (x3, h1)) else (bd (ck h1 a0 13) fun _ => bd2 (fX13_lawFits h1 a0 x4) fun v4 h2 => if v4 = 0 then (bd (some (x3 + 0)) fun v5 => bd (some (x4 + 1)) fun v6 => k5 h2 a0 x1 x2 v5 v6) else (if x2 = (-1) then (bd (some (x3 + 1)) fun v5 => bd (some (x4 + 1)) fun v6 => k5 h2 a0 x1 x2 v5 v6) else (bd (gR h2 a0 13 15) fun b5 => bd (lI h2 b5 (11 + x1)) fun v6 => bd (ck h2 a0 13) fun _ => bd2 (fX13_lawOf h2 a0 x4 v6) fun v8 h3 => if v8 = x2 then (bd (some (x3 + 1)) fun v9 => bd (some (x4 + 1)) fun v10 => k5 h3 a0 x1 x2 v9 v10) else (bd (some (x3 + 0)) fun v9 => bd (some (x4 + 1)) fun v10 => k5 h3 a0 x1 x2 v9 v10))))
set_option maxRecDepth 20000 in
theorem tX13_lawsFor_5 {r : Int32} {h' : MH} (k5 : MH → Nat → Int32 → Int32 → Int32 → Int32 → Option (Int32 × MH)) (hk5 : ∀ (h : MH) (a0 : Nat) (x1 : Int32) (x2 : Int32) (x3 : Int32) (x4 : Int32), k5 h a0 x1 x2 x3 x4 = some (r, h') → V TT mX13_lawsFor 3 (some (.int r)) h' h 5 [.ref a0, .int x1, .int x2, .int x3, .int x4] [])  {h : MH} {a0 : Nat} {x1 : Int32} {x2 : Int32} {x3 : Int32} {x4 : Int32} (hf : bX13_lawsFor_5 k5 h a0 x1 x2 x3 x4 = some (r, h')) : V TT mX13_lawsFor 3 (some (.int r)) h' h 5 [.ref a0, .int x1, .int x2, .int x3, .int x4] [] := by
  unfold bX13_lawsFor_5 at hf
  refine V.iload (q := 7) dX13_lawsFor_5 rfl rfl ?_
  refine V.aload_n (q := 8) rfl dX13_lawsFor_7 rfl rfl ?_
  obtain ⟨_, e1, hf⟩ := bd_ex hf
  obtain ⟨v2, h1, eh1, hf⟩ := bd2_ex hf
  refine V.callV (q := 11) (ci := 13) (vs := []) (st := [.int x4]) (S2 := [.int v2, .int x4]) okX13_lawsAll imX13_lawsAll seX13_lawsAll rfl lkX13_426 (tX13_lawsAll eh1) rfl (ck_is e1) (by decide) rfl (Nat.le_of_ble_eq_true rfl) (Nat.le_of_ble_eq_true rfl) rfl dX13_lawsFor_8 rfl rfl ?_
  refine V.icmp_ge (q := 14) (tgt := 61) dX13_lawsFor_11 rfl (by decide) (fun c => ?_) (fun c => ?_)
  · rw [if_pos c] at hf
    refine V.iload_n (q := 62) rfl dX13_lawsFor_61 rfl rfl ?_
    obtain ⟨rfl, rfl⟩ := ret_inj hf
    exact V.ret (r := some (.int x3)) trivial dX13_lawsFor_62
  · rw [if_neg c] at hf
    refine V.iload_n (q := 15) rfl dX13_lawsFor_14 rfl rfl ?_
    refine V.aload_n (q := 16) rfl dX13_lawsFor_15 rfl rfl ?_
    refine V.iload (q := 18) dX13_lawsFor_16 rfl rfl ?_
    obtain ⟨_, e3, hf⟩ := bd_ex hf
    obtain ⟨v4, h2, eh2, hf⟩ := bd2_ex hf
    refine V.callV (q := 21) (ci := 13) (vs := [.int x4]) (st := [.int x3]) (S2 := [.int v4, .int x3]) okX13_lawFits imX13_lawFits seX13_lawFits rfl lkX13_429 (tX13_lawFits eh2) rfl (ck_is e3) (by decide) rfl (Nat.le_of_ble_eq_true rfl) (Nat.le_of_ble_eq_true rfl) rfl dX13_lawsFor_18 rfl rfl ?_
    refine V.if_eq (q := 24) (tgt := 52) dX13_lawsFor_21 rfl (by decide) (fun c => ?_) (fun c => ?_)
    · rw [if_pos c] at hf
      refine V.iconst (q := 53) (v := 0) (by decide) dX13_lawsFor_52 rfl ?_
      refine V.iadd (q := 54) dX13_lawsFor_53 rfl ?_
      obtain ⟨v5, ev5, hf⟩ := bd_ex hf
      refine V.topI (Option.some.inj ev5) ?_
      refine V.istore_n (q := 55) (L' := [.ref a0, .int x1, .int x2, .int v5, .int x4]) rfl dX13_lawsFor_54 rfl (by decide) rfl rfl ?_
      obtain ⟨v6, ev6, hf⟩ := bd_ex hf
      refine V.iinc (q := 58) (v := v6) (L' := [.ref a0, .int x1, .int x2, .int v5, .int v6]) dX13_lawsFor_55 rfl rfl (Option.some.inj ev6) (by decide) rfl rfl ?_
      refine V.goto (q := 5) dX13_lawsFor_58 (by decide) ?_
      exact hk5 _ _ _ _ _ _ hf
    · rw [if_neg c] at hf
      refine V.iload_n (q := 25) rfl dX13_lawsFor_24 rfl rfl ?_
      refine V.iconst (q := 26) (v := (-1)) (by decide) dX13_lawsFor_25 rfl ?_
      refine V.icmp_eq (q := 29) (tgt := 48) dX13_lawsFor_26 rfl (by decide) (fun c => ?_) (fun c => ?_)
      · rw [if_pos c] at hf
        refine V.iconst (q := 49) (v := 1) (by decide) dX13_lawsFor_48 rfl ?_
        refine V.goto (q := 53) dX13_lawsFor_49 (by decide) ?_
        refine V.iadd (q := 54) dX13_lawsFor_53 rfl ?_
        obtain ⟨v5, ev5, hf⟩ := bd_ex hf
        refine V.topI (Option.some.inj ev5) ?_
        refine V.istore_n (q := 55) (L' := [.ref a0, .int x1, .int x2, .int v5, .int x4]) rfl dX13_lawsFor_54 rfl (by decide) rfl rfl ?_
        obtain ⟨v6, ev6, hf⟩ := bd_ex hf
        refine V.iinc (q := 58) (v := v6) (L' := [.ref a0, .int x1, .int x2, .int v5, .int v6]) dX13_lawsFor_55 rfl rfl (Option.some.inj ev6) (by decide) rfl rfl ?_
        refine V.goto (q := 5) dX13_lawsFor_58 (by decide) ?_
        exact hk5 _ _ _ _ _ _ hf
      · rw [if_neg c] at hf
        refine V.aload_n (q := 30) rfl dX13_lawsFor_29 rfl rfl ?_
        refine V.iload (q := 32) dX13_lawsFor_30 rfl rfl ?_
        refine V.aload_n (q := 33) rfl dX13_lawsFor_32 rfl rfl ?_
        obtain ⟨b5, eb5, hf⟩ := bd_ex hf
        refine V.getR (q := 36) flX13_17 rfl eb5 dX13_lawsFor_33 rfl ?_
        refine V.bipush (q := 38) (v := 11) (by decide) dX13_lawsFor_36 rfl ?_
        refine V.iload_n (q := 39) rfl dX13_lawsFor_38 rfl rfl ?_
        refine V.iadd (q := 40) dX13_lawsFor_39 rfl ?_
        obtain ⟨v6, ev6, hf⟩ := bd_ex hf
        refine V.iald (q := 41) ev6 dX13_lawsFor_40 rfl ?_
        obtain ⟨_, e7, hf⟩ := bd_ex hf
        obtain ⟨v8, h3, eh3, hf⟩ := bd2_ex hf
        refine V.callV (q := 44) (ci := 13) (vs := [.int x4, .int v6]) (st := [.int x3]) (S2 := [.int v8, .int x3]) okX13_lawOf imX13_lawOf seX13_lawOf rfl lkX13_423 (tX13_lawOf eh3) rfl (ck_is e7) (by decide) rfl (Nat.le_of_ble_eq_true rfl) (Nat.le_of_ble_eq_true rfl) rfl dX13_lawsFor_41 rfl rfl ?_
        refine V.iload_n (q := 45) rfl dX13_lawsFor_44 rfl rfl ?_
        refine V.icmp_ne (q := 48) (tgt := 52) dX13_lawsFor_45 rfl (by decide) (fun c => ?_) (fun c => ?_)
        · rw [if_neg c] at hf
          refine V.iconst (q := 53) (v := 0) (by decide) dX13_lawsFor_52 rfl ?_
          refine V.iadd (q := 54) dX13_lawsFor_53 rfl ?_
          obtain ⟨v9, ev9, hf⟩ := bd_ex hf
          refine V.topI (Option.some.inj ev9) ?_
          refine V.istore_n (q := 55) (L' := [.ref a0, .int x1, .int x2, .int v9, .int x4]) rfl dX13_lawsFor_54 rfl (by decide) rfl rfl ?_
          obtain ⟨v10, ev10, hf⟩ := bd_ex hf
          refine V.iinc (q := 58) (v := v10) (L' := [.ref a0, .int x1, .int x2, .int v9, .int v10]) dX13_lawsFor_55 rfl rfl (Option.some.inj ev10) (by decide) rfl rfl ?_
          refine V.goto (q := 5) dX13_lawsFor_58 (by decide) ?_
          exact hk5 _ _ _ _ _ _ hf
        · rw [if_pos c] at hf
          refine V.iconst (q := 49) (v := 1) (by decide) dX13_lawsFor_48 rfl ?_
          refine V.goto (q := 53) dX13_lawsFor_49 (by decide) ?_
          refine V.iadd (q := 54) dX13_lawsFor_53 rfl ?_
          obtain ⟨v9, ev9, hf⟩ := bd_ex hf
          refine V.topI (Option.some.inj ev9) ?_
          refine V.istore_n (q := 55) (L' := [.ref a0, .int x1, .int x2, .int v9, .int x4]) rfl dX13_lawsFor_54 rfl (by decide) rfl rfl ?_
          obtain ⟨v10, ev10, hf⟩ := bd_ex hf
          refine V.iinc (q := 58) (v := v10) (L' := [.ref a0, .int x1, .int x2, .int v9, .int v10]) dX13_lawsFor_55 rfl rfl (Option.some.inj ev10) (by decide) rfl rfl ?_
          refine V.goto (q := 5) dX13_lawsFor_58 (by decide) ?_
          exact hk5 _ _ _ _ _ _ hf
def fX13_lawsFor_5  : Nat → MH → Nat → Int32 → Int32 → Int32 → Int32 → Option (Int32 × MH)
  | 0 => fun _ _ _ _ _ _ => none
  | n + 1 => bX13_lawsFor_5  (fX13_lawsFor_5  n)
theorem tlX13_lawsFor_5 {r : Int32} {h' : MH}   : ∀ (n : Nat) (h : MH) (a0 : Nat) (x1 : Int32) (x2 : Int32) (x3 : Int32) (x4 : Int32), fX13_lawsFor_5  n h a0 x1 x2 x3 x4 = some (r, h') → V TT mX13_lawsFor 3 (some (.int r)) h' h 5 [.ref a0, .int x1, .int x2, .int x3, .int x4] [] := by
  intro n
  induction n with
  | zero => intro h a0 x1 x2 x3 x4 hf; exact nomatch (show (none : Option (Int32 × MH)) = some (r, h') from hf)
  | succ n ih => intro h a0 x1 x2 x3 x4 hf; exact tX13_lawsFor_5  (fX13_lawsFor_5  n) ih hf
def fX13_lawsFor (h : MH) (a0 : Nat) (x1 : Int32) (x2 : Int32) : Option (Int32 × MH) := fX13_lawsFor_5 FU h a0 x1 x2 0 0
set_option maxRecDepth 20000 in
theorem tX13_lawsFor {r : Int32} {h' : MH} {h : MH} {a0 : Nat} {x1 : Int32} {x2 : Int32} (hf : fX13_lawsFor h a0 x1 x2 = some (r, h')) : VM mX13_lawsFor 3 (some (.int r)) h' h [.ref a0, .int x1, .int x2] := by
  show V TT mX13_lawsFor 3 _ h' h 0 [.ref a0, .int x1, .int x2, Jk, Jk] []
  unfold fX13_lawsFor at hf
  refine V.iconst (q := 1) (v := 0) (by decide) dX13_lawsFor_0 rfl ?_
  refine V.istore_n (q := 2) (L' := [.ref a0, .int x1, .int x2, .int 0, Jk]) rfl dX13_lawsFor_1 rfl (by decide) rfl rfl ?_
  refine V.iconst (q := 3) (v := 0) (by decide) dX13_lawsFor_2 rfl ?_
  refine V.istore (q := 5) (L' := [.ref a0, .int x1, .int x2, .int 0, .int 0]) dX13_lawsFor_3 rfl (by decide) rfl rfl ?_
  exact tlX13_lawsFor_5  FU _ _ _ _ _ _ hf
def bX13_lawSays_23 (k23 : MH → Nat → Int32 → Int32 → Int32 → Option (Int32 × MH)) (h : MH) (a0 : Nat) (x1 : Int32) (x2 : Int32) (x3 : Int32) : Option (Int32 × MH) := if 3 ≤ x3 then (bd (ck h a0 13) fun _ => bd2 (fX13_good1 h a0 x2) fun v2 h1 => some (v2, h1)) else (bd (ck h a0 13) fun _ => bd2 (fX13_lawsFor h a0 x1 x3) fun v2 h1 => if v2 ≤ 0 then (bd (some (x2 ||| 0)) fun v3 => bd (some (x3 + 1)) fun v4 => k23 h1 a0 x1 v3 v4) else (bd (some (x2 ||| (1 <<< (x3 &&& 31)))) fun v3 => bd (some (x3 + 1)) fun v4 => k23 h1 a0 x1 v3 v4))
set_option maxRecDepth 20000 in
theorem tX13_lawSays_23 {r : Int32} {h' : MH} (k23 : MH → Nat → Int32 → Int32 → Int32 → Option (Int32 × MH)) (hk23 : ∀ (h : MH) (a0 : Nat) (x1 : Int32) (x2 : Int32) (x3 : Int32), k23 h a0 x1 x2 x3 = some (r, h') → V TT mX13_lawSays 4 (some (.int r)) h' h 23 [.ref a0, .int x1, .int x2, .int x3] [])  {h : MH} {a0 : Nat} {x1 : Int32} {x2 : Int32} {x3 : Int32} (hf : bX13_lawSays_23 k23 h a0 x1 x2 x3 = some (r, h')) : V TT mX13_lawSays 4 (some (.int r)) h' h 23 [.ref a0, .int x1, .int x2, .int x3] [] := by
  unfold bX13_lawSays_23 at hf
  refine V.iload_n (q := 24) rfl dX13_lawSays_23 rfl rfl ?_
  refine V.iconst (q := 25) (v := 3) (by decide) dX13_lawSays_24 rfl ?_
  refine V.icmp_ge (q := 28) (tgt := 53) dX13_lawSays_25 rfl (by decide) (fun c => ?_) (fun c => ?_)
  · rw [if_pos c] at hf
    refine V.aload_n (q := 54) rfl dX13_lawSays_53 rfl rfl ?_
    refine V.iload_n (q := 55) rfl dX13_lawSays_54 rfl rfl ?_
    obtain ⟨_, e1, hf⟩ := bd_ex hf
    obtain ⟨v2, h1, eh1, hf⟩ := bd2_ex hf
    refine V.callV (q := 58) (ci := 13) (vs := [.int x2]) (st := []) (S2 := [.int v2]) okX13_good1 imX13_good1 seX13_good1 rfl lkX13_58 (tX13_good1 eh1) rfl (ck_is e1) (by decide) rfl (Nat.le_of_ble_eq_true rfl) (Nat.le_of_ble_eq_true rfl) rfl dX13_lawSays_55 rfl rfl ?_
    obtain ⟨rfl, rfl⟩ := ret_inj hf
    exact V.ret (r := some (.int v2)) trivial dX13_lawSays_58
  · rw [if_neg c] at hf
    refine V.iload_n (q := 29) rfl dX13_lawSays_28 rfl rfl ?_
    refine V.aload_n (q := 30) rfl dX13_lawSays_29 rfl rfl ?_
    refine V.iload_n (q := 31) rfl dX13_lawSays_30 rfl rfl ?_
    refine V.iload_n (q := 32) rfl dX13_lawSays_31 rfl rfl ?_
    obtain ⟨_, e1, hf⟩ := bd_ex hf
    obtain ⟨v2, h1, eh1, hf⟩ := bd2_ex hf
    refine V.callV (q := 35) (ci := 13) (vs := [.int x1, .int x3]) (st := [.int x2]) (S2 := [.int v2, .int x2]) okX13_lawsFor imX13_lawsFor seX13_lawsFor rfl lkX13_432 (tX13_lawsFor eh1) rfl (ck_is e1) (by decide) rfl (Nat.le_of_ble_eq_true rfl) (Nat.le_of_ble_eq_true rfl) rfl dX13_lawSays_32 rfl rfl ?_
    refine V.if_le (q := 38) (tgt := 44) dX13_lawSays_35 rfl (by decide) (fun c => ?_) (fun c => ?_)
    · rw [if_pos c] at hf
      refine V.iconst (q := 45) (v := 0) (by decide) dX13_lawSays_44 rfl ?_
      refine V.ior (q := 46) dX13_lawSays_45 rfl ?_
      obtain ⟨v3, ev3, hf⟩ := bd_ex hf
      refine V.topI (Option.some.inj ev3) ?_
      refine V.istore_n (q := 47) (L' := [.ref a0, .int x1, .int v3, .int x3]) rfl dX13_lawSays_46 rfl (by decide) rfl rfl ?_
      obtain ⟨v4, ev4, hf⟩ := bd_ex hf
      refine V.iinc (q := 50) (v := v4) (L' := [.ref a0, .int x1, .int v3, .int v4]) dX13_lawSays_47 rfl rfl (Option.some.inj ev4) (by decide) rfl rfl ?_
      refine V.goto (q := 23) dX13_lawSays_50 (by decide) ?_
      exact hk23 _ _ _ _ _ hf
    · rw [if_neg c] at hf
      refine V.iconst (q := 39) (v := 1) (by decide) dX13_lawSays_38 rfl ?_
      refine V.iload_n (q := 40) rfl dX13_lawSays_39 rfl rfl ?_
      refine V.ishl (q := 41) dX13_lawSays_40 rfl ?_
      refine V.goto (q := 45) dX13_lawSays_41 (by decide) ?_
      refine V.ior (q := 46) dX13_lawSays_45 rfl ?_
      obtain ⟨v3, ev3, hf⟩ := bd_ex hf
      refine V.topI (Option.some.inj ev3) ?_
      refine V.istore_n (q := 47) (L' := [.ref a0, .int x1, .int v3, .int x3]) rfl dX13_lawSays_46 rfl (by decide) rfl rfl ?_
      obtain ⟨v4, ev4, hf⟩ := bd_ex hf
      refine V.iinc (q := 50) (v := v4) (L' := [.ref a0, .int x1, .int v3, .int v4]) dX13_lawSays_47 rfl rfl (Option.some.inj ev4) (by decide) rfl rfl ?_
      refine V.goto (q := 23) dX13_lawSays_50 (by decide) ?_
      exact hk23 _ _ _ _ _ hf
def fX13_lawSays_23  : Nat → MH → Nat → Int32 → Int32 → Int32 → Option (Int32 × MH)
  | 0 => fun _ _ _ _ _ => none
  | n + 1 => bX13_lawSays_23  (fX13_lawSays_23  n)
theorem tlX13_lawSays_23 {r : Int32} {h' : MH}   : ∀ (n : Nat) (h : MH) (a0 : Nat) (x1 : Int32) (x2 : Int32) (x3 : Int32), fX13_lawSays_23  n h a0 x1 x2 x3 = some (r, h') → V TT mX13_lawSays 4 (some (.int r)) h' h 23 [.ref a0, .int x1, .int x2, .int x3] [] := by
  intro n
  induction n with
  | zero => intro h a0 x1 x2 x3 hf; exact nomatch (show (none : Option (Int32 × MH)) = some (r, h') from hf)
  | succ n ih => intro h a0 x1 x2 x3 hf; exact tX13_lawSays_23  (fX13_lawSays_23  n) ih hf
def fX13_lawSays (h : MH) (a0 : Nat) (x1 : Int32) : Option (Int32 × MH) := bd (pI h a0 13 0 0) fun h1 => bd (ck h1 a0 13) fun _ => bd2 (fX13_isPaper h1 a0 x1) fun v2 h2 => if v2 = 0 then (bd (ck h2 a0 13) fun _ => bd2 (fX13_refused h2 a0 1) fun v4 h3 => some (v4, h3)) else (fX13_lawSays_23 FU h2 a0 x1 0 0)
set_option maxRecDepth 20000 in
theorem tX13_lawSays {r : Int32} {h' : MH} {h : MH} {a0 : Nat} {x1 : Int32} (hf : fX13_lawSays h a0 x1 = some (r, h')) : VM mX13_lawSays 4 (some (.int r)) h' h [.ref a0, .int x1] := by
  show V TT mX13_lawSays 4 _ h' h 0 [.ref a0, .int x1, Jk, Jk] []
  unfold fX13_lawSays at hf
  refine V.aload_n (q := 1) rfl dX13_lawSays_0 rfl rfl ?_
  refine V.iconst (q := 2) (v := 0) (by decide) dX13_lawSays_1 rfl ?_
  obtain ⟨h1, eh1, hf⟩ := bd_ex hf
  refine V.putI (q := 5) (fpX13_48 rfl) rfl eh1 dX13_lawSays_2 rfl ?_
  refine V.aload_n (q := 6) rfl dX13_lawSays_5 rfl rfl ?_
  refine V.iload_n (q := 7) rfl dX13_lawSays_6 rfl rfl ?_
  obtain ⟨_, e1, hf⟩ := bd_ex hf
  obtain ⟨v2, h2, eh2, hf⟩ := bd2_ex hf
  refine V.callV (q := 10) (ci := 13) (vs := [.int x1]) (st := []) (S2 := [.int v2]) okX13_isPaper imX13_isPaper seX13_isPaper rfl lkX13_355 (tX13_isPaper eh2) rfl (ck_is e1) (by decide) rfl (Nat.le_of_ble_eq_true rfl) (Nat.le_of_ble_eq_true rfl) rfl dX13_lawSays_7 rfl rfl ?_
  refine V.if_ne (q := 13) (tgt := 19) dX13_lawSays_10 rfl (by decide) (fun c => ?_) (fun c => ?_)
  · rw [if_neg c] at hf
    refine V.iconst (q := 20) (v := 0) (by decide) dX13_lawSays_19 rfl ?_
    refine V.istore_n (q := 21) (L' := [.ref a0, .int x1, .int 0, Jk]) rfl dX13_lawSays_20 rfl (by decide) rfl rfl ?_
    refine V.iconst (q := 22) (v := 0) (by decide) dX13_lawSays_21 rfl ?_
    refine V.istore_n (q := 23) (L' := [.ref a0, .int x1, .int 0, .int 0]) rfl dX13_lawSays_22 rfl (by decide) rfl rfl ?_
    exact tlX13_lawSays_23  FU _ _ _ _ _ hf
  · rw [if_pos c] at hf
    refine V.aload_n (q := 14) rfl dX13_lawSays_13 rfl rfl ?_
    refine V.iconst (q := 15) (v := 1) (by decide) dX13_lawSays_14 rfl ?_
    obtain ⟨_, e3, hf⟩ := bd_ex hf
    obtain ⟨v4, h3, eh3, hf⟩ := bd2_ex hf
    refine V.callV (q := 18) (ci := 13) (vs := [.int 1]) (st := []) (S2 := [.int v4]) okX13_refused imX13_refused seX13_refused rfl lkX13_54 (tX13_refused eh3) rfl (ck_is e3) (by decide) rfl (Nat.le_of_ble_eq_true rfl) (Nat.le_of_ble_eq_true rfl) rfl dX13_lawSays_15 rfl rfl ?_
    obtain ⟨rfl, rfl⟩ := ret_inj hf
    exact V.ret (r := some (.int v4)) trivial dX13_lawSays_18
def fX13_laws (h : MH) (a0 : Nat) : Option (Int32 × MH) := bd (pI h a0 13 0 0) fun h1 => bd (gZ h1 a0 13 3) fun z1 => if z1 = true then (bd (ck h1 a0 13) fun _ => bd2 (fX13_refused h1 a0 1) fun v7 h4 => some (v7, h4)) else (bd (ck h1 a0 13) fun _ => bd2 (fX13_lawsFor h1 a0 0 (-1)) fun v3 h2 => bd (ck h2 a0 13) fun _ => bd2 (fX13_good1 h2 a0 v3) fun v5 h3 => some (v5, h3))
set_option maxRecDepth 20000 in
theorem tX13_laws {r : Int32} {h' : MH} {h : MH} {a0 : Nat} (hf : fX13_laws h a0 = some (r, h')) : VM mX13_laws 4 (some (.int r)) h' h [.ref a0] := by
  show V TT mX13_laws 4 _ h' h 0 [.ref a0] []
  unfold fX13_laws at hf
  refine V.aload_n (q := 1) rfl dX13_laws_0 rfl rfl ?_
  refine V.iconst (q := 2) (v := 0) (by decide) dX13_laws_1 rfl ?_
  obtain ⟨h1, eh1, hf⟩ := bd_ex hf
  refine V.putI (q := 5) (fpX13_48 rfl) rfl eh1 dX13_laws_2 rfl ?_
  refine V.aload_n (q := 6) rfl dX13_laws_5 rfl rfl ?_
  obtain ⟨z1, ez1, hf⟩ := bd_ex hf
  refine V.getZN (q := 9) (q2 := 12) (tgt := 20) flX13_338 rfl ez1 dX13_laws_6 rfl dX13_laws_9 rfl (by decide) (fun c => ?_) (fun c => ?_)
  · rw [if_neg c] at hf
    refine V.aload_n (q := 21) rfl dX13_laws_20 rfl rfl ?_
    refine V.aload_n (q := 22) rfl dX13_laws_21 rfl rfl ?_
    refine V.iconst (q := 23) (v := 0) (by decide) dX13_laws_22 rfl ?_
    refine V.iconst (q := 24) (v := (-1)) (by decide) dX13_laws_23 rfl ?_
    obtain ⟨_, e2, hf⟩ := bd_ex hf
    obtain ⟨v3, h2, eh2, hf⟩ := bd2_ex hf
    refine V.callV (q := 27) (ci := 13) (vs := [.int 0, .int (-1)]) (st := [.ref a0]) (S2 := [.int v3, .ref a0]) okX13_lawsFor imX13_lawsFor seX13_lawsFor rfl lkX13_432 (tX13_lawsFor eh2) rfl (ck_is e2) (by decide) rfl (Nat.le_of_ble_eq_true rfl) (Nat.le_of_ble_eq_true rfl) rfl dX13_laws_24 rfl rfl ?_
    obtain ⟨_, e4, hf⟩ := bd_ex hf
    obtain ⟨v5, h3, eh3, hf⟩ := bd2_ex hf
    refine V.callV (q := 30) (ci := 13) (vs := [.int v3]) (st := []) (S2 := [.int v5]) okX13_good1 imX13_good1 seX13_good1 rfl lkX13_58 (tX13_good1 eh3) rfl (ck_is e4) (by decide) rfl (Nat.le_of_ble_eq_true rfl) (Nat.le_of_ble_eq_true rfl) rfl dX13_laws_27 rfl rfl ?_
    obtain ⟨rfl, rfl⟩ := ret_inj hf
    exact V.ret (r := some (.int v5)) trivial dX13_laws_30
  · rw [if_pos c] at hf
    refine V.aload_n (q := 13) rfl dX13_laws_12 rfl rfl ?_
    refine V.iconst (q := 14) (v := 1) (by decide) dX13_laws_13 rfl ?_
    obtain ⟨_, e6, hf⟩ := bd_ex hf
    obtain ⟨v7, h4, eh4, hf⟩ := bd2_ex hf
    refine V.callV (q := 17) (ci := 13) (vs := [.int 1]) (st := []) (S2 := [.int v7]) okX13_refused imX13_refused seX13_refused rfl lkX13_54 (tX13_refused eh4) rfl (ck_is e6) (by decide) rfl (Nat.le_of_ble_eq_true rfl) (Nat.le_of_ble_eq_true rfl) rfl dX13_laws_14 rfl rfl ?_
    refine V.goto (q := 30) dX13_laws_17 (by decide) ?_
    obtain ⟨rfl, rfl⟩ := ret_inj hf
    exact V.ret (r := some (.int v7)) trivial dX13_laws_30
def bX13_led_9 (k9 : MH → Nat → Int32 → Int32 → Int32 → Option (Int32 × MH)) (h : MH) (a0 : Nat) (x1 : Int32) (x2 : Int32) (x3 : Int32) : Option (Int32 × MH) := bd (gZ h a0 13 3) fun z1 => if z1 = true then (bd (pI h a0 13 0 1) fun h1 => some (0, h1)) else (bd (gR h a0 13 3) fun b2 => bd (gI h b2 12 2) fun v3 => if v3 ≤ x3 then (bd (pI h a0 13 0 1) fun h2 => some (0, h2)) else (bd (gR h a0 13 15) fun b4 => bd (lI h b4 (16 + x3)) fun v5 => if v5 = 1 then (if x2 = x1 then (some (x3, h)) else (bd (some (x2 + 1)) fun v6 => bd (some (x3 + 1)) fun v7 => k9 h a0 x1 v6 v7)) else (bd (some (x3 + 1)) fun v6 => k9 h a0 x1 x2 v6)))
set_option maxRecDepth 20000 in
theorem tX13_led_9 {r : Int32} {h' : MH} (k9 : MH → Nat → Int32 → Int32 → Int32 → Option (Int32 × MH)) (hk9 : ∀ (h : MH) (a0 : Nat) (x1 : Int32) (x2 : Int32) (x3 : Int32), k9 h a0 x1 x2 x3 = some (r, h') → V TT mX13_led 0 (some (.int r)) h' h 9 [.ref a0, .int x1, .int x2, .int x3] [])  {h : MH} {a0 : Nat} {x1 : Int32} {x2 : Int32} {x3 : Int32} (hf : bX13_led_9 k9 h a0 x1 x2 x3 = some (r, h')) : V TT mX13_led 0 (some (.int r)) h' h 9 [.ref a0, .int x1, .int x2, .int x3] [] := by
  unfold bX13_led_9 at hf
  refine V.aload_n (q := 10) rfl dX13_led_9 rfl rfl ?_
  obtain ⟨z1, ez1, hf⟩ := bd_ex hf
  refine V.getZ (q := 13) (q2 := 16) (tgt := 59) flX13_338 rfl ez1 dX13_led_10 rfl dX13_led_13 rfl (by decide) (fun c => ?_) (fun c => ?_)
  · rw [if_pos c] at hf
    refine V.aload_n (q := 60) rfl dX13_led_59 rfl rfl ?_
    refine V.iconst (q := 61) (v := 1) (by decide) dX13_led_60 rfl ?_
    obtain ⟨h1, eh1, hf⟩ := bd_ex hf
    refine V.putI (q := 64) (fpX13_48 rfl) rfl eh1 dX13_led_61 rfl ?_
    refine V.iconst (q := 65) (v := 0) (by decide) dX13_led_64 rfl ?_
    obtain ⟨rfl, rfl⟩ := ret_inj hf
    exact V.ret (r := some (.int 0)) trivial dX13_led_65
  · rw [if_neg c] at hf
    refine V.iload_n (q := 17) rfl dX13_led_16 rfl rfl ?_
    refine V.aload_n (q := 18) rfl dX13_led_17 rfl rfl ?_
    obtain ⟨b2, eb2, hf⟩ := bd_ex hf
    refine V.getR (q := 21) flX13_338 rfl eb2 dX13_led_18 rfl ?_
    obtain ⟨v3, ev3, hf⟩ := bd_ex hf
    refine V.getI (q := 24) flX13_206 rfl ev3 dX13_led_21 rfl ?_
    refine V.icmp_ge (q := 27) (tgt := 59) dX13_led_24 rfl (by decide) (fun c => ?_) (fun c => ?_)
    · rw [if_pos c] at hf
      refine V.aload_n (q := 60) rfl dX13_led_59 rfl rfl ?_
      refine V.iconst (q := 61) (v := 1) (by decide) dX13_led_60 rfl ?_
      obtain ⟨h2, eh2, hf⟩ := bd_ex hf
      refine V.putI (q := 64) (fpX13_48 rfl) rfl eh2 dX13_led_61 rfl ?_
      refine V.iconst (q := 65) (v := 0) (by decide) dX13_led_64 rfl ?_
      obtain ⟨rfl, rfl⟩ := ret_inj hf
      exact V.ret (r := some (.int 0)) trivial dX13_led_65
    · rw [if_neg c] at hf
      refine V.aload_n (q := 28) rfl dX13_led_27 rfl rfl ?_
      obtain ⟨b4, eb4, hf⟩ := bd_ex hf
      refine V.getR (q := 31) flX13_17 rfl eb4 dX13_led_28 rfl ?_
      refine V.bipush (q := 33) (v := 16) (by decide) dX13_led_31 rfl ?_
      refine V.iload_n (q := 34) rfl dX13_led_33 rfl rfl ?_
      refine V.iadd (q := 35) dX13_led_34 rfl ?_
      obtain ⟨v5, ev5, hf⟩ := bd_ex hf
      refine V.iald (q := 36) ev5 dX13_led_35 rfl ?_
      refine V.iconst (q := 37) (v := 1) (by decide) dX13_led_36 rfl ?_
      refine V.icmp_eq (q := 40) (tgt := 43) dX13_led_37 rfl (by decide) (fun c => ?_) (fun c => ?_)
      · rw [if_pos c] at hf
        refine V.iload_n (q := 44) rfl dX13_led_43 rfl rfl ?_
        refine V.iload_n (q := 45) rfl dX13_led_44 rfl rfl ?_
        refine V.icmp_ne (q := 48) (tgt := 50) dX13_led_45 rfl (by decide) (fun c => ?_) (fun c => ?_)
        · rw [if_neg c] at hf
          obtain ⟨v6, ev6, hf⟩ := bd_ex hf
          refine V.iinc (q := 53) (v := v6) (L' := [.ref a0, .int x1, .int v6, .int x3]) dX13_led_50 rfl rfl (Option.some.inj ev6) (by decide) rfl rfl ?_
          obtain ⟨v7, ev7, hf⟩ := bd_ex hf
          refine V.iinc (q := 56) (v := v7) (L' := [.ref a0, .int x1, .int v6, .int v7]) dX13_led_53 rfl rfl (Option.some.inj ev7) (by decide) rfl rfl ?_
          refine V.goto (q := 9) dX13_led_56 (by decide) ?_
          exact hk9 _ _ _ _ _ hf
        · rw [if_pos c] at hf
          refine V.iload_n (q := 49) rfl dX13_led_48 rfl rfl ?_
          obtain ⟨rfl, rfl⟩ := ret_inj hf
          exact V.ret (r := some (.int x3)) trivial dX13_led_49
      · rw [if_neg c] at hf
        refine V.goto (q := 53) dX13_led_40 (by decide) ?_
        obtain ⟨v6, ev6, hf⟩ := bd_ex hf
        refine V.iinc (q := 56) (v := v6) (L' := [.ref a0, .int x1, .int x2, .int v6]) dX13_led_53 rfl rfl (Option.some.inj ev6) (by decide) rfl rfl ?_
        refine V.goto (q := 9) dX13_led_56 (by decide) ?_
        exact hk9 _ _ _ _ _ hf
def fX13_led_9  : Nat → MH → Nat → Int32 → Int32 → Int32 → Option (Int32 × MH)
  | 0 => fun _ _ _ _ _ => none
  | n + 1 => bX13_led_9  (fX13_led_9  n)
theorem tlX13_led_9 {r : Int32} {h' : MH}   : ∀ (n : Nat) (h : MH) (a0 : Nat) (x1 : Int32) (x2 : Int32) (x3 : Int32), fX13_led_9  n h a0 x1 x2 x3 = some (r, h') → V TT mX13_led 0 (some (.int r)) h' h 9 [.ref a0, .int x1, .int x2, .int x3] [] := by
  intro n
  induction n with
  | zero => intro h a0 x1 x2 x3 hf; exact nomatch (show (none : Option (Int32 × MH)) = some (r, h') from hf)
  | succ n ih => intro h a0 x1 x2 x3 hf; exact tX13_led_9  (fX13_led_9  n) ih hf
def fX13_led (h : MH) (a0 : Nat) (x1 : Int32) : Option (Int32 × MH) := bd (pI h a0 13 0 0) fun h1 => fX13_led_9 FU h1 a0 x1 0 0
set_option maxRecDepth 20000 in
theorem tX13_led {r : Int32} {h' : MH} {h : MH} {a0 : Nat} {x1 : Int32} (hf : fX13_led h a0 x1 = some (r, h')) : VM mX13_led 0 (some (.int r)) h' h [.ref a0, .int x1] := by
  show V TT mX13_led 0 _ h' h 0 [.ref a0, .int x1, Jk, Jk] []
  unfold fX13_led at hf
  refine V.aload_n (q := 1) rfl dX13_led_0 rfl rfl ?_
  refine V.iconst (q := 2) (v := 0) (by decide) dX13_led_1 rfl ?_
  obtain ⟨h1, eh1, hf⟩ := bd_ex hf
  refine V.putI (q := 5) (fpX13_48 rfl) rfl eh1 dX13_led_2 rfl ?_
  refine V.iconst (q := 6) (v := 0) (by decide) dX13_led_5 rfl ?_
  refine V.istore_n (q := 7) (L' := [.ref a0, .int x1, .int 0, Jk]) rfl dX13_led_6 rfl (by decide) rfl rfl ?_
  refine V.iconst (q := 8) (v := 0) (by decide) dX13_led_7 rfl ?_
  refine V.istore_n (q := 9) (L' := [.ref a0, .int x1, .int 0, .int 0]) rfl dX13_led_8 rfl (by decide) rfl rfl ?_
  exact tlX13_led_9  FU _ _ _ _ _ hf
def bX13_likeliest_26 (k26 : MH → Nat → Int32 → Int64 → Int32 → Option (Int32 × MH)) (h : MH) (a0 : Nat) (x1 : Int32) (y2 : Int64) (x4 : Int32) : Option (Int32 × MH) := bd (gR h a0 13 3) fun b1 => bd (gI h b1 12 3) fun v2 => if v2 ≤ x4 then (bd (ck h a0 13) fun _ => bd2 (fX13_good1 h a0 x1) fun v4 h1 => some (v4, h1)) else (bd (ck h a0 13) fun _ => bd2 (fX13_fitsPrints h a0 x4) fun w4 h1 => if 0 < (lg_cmp w4 y2) then (bd (ck h1 a0 13) fun _ => bd2 (fX13_fitsPrints h1 a0 x4) fun w6 h2 => bd (some (x4 + 1)) fun v7 => k26 h2 a0 x4 w6 v7) else (bd (some (x4 + 1)) fun v5 => k26 h1 a0 x1 y2 v5))
set_option maxRecDepth 20000 in
theorem tX13_likeliest_26 {r : Int32} {h' : MH} (k26 : MH → Nat → Int32 → Int64 → Int32 → Option (Int32 × MH)) (hk26 : ∀ (h : MH) (a0 : Nat) (x1 : Int32) (y2 : Int64) (x4 : Int32), k26 h a0 x1 y2 x4 = some (r, h') → V TT mX13_likeliest 5 (some (.int r)) h' h 26 [.ref a0, .int x1, .long y2, Jk, .int x4] [])  {h : MH} {a0 : Nat} {x1 : Int32} {y2 : Int64} {x4 : Int32} (hf : bX13_likeliest_26 k26 h a0 x1 y2 x4 = some (r, h')) : V TT mX13_likeliest 5 (some (.int r)) h' h 26 [.ref a0, .int x1, .long y2, Jk, .int x4] [] := by
  unfold bX13_likeliest_26 at hf
  refine V.iload (q := 28) dX13_likeliest_26 rfl rfl ?_
  refine V.aload_n (q := 29) rfl dX13_likeliest_28 rfl rfl ?_
  obtain ⟨b1, eb1, hf⟩ := bd_ex hf
  refine V.getR (q := 32) flX13_338 rfl eb1 dX13_likeliest_29 rfl ?_
  obtain ⟨v2, ev2, hf⟩ := bd_ex hf
  refine V.getI (q := 35) flX13_262 rfl ev2 dX13_likeliest_32 rfl ?_
  refine V.icmp_ge (q := 38) (tgt := 68) dX13_likeliest_35 rfl (by decide) (fun c => ?_) (fun c => ?_)
  · rw [if_pos c] at hf
    refine V.aload_n (q := 69) rfl dX13_likeliest_68 rfl rfl ?_
    refine V.iload_n (q := 70) rfl dX13_likeliest_69 rfl rfl ?_
    obtain ⟨_, e3, hf⟩ := bd_ex hf
    obtain ⟨v4, h1, eh1, hf⟩ := bd2_ex hf
    refine V.callV (q := 73) (ci := 13) (vs := [.int x1]) (st := []) (S2 := [.int v4]) okX13_good1 imX13_good1 seX13_good1 rfl lkX13_58 (tX13_good1 eh1) rfl (ck_is e3) (by decide) rfl (Nat.le_of_ble_eq_true rfl) (Nat.le_of_ble_eq_true rfl) rfl dX13_likeliest_70 rfl rfl ?_
    obtain ⟨rfl, rfl⟩ := ret_inj hf
    exact V.ret (r := some (.int v4)) trivial dX13_likeliest_73
  · rw [if_neg c] at hf
    refine V.aload_n (q := 39) rfl dX13_likeliest_38 rfl rfl ?_
    refine V.iload (q := 41) dX13_likeliest_39 rfl rfl ?_
    obtain ⟨_, e3, hf⟩ := bd_ex hf
    obtain ⟨w4, h1, eh1, hf⟩ := bd2_ex hf
    refine V.callV (q := 44) (ci := 13) (vs := [.int x4]) (st := []) (S2 := [.long w4]) okX13_fitsPrints imX13_fitsPrints seX13_fitsPrints rfl lkX13_410 (tX13_fitsPrints eh1) rfl (ck_is e3) (by decide) rfl (Nat.le_of_ble_eq_true rfl) (Nat.le_of_ble_eq_true rfl) rfl dX13_likeliest_41 rfl rfl ?_
    refine V.lload_n (q := 45) rfl dX13_likeliest_44 rfl rfl ?_
    refine V.lcmp (q := 46) dX13_likeliest_45 rfl ?_
    refine V.if_gt (q := 49) (tgt := 52) dX13_likeliest_46 rfl (by decide) (fun c => ?_) (fun c => ?_)
    · rw [if_pos c] at hf
      refine V.aload_n (q := 53) rfl dX13_likeliest_52 rfl rfl ?_
      refine V.iload (q := 55) dX13_likeliest_53 rfl rfl ?_
      obtain ⟨_, e5, hf⟩ := bd_ex hf
      obtain ⟨w6, h2, eh2, hf⟩ := bd2_ex hf
      refine V.callV (q := 58) (ci := 13) (vs := [.int x4]) (st := []) (S2 := [.long w6]) okX13_fitsPrints imX13_fitsPrints seX13_fitsPrints rfl lkX13_410 (tX13_fitsPrints eh2) rfl (ck_is e5) (by decide) rfl (Nat.le_of_ble_eq_true rfl) (Nat.le_of_ble_eq_true rfl) rfl dX13_likeliest_55 rfl rfl ?_
      refine V.lstore_n (q := 59) (L' := [.ref a0, .int x1, .long w6, Jk, .int x4]) rfl dX13_likeliest_58 rfl (by decide) rfl rfl ?_
      refine V.iload (q := 61) dX13_likeliest_59 rfl rfl ?_
      refine V.istore_n (q := 62) (L' := [.ref a0, .int x4, .long w6, Jk, .int x4]) rfl dX13_likeliest_61 rfl (by decide) rfl rfl ?_
      obtain ⟨v7, ev7, hf⟩ := bd_ex hf
      refine V.iinc (q := 65) (v := v7) (L' := [.ref a0, .int x4, .long w6, Jk, .int v7]) dX13_likeliest_62 rfl rfl (Option.some.inj ev7) (by decide) rfl rfl ?_
      refine V.goto (q := 26) dX13_likeliest_65 (by decide) ?_
      exact hk26 _ _ _ _ _ hf
    · rw [if_neg c] at hf
      refine V.goto (q := 62) dX13_likeliest_49 (by decide) ?_
      obtain ⟨v5, ev5, hf⟩ := bd_ex hf
      refine V.iinc (q := 65) (v := v5) (L' := [.ref a0, .int x1, .long y2, Jk, .int v5]) dX13_likeliest_62 rfl rfl (Option.some.inj ev5) (by decide) rfl rfl ?_
      refine V.goto (q := 26) dX13_likeliest_65 (by decide) ?_
      exact hk26 _ _ _ _ _ hf
def fX13_likeliest_26  : Nat → MH → Nat → Int32 → Int64 → Int32 → Option (Int32 × MH)
  | 0 => fun _ _ _ _ _ => none
  | n + 1 => bX13_likeliest_26  (fX13_likeliest_26  n)
theorem tlX13_likeliest_26 {r : Int32} {h' : MH}   : ∀ (n : Nat) (h : MH) (a0 : Nat) (x1 : Int32) (y2 : Int64) (x4 : Int32), fX13_likeliest_26  n h a0 x1 y2 x4 = some (r, h') → V TT mX13_likeliest 5 (some (.int r)) h' h 26 [.ref a0, .int x1, .long y2, Jk, .int x4] [] := by
  intro n
  induction n with
  | zero => intro h a0 x1 y2 x4 hf; exact nomatch (show (none : Option (Int32 × MH)) = some (r, h') from hf)
  | succ n ih => intro h a0 x1 y2 x4 hf; exact tX13_likeliest_26  (fX13_likeliest_26  n) ih hf
def fX13_likeliest (h : MH) (a0 : Nat) : Option (Int32 × MH) := bd (pI h a0 13 0 0) fun h1 => bd (gZ h1 a0 13 3) fun z1 => if z1 = true then (bd (ck h1 a0 13) fun _ => bd2 (fX13_refused h1 a0 1) fun v3 h2 => some (v3, h2)) else (fX13_likeliest_26 FU h1 a0 (-2) 0 0)
set_option maxRecDepth 20000 in
theorem tX13_likeliest {r : Int32} {h' : MH} {h : MH} {a0 : Nat} (hf : fX13_likeliest h a0 = some (r, h')) : VM mX13_likeliest 5 (some (.int r)) h' h [.ref a0] := by
  show V TT mX13_likeliest 5 _ h' h 0 [.ref a0, Jk, Jk, Jk, Jk] []
  unfold fX13_likeliest at hf
  refine V.aload_n (q := 1) rfl dX13_likeliest_0 rfl rfl ?_
  refine V.iconst (q := 2) (v := 0) (by decide) dX13_likeliest_1 rfl ?_
  obtain ⟨h1, eh1, hf⟩ := bd_ex hf
  refine V.putI (q := 5) (fpX13_48 rfl) rfl eh1 dX13_likeliest_2 rfl ?_
  refine V.aload_n (q := 6) rfl dX13_likeliest_5 rfl rfl ?_
  obtain ⟨z1, ez1, hf⟩ := bd_ex hf
  refine V.getZN (q := 9) (q2 := 12) (tgt := 18) flX13_338 rfl ez1 dX13_likeliest_6 rfl dX13_likeliest_9 rfl (by decide) (fun c => ?_) (fun c => ?_)
  · rw [if_neg c] at hf
    refine V.bipush (q := 20) (v := (-2)) (by decide) dX13_likeliest_18 rfl ?_
    refine V.istore_n (q := 21) (L' := [.ref a0, .int (-2), Jk, Jk, Jk]) rfl dX13_likeliest_20 rfl (by decide) rfl rfl ?_
    refine V.lconst (q := 22) (v := 0) (by decide) dX13_likeliest_21 rfl ?_
    refine V.lstore_n (q := 23) (L' := [.ref a0, .int (-2), .long 0, Jk, Jk]) rfl dX13_likeliest_22 rfl (by decide) rfl rfl ?_
    refine V.iconst (q := 24) (v := 0) (by decide) dX13_likeliest_23 rfl ?_
    refine V.istore (q := 26) (L' := [.ref a0, .int (-2), .long 0, Jk, .int 0]) dX13_likeliest_24 rfl (by decide) rfl rfl ?_
    exact tlX13_likeliest_26  FU _ _ _ _ _ hf
  · rw [if_pos c] at hf
    refine V.aload_n (q := 13) rfl dX13_likeliest_12 rfl rfl ?_
    refine V.iconst (q := 14) (v := 1) (by decide) dX13_likeliest_13 rfl ?_
    obtain ⟨_, e2, hf⟩ := bd_ex hf
    obtain ⟨v3, h2, eh2, hf⟩ := bd2_ex hf
    refine V.callV (q := 17) (ci := 13) (vs := [.int 1]) (st := []) (S2 := [.int v3]) okX13_refused imX13_refused seX13_refused rfl lkX13_54 (tX13_refused eh2) rfl (ck_is e2) (by decide) rfl (Nat.le_of_ble_eq_true rfl) (Nat.le_of_ble_eq_true rfl) rfl dX13_likeliest_14 rfl rfl ?_
    obtain ⟨rfl, rfl⟩ := ret_inj hf
    exact V.ret (r := some (.int v3)) trivial dX13_likeliest_17
def bX13_lineBegins_10  (h : MH) (a0 : Nat) : Option (MH) := bd (gR h a0 13 4) fun b1 => bd (gI h b1 12 0) fun v2 => if v2 = (-1) then (bd (ck h a0 13) fun _ => bd (fX13_flaw h a0 6) fun h1 => bd (ck h1 a0 13) fun _ => bd (fX13_goesOn h1 a0 ) fun h2 => some h2) else (bd (ck h a0 13) fun _ => bd (fX13_goesOn h a0 ) fun h1 => some h1)
set_option maxRecDepth 20000 in
theorem tX13_lineBegins_10 {h' : MH}   {h : MH} {a0 : Nat} (hf : bX13_lineBegins_10  h a0 = some h') : V TT mX13_lineBegins 2 none h' h 10 [.ref a0, Jk, Jk] [] := by
  unfold bX13_lineBegins_10 at hf
  refine V.aload_n (q := 11) rfl dX13_lineBegins_10 rfl rfl ?_
  obtain ⟨b1, eb1, hf⟩ := bd_ex hf
  refine V.getR (q := 14) flX13_157 rfl eb1 dX13_lineBegins_11 rfl ?_
  obtain ⟨v2, ev2, hf⟩ := bd_ex hf
  refine V.getI (q := 17) flX13_161 rfl ev2 dX13_lineBegins_14 rfl ?_
  refine V.iconst (q := 18) (v := (-1)) (by decide) dX13_lineBegins_17 rfl ?_
  refine V.icmp_ne (q := 21) (tgt := 27) dX13_lineBegins_18 rfl (by decide) (fun c => ?_) (fun c => ?_)
  · rw [if_neg c] at hf
    refine V.aload_n (q := 28) rfl dX13_lineBegins_27 rfl rfl ?_
    obtain ⟨_, e3, hf⟩ := bd_ex hf
    obtain ⟨h1, eh1, hf⟩ := bd_ex hf
    refine V.callV (q := 31) (ci := 13) (vs := []) (st := []) (S2 := []) okX13_goesOn imX13_goesOn seX13_goesOn rfl lkX13_116 (tX13_goesOn eh1) rfl (ck_is e3) (by decide) rfl (Nat.le_of_ble_eq_true rfl) (Nat.le_of_ble_eq_true rfl) rfl dX13_lineBegins_28 rfl rfl ?_
    cases hf
    exact V.ret (r := none) trivial dX13_lineBegins_31
  · rw [if_pos c] at hf
    refine V.aload_n (q := 22) rfl dX13_lineBegins_21 rfl rfl ?_
    refine V.bipush (q := 24) (v := 6) (by decide) dX13_lineBegins_22 rfl ?_
    obtain ⟨_, e3, hf⟩ := bd_ex hf
    obtain ⟨h1, eh1, hf⟩ := bd_ex hf
    refine V.callV (q := 27) (ci := 13) (vs := [.int 6]) (st := []) (S2 := []) okX13_flaw imX13_flaw seX13_flaw rfl lkX13_123 (tX13_flaw eh1) rfl (ck_is e3) (by decide) rfl (Nat.le_of_ble_eq_true rfl) (Nat.le_of_ble_eq_true rfl) rfl dX13_lineBegins_24 rfl rfl ?_
    refine V.aload_n (q := 28) rfl dX13_lineBegins_27 rfl rfl ?_
    obtain ⟨_, e4, hf⟩ := bd_ex hf
    obtain ⟨h2, eh2, hf⟩ := bd_ex hf
    refine V.callV (q := 31) (ci := 13) (vs := []) (st := []) (S2 := []) okX13_goesOn imX13_goesOn seX13_goesOn rfl lkX13_116 (tX13_goesOn eh2) rfl (ck_is e4) (by decide) rfl (Nat.le_of_ble_eq_true rfl) (Nat.le_of_ble_eq_true rfl) rfl dX13_lineBegins_28 rfl rfl ?_
    cases hf
    exact V.ret (r := none) trivial dX13_lineBegins_31
def fX13_lineBegins (h : MH) (a0 : Nat) (x1 : Int32) (x2 : Int32) : Option (MH) := if x1 = x2 then (bd (ck h a0 13) fun _ => bd (fX13_flaw h a0 5) fun h1 => bX13_lineBegins_10 h1 a0) else (bX13_lineBegins_10 h a0)
set_option maxRecDepth 20000 in
theorem tX13_lineBegins {h' : MH} {h : MH} {a0 : Nat} {x1 : Int32} {x2 : Int32} (hf : fX13_lineBegins h a0 x1 x2 = some h') : VM mX13_lineBegins 2 none h' h [.ref a0, .int x1, .int x2] := by
  show V TT mX13_lineBegins 2 _ h' h 0 [.ref a0, .int x1, .int x2] []
  unfold fX13_lineBegins at hf
  refine V.iload_n (q := 1) rfl dX13_lineBegins_0 rfl rfl ?_
  refine V.iload_n (q := 2) rfl dX13_lineBegins_1 rfl rfl ?_
  refine V.icmp_ne (q := 5) (tgt := 10) dX13_lineBegins_2 rfl (by decide) (fun c => ?_) (fun c => ?_)
  · rw [if_neg c] at hf
    refine V.forget (L' := [.ref a0, Jk, Jk]) ⟨Or.inr rfl, Or.inl rfl, Or.inl rfl, trivial⟩ ?_
    exact tX13_lineBegins_10  hf
  · rw [if_pos c] at hf
    refine V.aload_n (q := 6) rfl dX13_lineBegins_5 rfl rfl ?_
    refine V.iconst (q := 7) (v := 5) (by decide) dX13_lineBegins_6 rfl ?_
    obtain ⟨_, e1, hf⟩ := bd_ex hf
    obtain ⟨h1, eh1, hf⟩ := bd_ex hf
    refine V.callV (q := 10) (ci := 13) (vs := [.int 5]) (st := []) (S2 := []) okX13_flaw imX13_flaw seX13_flaw rfl lkX13_123 (tX13_flaw eh1) rfl (ck_is e1) (by decide) rfl (Nat.le_of_ble_eq_true rfl) (Nat.le_of_ble_eq_true rfl) rfl dX13_lineBegins_7 rfl rfl ?_
    refine V.forget (L' := [.ref a0, Jk, Jk]) ⟨Or.inr rfl, Or.inl rfl, Or.inl rfl, trivial⟩ ?_
    exact tX13_lineBegins_10  hf
def fX13_mark (h : MH) (a0 : Nat) (x1 : Int32) (x2 : Int32) (x3 : Int32) : Option (Int32 × MH) := bd (pI h a0 13 0 0) fun h1 => bd (ck h1 a0 13) fun _ => bd2 (fX13_isPaper h1 a0 x1) fun v2 h2 => if v2 = 0 then (bd (ck h2 a0 13) fun _ => bd2 (fX13_denied h2 a0 1) fun v4 h3 => rB v4 h3) else (if x2 < 0 then (bd (ck h2 a0 13) fun _ => bd2 (fX13_denied h2 a0 1) fun v4 h3 => rB v4 h3) else (bd (gR h2 a0 13 3) fun b3 => bd (gI h2 b3 12 1) fun v4 => if x2 < v4 then (bd (gR h2 a0 13 15) fun b5 => bd (lI h2 b5 (11 + x1)) fun v6 => bd2 (fX13_bit h2 v6 x2) fun v7 h3 => if v7 = x3 then (bd (ck h3 a0 13) fun _ => bd2 (fX13_denied h3 a0 5) fun v9 h4 => rB v9 h4) else (bd (ck h3 a0 13) fun _ => bd (fX13_remembers h3 a0 ) fun h4 => bd (gR h4 a0 13 15) fun b9 => bd (lI h4 b9 (11 + x1)) fun v10 => bd (tI h4 b9 (11 + x1) (v10 ^^^ (1 <<< (x2 &&& 31)))) fun h5 => bd (ck h5 a0 13) fun _ => bd2 (fX13_granted h5 a0 ) fun v12 h6 => rB v12 h6)) else (bd (ck h2 a0 13) fun _ => bd2 (fX13_denied h2 a0 1) fun v6 h3 => rB v6 h3)))
set_option maxRecDepth 20000 in
theorem tX13_mark {r : Int32} {h' : MH} {h : MH} {a0 : Nat} {x1 : Int32} {x2 : Int32} {x3 : Int32} (hf : fX13_mark h a0 x1 x2 x3 = some (r, h')) : VM mX13_mark 2 (some (.int r)) h' h [.ref a0, .int x1, .int x2, .int x3] := by
  show V TT mX13_mark 2 _ h' h 0 [.ref a0, .int x1, .int x2, .int x3] []
  unfold fX13_mark at hf
  refine V.aload_n (q := 1) rfl dX13_mark_0 rfl rfl ?_
  refine V.iconst (q := 2) (v := 0) (by decide) dX13_mark_1 rfl ?_
  obtain ⟨h1, eh1, hf⟩ := bd_ex hf
  refine V.putI (q := 5) (fpX13_48 rfl) rfl eh1 dX13_mark_2 rfl ?_
  refine V.aload_n (q := 6) rfl dX13_mark_5 rfl rfl ?_
  refine V.iload_n (q := 7) rfl dX13_mark_6 rfl rfl ?_
  obtain ⟨_, e1, hf⟩ := bd_ex hf
  obtain ⟨v2, h2, eh2, hf⟩ := bd2_ex hf
  refine V.callV (q := 10) (ci := 13) (vs := [.int x1]) (st := []) (S2 := [.int v2]) okX13_isPaper imX13_isPaper seX13_isPaper rfl lkX13_355 (tX13_isPaper eh2) rfl (ck_is e1) (by decide) rfl (Nat.le_of_ble_eq_true rfl) (Nat.le_of_ble_eq_true rfl) rfl dX13_mark_7 rfl rfl ?_
  refine V.if_eq (q := 13) (tgt := 28) dX13_mark_10 rfl (by decide) (fun c => ?_) (fun c => ?_)
  · rw [if_pos c] at hf
    refine V.aload_n (q := 29) rfl dX13_mark_28 rfl rfl ?_
    refine V.iconst (q := 30) (v := 1) (by decide) dX13_mark_29 rfl ?_
    obtain ⟨_, e3, hf⟩ := bd_ex hf
    obtain ⟨v4, h3, eh3, hf⟩ := bd2_ex hf
    refine V.callV (q := 33) (ci := 13) (vs := [.int 1]) (st := []) (S2 := [.int v4]) okX13_denied imX13_denied seX13_denied rfl lkX13_487 (tX13_denied eh3) rfl (ck_is e3) (by decide) rfl (Nat.le_of_ble_eq_true rfl) (Nat.le_of_ble_eq_true rfl) rfl dX13_mark_30 rfl rfl ?_
    obtain ⟨hb, rfl, rfl⟩ := rB_inj hf
    exact V.ret (r := some (.int v4)) hb dX13_mark_33
  · rw [if_neg c] at hf
    refine V.iload_n (q := 14) rfl dX13_mark_13 rfl rfl ?_
    refine V.if_lt (q := 17) (tgt := 28) dX13_mark_14 rfl (by decide) (fun c => ?_) (fun c => ?_)
    · rw [if_pos c] at hf
      refine V.aload_n (q := 29) rfl dX13_mark_28 rfl rfl ?_
      refine V.iconst (q := 30) (v := 1) (by decide) dX13_mark_29 rfl ?_
      obtain ⟨_, e3, hf⟩ := bd_ex hf
      obtain ⟨v4, h3, eh3, hf⟩ := bd2_ex hf
      refine V.callV (q := 33) (ci := 13) (vs := [.int 1]) (st := []) (S2 := [.int v4]) okX13_denied imX13_denied seX13_denied rfl lkX13_487 (tX13_denied eh3) rfl (ck_is e3) (by decide) rfl (Nat.le_of_ble_eq_true rfl) (Nat.le_of_ble_eq_true rfl) rfl dX13_mark_30 rfl rfl ?_
      obtain ⟨hb, rfl, rfl⟩ := rB_inj hf
      exact V.ret (r := some (.int v4)) hb dX13_mark_33
    · rw [if_neg c] at hf
      refine V.iload_n (q := 18) rfl dX13_mark_17 rfl rfl ?_
      refine V.aload_n (q := 19) rfl dX13_mark_18 rfl rfl ?_
      obtain ⟨b3, eb3, hf⟩ := bd_ex hf
      refine V.getR (q := 22) flX13_338 rfl eb3 dX13_mark_19 rfl ?_
      obtain ⟨v4, ev4, hf⟩ := bd_ex hf
      refine V.getI (q := 25) flX13_238 rfl ev4 dX13_mark_22 rfl ?_
      refine V.icmp_lt (q := 28) (tgt := 34) dX13_mark_25 rfl (by decide) (fun c => ?_) (fun c => ?_)
      · rw [if_pos c] at hf
        refine V.aload_n (q := 35) rfl dX13_mark_34 rfl rfl ?_
        obtain ⟨b5, eb5, hf⟩ := bd_ex hf
        refine V.getR (q := 38) flX13_17 rfl eb5 dX13_mark_35 rfl ?_
        refine V.bipush (q := 40) (v := 11) (by decide) dX13_mark_38 rfl ?_
        refine V.iload_n (q := 41) rfl dX13_mark_40 rfl rfl ?_
        refine V.iadd (q := 42) dX13_mark_41 rfl ?_
        obtain ⟨v6, ev6, hf⟩ := bd_ex hf
        refine V.iald (q := 43) ev6 dX13_mark_42 rfl ?_
        refine V.iload_n (q := 44) rfl dX13_mark_43 rfl rfl ?_
        obtain ⟨v7, h3, eh3, hf⟩ := bd2_ex hf
        refine V.callS (q := 47) (vs := [.int v6, .int x2]) (st := []) (S2 := [.int v7]) okX13_bit stX13_bit lkX13_199 (tX13_bit eh3) rfl (by decide) rfl (Nat.le_of_ble_eq_true rfl) (Nat.le_of_ble_eq_true rfl) rfl dX13_mark_44 rfl rfl ?_
        refine V.iload_n (q := 48) rfl dX13_mark_47 rfl rfl ?_
        refine V.icmp_ne (q := 51) (tgt := 57) dX13_mark_48 rfl (by decide) (fun c => ?_) (fun c => ?_)
        · rw [if_neg c] at hf
          refine V.aload_n (q := 58) rfl dX13_mark_57 rfl rfl ?_
          obtain ⟨_, e8, hf⟩ := bd_ex hf
          obtain ⟨h4, eh4, hf⟩ := bd_ex hf
          refine V.callV (q := 61) (ci := 13) (vs := []) (st := []) (S2 := []) okX13_remembers imX13_remembers seX13_remembers rfl lkX13_484 (tX13_remembers eh4) rfl (ck_is e8) (by decide) rfl (Nat.le_of_ble_eq_true rfl) (Nat.le_of_ble_eq_true rfl) rfl dX13_mark_58 rfl rfl ?_
          refine V.aload_n (q := 62) rfl dX13_mark_61 rfl rfl ?_
          obtain ⟨b9, eb9, hf⟩ := bd_ex hf
          refine V.getR (q := 65) flX13_17 rfl eb9 dX13_mark_62 rfl ?_
          refine V.bipush (q := 67) (v := 11) (by decide) dX13_mark_65 rfl ?_
          refine V.iload_n (q := 68) rfl dX13_mark_67 rfl rfl ?_
          refine V.iadd (q := 69) dX13_mark_68 rfl ?_
          refine V.dup2 (q := 70) dX13_mark_69 rfl ?_
          obtain ⟨v10, ev10, hf⟩ := bd_ex hf
          refine V.iald (q := 71) ev10 dX13_mark_70 rfl ?_
          refine V.iconst (q := 72) (v := 1) (by decide) dX13_mark_71 rfl ?_
          refine V.iload_n (q := 73) rfl dX13_mark_72 rfl rfl ?_
          refine V.ishl (q := 74) dX13_mark_73 rfl ?_
          refine V.ixor (q := 75) dX13_mark_74 rfl ?_
          obtain ⟨h5, eh5, hf⟩ := bd_ex hf
          refine V.iast (q := 76) eh5 dX13_mark_75 rfl ?_
          refine V.aload_n (q := 77) rfl dX13_mark_76 rfl rfl ?_
          obtain ⟨_, e11, hf⟩ := bd_ex hf
          obtain ⟨v12, h6, eh6, hf⟩ := bd2_ex hf
          refine V.callV (q := 80) (ci := 13) (vs := []) (st := []) (S2 := [.int v12]) okX13_granted imX13_granted seX13_granted rfl lkX13_490 (tX13_granted eh6) rfl (ck_is e11) (by decide) rfl (Nat.le_of_ble_eq_true rfl) (Nat.le_of_ble_eq_true rfl) rfl dX13_mark_77 rfl rfl ?_
          obtain ⟨hb, rfl, rfl⟩ := rB_inj hf
          exact V.ret (r := some (.int v12)) hb dX13_mark_80
        · rw [if_pos c] at hf
          refine V.aload_n (q := 52) rfl dX13_mark_51 rfl rfl ?_
          refine V.iconst (q := 53) (v := 5) (by decide) dX13_mark_52 rfl ?_
          obtain ⟨_, e8, hf⟩ := bd_ex hf
          obtain ⟨v9, h4, eh4, hf⟩ := bd2_ex hf
          refine V.callV (q := 56) (ci := 13) (vs := [.int 5]) (st := []) (S2 := [.int v9]) okX13_denied imX13_denied seX13_denied rfl lkX13_487 (tX13_denied eh4) rfl (ck_is e8) (by decide) rfl (Nat.le_of_ble_eq_true rfl) (Nat.le_of_ble_eq_true rfl) rfl dX13_mark_53 rfl rfl ?_
          obtain ⟨hb, rfl, rfl⟩ := rB_inj hf
          exact V.ret (r := some (.int v9)) hb dX13_mark_56
      · rw [if_neg c] at hf
        refine V.aload_n (q := 29) rfl dX13_mark_28 rfl rfl ?_
        refine V.iconst (q := 30) (v := 1) (by decide) dX13_mark_29 rfl ?_
        obtain ⟨_, e5, hf⟩ := bd_ex hf
        obtain ⟨v6, h3, eh3, hf⟩ := bd2_ex hf
        refine V.callV (q := 33) (ci := 13) (vs := [.int 1]) (st := []) (S2 := [.int v6]) okX13_denied imX13_denied seX13_denied rfl lkX13_487 (tX13_denied eh3) rfl (ck_is e5) (by decide) rfl (Nat.le_of_ble_eq_true rfl) (Nat.le_of_ble_eq_true rfl) rfl dX13_mark_30 rfl rfl ?_
        obtain ⟨hb, rfl, rfl⟩ := rB_inj hf
        exact V.ret (r := some (.int v6)) hb dX13_mark_33
def bX13_mean_34 (k34 : MH → Nat → Int32 → Int32 → Int32 → Int64 → Int32 → Option (Int64 × MH)) (h : MH) (a0 : Nat) (x1 : Int32) (x2 : Int32) (x3 : Int32) (y4 : Int64) (x6 : Int32) : Option (Int64 × MH) := bd (gR h a0 13 3) fun b1 => bd (gI h b1 12 2) fun v2 => if v2 ≤ x6 then (bd (ck h a0 13) fun _ => bd2 (fX13_fraction h a0 y4 100 x3) fun w4 h1 => some (w4, h1)) else (bd (gR h a0 13 3) fun b3 => bd (gR h b3 12 9) fun b4 => bd (lI h b4 x6) fun v5 => bd (ck h a0 13) fun _ => bd2 (fX13_saysNow h a0 x1 x6) fun v7 h1 => bd (ck h1 a0 13) fun _ => bd2 (fX13_partOf h1 a0 x2 v7 1) fun v9 h2 => bd (some (y4 + (Int32.toInt64 (v5 * v9)))) fun w10 => bd (some (x6 + 1)) fun v11 => k34 h2 a0 x1 x2 x3 w10 v11)
set_option maxRecDepth 20000 in
theorem tX13_mean_34 {r : Int64} {h' : MH} (k34 : MH → Nat → Int32 → Int32 → Int32 → Int64 → Int32 → Option (Int64 × MH)) (hk34 : ∀ (h : MH) (a0 : Nat) (x1 : Int32) (x2 : Int32) (x3 : Int32) (y4 : Int64) (x6 : Int32), k34 h a0 x1 x2 x3 y4 x6 = some (r, h') → V TT mX13_mean 4 (some (.long r)) h' h 34 [.ref a0, .int x1, .int x2, .int x3, .long y4, Jk, .int x6] [])  {h : MH} {a0 : Nat} {x1 : Int32} {x2 : Int32} {x3 : Int32} {y4 : Int64} {x6 : Int32} (hf : bX13_mean_34 k34 h a0 x1 x2 x3 y4 x6 = some (r, h')) : V TT mX13_mean 4 (some (.long r)) h' h 34 [.ref a0, .int x1, .int x2, .int x3, .long y4, Jk, .int x6] [] := by
  unfold bX13_mean_34 at hf
  refine V.iload (q := 36) dX13_mean_34 rfl rfl ?_
  refine V.aload_n (q := 37) rfl dX13_mean_36 rfl rfl ?_
  obtain ⟨b1, eb1, hf⟩ := bd_ex hf
  refine V.getR (q := 40) flX13_338 rfl eb1 dX13_mean_37 rfl ?_
  obtain ⟨v2, ev2, hf⟩ := bd_ex hf
  refine V.getI (q := 43) flX13_206 rfl ev2 dX13_mean_40 rfl ?_
  refine V.icmp_ge (q := 46) (tgt := 82) dX13_mean_43 rfl (by decide) (fun c => ?_) (fun c => ?_)
  · rw [if_pos c] at hf
    refine V.aload_n (q := 83) rfl dX13_mean_82 rfl rfl ?_
    refine V.lload (q := 85) dX13_mean_83 rfl rfl ?_
    refine V.ldc2 (q := 88) kcX13_421 dX13_mean_85 rfl ?_
    refine V.iload_n (q := 89) rfl dX13_mean_88 rfl rfl ?_
    obtain ⟨_, e3, hf⟩ := bd_ex hf
    obtain ⟨w4, h1, eh1, hf⟩ := bd2_ex hf
    refine V.callV (q := 92) (ci := 13) (vs := [.long y4, .long 100, .int x3]) (st := []) (S2 := [.long w4]) okX13_fraction imX13_fraction seX13_fraction rfl lkX13_417 (tX13_fraction eh1) rfl (ck_is e3) (by decide) rfl (Nat.le_of_ble_eq_true rfl) (Nat.le_of_ble_eq_true rfl) rfl dX13_mean_89 rfl rfl ?_
    obtain ⟨rfl, rfl⟩ := ret_inj hf
    exact V.ret (r := some (.long w4)) trivial dX13_mean_92
  · rw [if_neg c] at hf
    refine V.lload (q := 48) dX13_mean_46 rfl rfl ?_
    refine V.aload_n (q := 49) rfl dX13_mean_48 rfl rfl ?_
    obtain ⟨b3, eb3, hf⟩ := bd_ex hf
    refine V.getR (q := 52) flX13_338 rfl eb3 dX13_mean_49 rfl ?_
    obtain ⟨b4, eb4, hf⟩ := bd_ex hf
    refine V.getR (q := 55) flX13_257 rfl eb4 dX13_mean_52 rfl ?_
    refine V.iload (q := 57) dX13_mean_55 rfl rfl ?_
    obtain ⟨v5, ev5, hf⟩ := bd_ex hf
    refine V.iald (q := 58) ev5 dX13_mean_57 rfl ?_
    refine V.aload_n (q := 59) rfl dX13_mean_58 rfl rfl ?_
    refine V.iload_n (q := 60) rfl dX13_mean_59 rfl rfl ?_
    refine V.aload_n (q := 61) rfl dX13_mean_60 rfl rfl ?_
    refine V.iload_n (q := 62) rfl dX13_mean_61 rfl rfl ?_
    refine V.iload (q := 64) dX13_mean_62 rfl rfl ?_
    obtain ⟨_, e6, hf⟩ := bd_ex hf
    obtain ⟨v7, h1, eh1, hf⟩ := bd2_ex hf
    refine V.callV (q := 67) (ci := 13) (vs := [.int x1, .int x6]) (st := [.int x2, .ref a0, .int v5, .long y4]) (S2 := [.int v7, .int x2, .ref a0, .int v5, .long y4]) okX13_saysNow imX13_saysNow seX13_saysNow rfl lkX13_367 (tX13_saysNow eh1) rfl (ck_is e6) (by decide) rfl (Nat.le_of_ble_eq_true rfl) (Nat.le_of_ble_eq_true rfl) rfl dX13_mean_64 rfl rfl ?_
    refine V.iconst (q := 68) (v := 1) (by decide) dX13_mean_67 rfl ?_
    obtain ⟨_, e8, hf⟩ := bd_ex hf
    obtain ⟨v9, h2, eh2, hf⟩ := bd2_ex hf
    refine V.callV (q := 71) (ci := 13) (vs := [.int x2, .int v7, .int 1]) (st := [.int v5, .long y4]) (S2 := [.int v9, .int v5, .long y4]) okX13_partOf imX13_partOf seX13_partOf rfl lkX13_406 (tX13_partOf eh2) rfl (ck_is e8) (by decide) rfl (Nat.le_of_ble_eq_true rfl) (Nat.le_of_ble_eq_true rfl) rfl dX13_mean_68 rfl rfl ?_
    refine V.imul (q := 72) dX13_mean_71 rfl ?_
    refine V.i2l (q := 73) dX13_mean_72 rfl ?_
    refine V.ladd (q := 74) dX13_mean_73 rfl ?_
    obtain ⟨w10, ew10, hf⟩ := bd_ex hf
    refine V.topL (Option.some.inj ew10) ?_
    refine V.lstore (q := 76) (L' := [.ref a0, .int x1, .int x2, .int x3, .long w10, Jk, .int x6]) dX13_mean_74 rfl (by decide) rfl rfl ?_
    obtain ⟨v11, ev11, hf⟩ := bd_ex hf
    refine V.iinc (q := 79) (v := v11) (L' := [.ref a0, .int x1, .int x2, .int x3, .long w10, Jk, .int v11]) dX13_mean_76 rfl rfl (Option.some.inj ev11) (by decide) rfl rfl ?_
    refine V.goto (q := 34) dX13_mean_79 (by decide) ?_
    exact hk34 _ _ _ _ _ _ _ hf
def fX13_mean_34  : Nat → MH → Nat → Int32 → Int32 → Int32 → Int64 → Int32 → Option (Int64 × MH)
  | 0 => fun _ _ _ _ _ _ _ => none
  | n + 1 => bX13_mean_34  (fX13_mean_34  n)
theorem tlX13_mean_34 {r : Int64} {h' : MH}   : ∀ (n : Nat) (h : MH) (a0 : Nat) (x1 : Int32) (x2 : Int32) (x3 : Int32) (y4 : Int64) (x6 : Int32), fX13_mean_34  n h a0 x1 x2 x3 y4 x6 = some (r, h') → V TT mX13_mean 4 (some (.long r)) h' h 34 [.ref a0, .int x1, .int x2, .int x3, .long y4, Jk, .int x6] [] := by
  intro n
  induction n with
  | zero => intro h a0 x1 x2 x3 y4 x6 hf; exact nomatch (show (none : Option (Int64 × MH)) = some (r, h') from hf)
  | succ n ih => intro h a0 x1 x2 x3 y4 x6 hf; exact tX13_mean_34  (fX13_mean_34  n) ih hf
def fX13_mean (h : MH) (a0 : Nat) (x1 : Int32) (x2 : Int32) (x3 : Int32) : Option (Int64 × MH) := bd (pI h a0 13 0 0) fun h1 => bd (ck h1 a0 13) fun _ => bd2 (fX13_isStamp h1 a0 x1) fun v2 h2 => if v2 = 0 then (bd (ck h2 a0 13) fun _ => bd2 (fX13_refused h2 a0 1) fun v4 h3 => some ((Int32.toInt64 v4), h3)) else (bd (ck h2 a0 13) fun _ => bd2 (fX13_isHand h2 a0 x2) fun v4 h3 => if v4 = 0 then (bd (ck h3 a0 13) fun _ => bd2 (fX13_refused h3 a0 1) fun v6 h4 => some ((Int32.toInt64 v6), h4)) else (fX13_mean_34 FU h3 a0 x1 x2 x3 0 0))
set_option maxRecDepth 20000 in
theorem tX13_mean {r : Int64} {h' : MH} {h : MH} {a0 : Nat} {x1 : Int32} {x2 : Int32} {x3 : Int32} (hf : fX13_mean h a0 x1 x2 x3 = some (r, h')) : VM mX13_mean 4 (some (.long r)) h' h [.ref a0, .int x1, .int x2, .int x3] := by
  show V TT mX13_mean 4 _ h' h 0 [.ref a0, .int x1, .int x2, .int x3, Jk, Jk, Jk] []
  unfold fX13_mean at hf
  refine V.aload_n (q := 1) rfl dX13_mean_0 rfl rfl ?_
  refine V.iconst (q := 2) (v := 0) (by decide) dX13_mean_1 rfl ?_
  obtain ⟨h1, eh1, hf⟩ := bd_ex hf
  refine V.putI (q := 5) (fpX13_48 rfl) rfl eh1 dX13_mean_2 rfl ?_
  refine V.aload_n (q := 6) rfl dX13_mean_5 rfl rfl ?_
  refine V.iload_n (q := 7) rfl dX13_mean_6 rfl rfl ?_
  obtain ⟨_, e1, hf⟩ := bd_ex hf
  obtain ⟨v2, h2, eh2, hf⟩ := bd2_ex hf
  refine V.callV (q := 10) (ci := 13) (vs := [.int x1]) (st := []) (S2 := [.int v2]) okX13_isStamp imX13_isStamp seX13_isStamp rfl lkX13_358 (tX13_isStamp eh2) rfl (ck_is e1) (by decide) rfl (Nat.le_of_ble_eq_true rfl) (Nat.le_of_ble_eq_true rfl) rfl dX13_mean_7 rfl rfl ?_
  refine V.if_eq (q := 13) (tgt := 21) dX13_mean_10 rfl (by decide) (fun c => ?_) (fun c => ?_)
  · rw [if_pos c] at hf
    refine V.aload_n (q := 22) rfl dX13_mean_21 rfl rfl ?_
    refine V.iconst (q := 23) (v := 1) (by decide) dX13_mean_22 rfl ?_
    obtain ⟨_, e3, hf⟩ := bd_ex hf
    obtain ⟨v4, h3, eh3, hf⟩ := bd2_ex hf
    refine V.callV (q := 26) (ci := 13) (vs := [.int 1]) (st := []) (S2 := [.int v4]) okX13_refused imX13_refused seX13_refused rfl lkX13_54 (tX13_refused eh3) rfl (ck_is e3) (by decide) rfl (Nat.le_of_ble_eq_true rfl) (Nat.le_of_ble_eq_true rfl) rfl dX13_mean_23 rfl rfl ?_
    refine V.i2l (q := 27) dX13_mean_26 rfl ?_
    obtain ⟨rfl, rfl⟩ := ret_inj hf
    exact V.ret (r := some (.long (Int32.toInt64 v4))) trivial dX13_mean_27
  · rw [if_neg c] at hf
    refine V.aload_n (q := 14) rfl dX13_mean_13 rfl rfl ?_
    refine V.iload_n (q := 15) rfl dX13_mean_14 rfl rfl ?_
    obtain ⟨_, e3, hf⟩ := bd_ex hf
    obtain ⟨v4, h3, eh3, hf⟩ := bd2_ex hf
    refine V.callV (q := 18) (ci := 13) (vs := [.int x2]) (st := []) (S2 := [.int v4]) okX13_isHand imX13_isHand seX13_isHand rfl lkX13_361 (tX13_isHand eh3) rfl (ck_is e3) (by decide) rfl (Nat.le_of_ble_eq_true rfl) (Nat.le_of_ble_eq_true rfl) rfl dX13_mean_15 rfl rfl ?_
    refine V.if_ne (q := 21) (tgt := 28) dX13_mean_18 rfl (by decide) (fun c => ?_) (fun c => ?_)
    · rw [if_neg c] at hf
      refine V.lconst (q := 29) (v := 0) (by decide) dX13_mean_28 rfl ?_
      refine V.lstore (q := 31) (L' := [.ref a0, .int x1, .int x2, .int x3, .long 0, Jk, Jk]) dX13_mean_29 rfl (by decide) rfl rfl ?_
      refine V.iconst (q := 32) (v := 0) (by decide) dX13_mean_31 rfl ?_
      refine V.istore (q := 34) (L' := [.ref a0, .int x1, .int x2, .int x3, .long 0, Jk, .int 0]) dX13_mean_32 rfl (by decide) rfl rfl ?_
      exact tlX13_mean_34  FU _ _ _ _ _ _ _ hf
    · rw [if_pos c] at hf
      refine V.aload_n (q := 22) rfl dX13_mean_21 rfl rfl ?_
      refine V.iconst (q := 23) (v := 1) (by decide) dX13_mean_22 rfl ?_
      obtain ⟨_, e5, hf⟩ := bd_ex hf
      obtain ⟨v6, h4, eh4, hf⟩ := bd2_ex hf
      refine V.callV (q := 26) (ci := 13) (vs := [.int 1]) (st := []) (S2 := [.int v6]) okX13_refused imX13_refused seX13_refused rfl lkX13_54 (tX13_refused eh4) rfl (ck_is e5) (by decide) rfl (Nat.le_of_ble_eq_true rfl) (Nat.le_of_ble_eq_true rfl) rfl dX13_mean_23 rfl rfl ?_
      refine V.i2l (q := 27) dX13_mean_26 rfl ?_
      obtain ⟨rfl, rfl⟩ := ret_inj hf
      exact V.ret (r := some (.long (Int32.toInt64 v6))) trivial dX13_mean_27
def fX13_names (h : MH) (a0 : Nat) (y1 : Int64) (x3 : Int32) (x4 : Int32) : Option (MH) := bd (gR h a0 13 4) fun b1 => bd (gR h b1 12 24) fun b2 => bd (gR h a0 13 4) fun b3 => bd (gI h b3 12 8) fun v4 => bd (tJ h b2 v4 y1) fun h1 => bd (gR h1 a0 13 4) fun b5 => bd (gR h1 b5 12 25) fun b6 => bd (gR h1 a0 13 4) fun b7 => bd (gI h1 b7 12 8) fun v8 => bd (tI h1 b6 v8 x3) fun h2 => bd (gR h2 a0 13 4) fun b9 => bd (gR h2 b9 12 26) fun b10 => bd (gR h2 a0 13 4) fun b11 => bd (gI h2 b11 12 8) fun v12 => bd (tI h2 b10 v12 x4) fun h3 => bd (gR h3 a0 13 4) fun b13 => bd (gI h3 b13 12 8) fun v14 => bd (pI h3 b13 12 8 (v14 + 1)) fun h4 => some h4
set_option maxRecDepth 20000 in
theorem tX13_names {h' : MH} {h : MH} {a0 : Nat} {y1 : Int64} {x3 : Int32} {x4 : Int32} (hf : fX13_names h a0 y1 x3 x4 = some h') : VM mX13_names 0 none h' h [.ref a0, .long y1, .int x3, .int x4] := by
  show V TT mX13_names 0 _ h' h 0 [.ref a0, .long y1, Jk, .int x3, .int x4] []
  unfold fX13_names at hf
  refine V.aload_n (q := 1) rfl dX13_names_0 rfl rfl ?_
  obtain ⟨b1, eb1, hf⟩ := bd_ex hf
  refine V.getR (q := 4) flX13_157 rfl eb1 dX13_names_1 rfl ?_
  obtain ⟨b2, eb2, hf⟩ := bd_ex hf
  refine V.getR (q := 7) flX13_174 rfl eb2 dX13_names_4 rfl ?_
  refine V.aload_n (q := 8) rfl dX13_names_7 rfl rfl ?_
  obtain ⟨b3, eb3, hf⟩ := bd_ex hf
  refine V.getR (q := 11) flX13_157 rfl eb3 dX13_names_8 rfl ?_
  obtain ⟨v4, ev4, hf⟩ := bd_ex hf
  refine V.getI (q := 14) flX13_178 rfl ev4 dX13_names_11 rfl ?_
  refine V.lload_n (q := 15) rfl dX13_names_14 rfl rfl ?_
  obtain ⟨h1, eh1, hf⟩ := bd_ex hf
  refine V.last (q := 16) eh1 dX13_names_15 rfl ?_
  refine V.aload_n (q := 17) rfl dX13_names_16 rfl rfl ?_
  obtain ⟨b5, eb5, hf⟩ := bd_ex hf
  refine V.getR (q := 20) flX13_157 rfl eb5 dX13_names_17 rfl ?_
  obtain ⟨b6, eb6, hf⟩ := bd_ex hf
  refine V.getR (q := 23) flX13_181 rfl eb6 dX13_names_20 rfl ?_
  refine V.aload_n (q := 24) rfl dX13_names_23 rfl rfl ?_
  obtain ⟨b7, eb7, hf⟩ := bd_ex hf
  refine V.getR (q := 27) flX13_157 rfl eb7 dX13_names_24 rfl ?_
  obtain ⟨v8, ev8, hf⟩ := bd_ex hf
  refine V.getI (q := 30) flX13_178 rfl ev8 dX13_names_27 rfl ?_
  refine V.iload_n (q := 31) rfl dX13_names_30 rfl rfl ?_
  obtain ⟨h2, eh2, hf⟩ := bd_ex hf
  refine V.iast (q := 32) eh2 dX13_names_31 rfl ?_
  refine V.aload_n (q := 33) rfl dX13_names_32 rfl rfl ?_
  obtain ⟨b9, eb9, hf⟩ := bd_ex hf
  refine V.getR (q := 36) flX13_157 rfl eb9 dX13_names_33 rfl ?_
  obtain ⟨b10, eb10, hf⟩ := bd_ex hf
  refine V.getR (q := 39) flX13_184 rfl eb10 dX13_names_36 rfl ?_
  refine V.aload_n (q := 40) rfl dX13_names_39 rfl rfl ?_
  obtain ⟨b11, eb11, hf⟩ := bd_ex hf
  refine V.getR (q := 43) flX13_157 rfl eb11 dX13_names_40 rfl ?_
  obtain ⟨v12, ev12, hf⟩ := bd_ex hf
  refine V.getI (q := 46) flX13_178 rfl ev12 dX13_names_43 rfl ?_
  refine V.iload (q := 48) dX13_names_46 rfl rfl ?_
  obtain ⟨h3, eh3, hf⟩ := bd_ex hf
  refine V.iast (q := 49) eh3 dX13_names_48 rfl ?_
  refine V.aload_n (q := 50) rfl dX13_names_49 rfl rfl ?_
  obtain ⟨b13, eb13, hf⟩ := bd_ex hf
  refine V.getR (q := 53) flX13_157 rfl eb13 dX13_names_50 rfl ?_
  refine V.dupR (q := 54) dX13_names_53 rfl ?_
  obtain ⟨v14, ev14, hf⟩ := bd_ex hf
  refine V.getI (q := 57) flX13_178 rfl ev14 dX13_names_54 rfl ?_
  refine V.iconst (q := 58) (v := 1) (by decide) dX13_names_57 rfl ?_
  refine V.iadd (q := 59) dX13_names_58 rfl ?_
  obtain ⟨h4, eh4, hf⟩ := bd_ex hf
  refine V.putI (q := 62) (fpX13_178 rfl) rfl eh4 dX13_names_59 rfl ?_
  cases hf
  exact V.ret (r := none) trivial dX13_names_62
def fX13_needs (h : MH) (a0 : Nat) (t1 : Nat) : Option (MH) := bd (tkc t1) fun _ => bd (ck h a0 13) fun _ => bd2 (fX13_isWord h a0 t1) fun v2 h1 => if v2 = 0 then (bd (ck h1 a0 13) fun _ => bd (fX13_flaw h1 a0 1) fun h2 => bd (ck h2 a0 13) fun _ => bd (fX13_goesOn h2 a0 ) fun h3 => some h3) else (bd (ck h1 a0 13) fun _ => bd (fX13_goesOn h1 a0 ) fun h2 => some h2)
set_option maxRecDepth 20000 in
theorem tX13_needs {h' : MH} {h : MH} {a0 : Nat} {t1 : Nat} (hf : fX13_needs h a0 t1 = some h') : VM mX13_needs 6 none h' h [.ref a0, .retAddr t1] := by
  show V TT mX13_needs 6 _ h' h 0 [.ref a0, .retAddr t1] []
  unfold fX13_needs at hf
  obtain ⟨_, et_t1, hf⟩ := bd_ex hf
  have ht_t1 := tkc_is et_t1
  refine V.aload_n (q := 1) rfl dX13_needs_0 rfl rfl ?_
  refine V.aloadT_n (q := 2) rfl (tk_ne ht_t1) (tk_ad ht_t1) dX13_needs_1 rfl rfl ?_
  obtain ⟨_, e1, hf⟩ := bd_ex hf
  obtain ⟨v2, h1, eh1, hf⟩ := bd2_ex hf
  refine V.callV (q := 5) (ci := 13) (vs := [.retAddr t1]) (st := []) (S2 := [.int v2]) okX13_isWord imX13_isWord seX13_isWord rfl lkX13_119 (tX13_isWord eh1) rfl (ck_is e1) (by decide) rfl (Nat.le_of_ble_eq_true rfl) (Nat.le_of_ble_eq_true rfl) rfl dX13_needs_2 rfl rfl ?_
  refine V.if_ne (q := 8) (tgt := 13) dX13_needs_5 rfl (by decide) (fun c => ?_) (fun c => ?_)
  · rw [if_neg c] at hf
    refine V.aload_n (q := 14) rfl dX13_needs_13 rfl rfl ?_
    obtain ⟨_, e3, hf⟩ := bd_ex hf
    obtain ⟨h2, eh2, hf⟩ := bd_ex hf
    refine V.callV (q := 17) (ci := 13) (vs := []) (st := []) (S2 := []) okX13_goesOn imX13_goesOn seX13_goesOn rfl lkX13_116 (tX13_goesOn eh2) rfl (ck_is e3) (by decide) rfl (Nat.le_of_ble_eq_true rfl) (Nat.le_of_ble_eq_true rfl) rfl dX13_needs_14 rfl rfl ?_
    cases hf
    exact V.ret (r := none) trivial dX13_needs_17
  · rw [if_pos c] at hf
    refine V.aload_n (q := 9) rfl dX13_needs_8 rfl rfl ?_
    refine V.iconst (q := 10) (v := 1) (by decide) dX13_needs_9 rfl ?_
    obtain ⟨_, e3, hf⟩ := bd_ex hf
    obtain ⟨h2, eh2, hf⟩ := bd_ex hf
    refine V.callV (q := 13) (ci := 13) (vs := [.int 1]) (st := []) (S2 := []) okX13_flaw imX13_flaw seX13_flaw rfl lkX13_123 (tX13_flaw eh2) rfl (ck_is e3) (by decide) rfl (Nat.le_of_ble_eq_true rfl) (Nat.le_of_ble_eq_true rfl) rfl dX13_needs_10 rfl rfl ?_
    refine V.aload_n (q := 14) rfl dX13_needs_13 rfl rfl ?_
    obtain ⟨_, e4, hf⟩ := bd_ex hf
    obtain ⟨h3, eh3, hf⟩ := bd_ex hf
    refine V.callV (q := 17) (ci := 13) (vs := []) (st := []) (S2 := []) okX13_goesOn imX13_goesOn seX13_goesOn rfl lkX13_116 (tX13_goesOn eh3) rfl (ck_is e4) (by decide) rfl (Nat.le_of_ble_eq_true rfl) (Nat.le_of_ble_eq_true rfl) rfl dX13_needs_14 rfl rfl ?_
    cases hf
    exact V.ret (r := none) trivial dX13_needs_17
