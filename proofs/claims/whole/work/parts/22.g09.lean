def bX13_next_48 (k48 : MH → Nat → Int32 → Int32 → Int32 → Int32 → Int64 → Int32 → Option (Int64 × MH)) (h : MH) (a0 : Nat) (x1 : Int32) (x2 : Int32) (x3 : Int32) (x4 : Int32) (y5 : Int64) (x7 : Int32) : Option (Int64 × MH) := bd (gR h a0 13 3) fun b1 => bd (gI h b1 12 3) fun v2 => if v2 ≤ x7 then (bd (ck h a0 13) fun _ => bd2 (fX13_fitAll h a0 ) fun w4 h1 => bd (ck h1 a0 13) fun _ => bd2 (fX13_fraction h1 a0 y5 (100 * w4) x4) fun w6 h2 => some (w6, h2)) else (bd (ck h a0 13) fun _ => bd2 (fX13_fitsPrints h a0 x7) fun w4 h1 => bd (ck h1 a0 13) fun _ => bd2 (fX13_saysNow h1 a0 x7 x1) fun v6 h2 => bd (ck h2 a0 13) fun _ => bd2 (fX13_partOf h2 a0 x2 v6 x3) fun v8 h3 => bd (some (y5 + (w4 * (Int32.toInt64 v8)))) fun w9 => bd (some (x7 + 1)) fun v10 => k48 h3 a0 x1 x2 x3 x4 w9 v10)
set_option maxRecDepth 20000 in
theorem tX13_next_48 {r : Int64} {h' : MH} (k48 : MH → Nat → Int32 → Int32 → Int32 → Int32 → Int64 → Int32 → Option (Int64 × MH)) (hk48 : ∀ (h : MH) (a0 : Nat) (x1 : Int32) (x2 : Int32) (x3 : Int32) (x4 : Int32) (y5 : Int64) (x7 : Int32), k48 h a0 x1 x2 x3 x4 y5 x7 = some (r, h') → V TT mX13_next 6 (some (.long r)) h' h 48 [.ref a0, .int x1, .int x2, .int x3, .int x4, .long y5, Jk, .int x7] [])  {h : MH} {a0 : Nat} {x1 : Int32} {x2 : Int32} {x3 : Int32} {x4 : Int32} {y5 : Int64} {x7 : Int32} (hf : bX13_next_48 k48 h a0 x1 x2 x3 x4 y5 x7 = some (r, h')) : V TT mX13_next 6 (some (.long r)) h' h 48 [.ref a0, .int x1, .int x2, .int x3, .int x4, .long y5, Jk, .int x7] [] := by
  unfold bX13_next_48 at hf
  refine V.iload (q := 50) dX13_next_48 rfl rfl ?_
  refine V.aload_n (q := 51) rfl dX13_next_50 rfl rfl ?_
  obtain ⟨b1, eb1, hf⟩ := bd_ex hf
  refine V.getR (q := 54) flX13_338 rfl eb1 dX13_next_51 rfl ?_
  obtain ⟨v2, ev2, hf⟩ := bd_ex hf
  refine V.getI (q := 57) flX13_262 rfl ev2 dX13_next_54 rfl ?_
  refine V.icmp_ge (q := 60) (tgt := 92) dX13_next_57 rfl (by decide) (fun c => ?_) (fun c => ?_)
  · rw [if_pos c] at hf
    refine V.aload_n (q := 93) rfl dX13_next_92 rfl rfl ?_
    refine V.lload (q := 95) dX13_next_93 rfl rfl ?_
    refine V.ldc2 (q := 98) kcX13_421 dX13_next_95 rfl ?_
    refine V.aload_n (q := 99) rfl dX13_next_98 rfl rfl ?_
    obtain ⟨_, e3, hf⟩ := bd_ex hf
    obtain ⟨w4, h1, eh1, hf⟩ := bd2_ex hf
    refine V.callV (q := 102) (ci := 13) (vs := []) (st := [.long 100, .long y5, .ref a0]) (S2 := [.long w4, .long 100, .long y5, .ref a0]) okX13_fitAll imX13_fitAll seX13_fitAll rfl lkX13_414 (tX13_fitAll eh1) rfl (ck_is e3) (by decide) rfl (Nat.le_of_ble_eq_true rfl) (Nat.le_of_ble_eq_true rfl) rfl dX13_next_99 rfl rfl ?_
    refine V.lmul (q := 103) dX13_next_102 rfl ?_
    refine V.iload (q := 105) dX13_next_103 rfl rfl ?_
    obtain ⟨_, e5, hf⟩ := bd_ex hf
    obtain ⟨w6, h2, eh2, hf⟩ := bd2_ex hf
    refine V.callV (q := 108) (ci := 13) (vs := [.long y5, .long (100 * w4), .int x4]) (st := []) (S2 := [.long w6]) okX13_fraction imX13_fraction seX13_fraction rfl lkX13_417 (tX13_fraction eh2) rfl (ck_is e5) (by decide) rfl (Nat.le_of_ble_eq_true rfl) (Nat.le_of_ble_eq_true rfl) rfl dX13_next_105 rfl rfl ?_
    obtain ⟨rfl, rfl⟩ := ret_inj hf
    exact V.ret (r := some (.long w6)) trivial dX13_next_108
  · rw [if_neg c] at hf
    refine V.lload (q := 62) dX13_next_60 rfl rfl ?_
    refine V.aload_n (q := 63) rfl dX13_next_62 rfl rfl ?_
    refine V.iload (q := 65) dX13_next_63 rfl rfl ?_
    obtain ⟨_, e3, hf⟩ := bd_ex hf
    obtain ⟨w4, h1, eh1, hf⟩ := bd2_ex hf
    refine V.callV (q := 68) (ci := 13) (vs := [.int x7]) (st := [.long y5]) (S2 := [.long w4, .long y5]) okX13_fitsPrints imX13_fitsPrints seX13_fitsPrints rfl lkX13_410 (tX13_fitsPrints eh1) rfl (ck_is e3) (by decide) rfl (Nat.le_of_ble_eq_true rfl) (Nat.le_of_ble_eq_true rfl) rfl dX13_next_65 rfl rfl ?_
    refine V.aload_n (q := 69) rfl dX13_next_68 rfl rfl ?_
    refine V.iload_n (q := 70) rfl dX13_next_69 rfl rfl ?_
    refine V.aload_n (q := 71) rfl dX13_next_70 rfl rfl ?_
    refine V.iload (q := 73) dX13_next_71 rfl rfl ?_
    refine V.iload_n (q := 74) rfl dX13_next_73 rfl rfl ?_
    obtain ⟨_, e5, hf⟩ := bd_ex hf
    obtain ⟨v6, h2, eh2, hf⟩ := bd2_ex hf
    refine V.callV (q := 77) (ci := 13) (vs := [.int x7, .int x1]) (st := [.int x2, .ref a0, .long w4, .long y5]) (S2 := [.int v6, .int x2, .ref a0, .long w4, .long y5]) okX13_saysNow imX13_saysNow seX13_saysNow rfl lkX13_367 (tX13_saysNow eh2) rfl (ck_is e5) (by decide) rfl (Nat.le_of_ble_eq_true rfl) (Nat.le_of_ble_eq_true rfl) rfl dX13_next_74 rfl rfl ?_
    refine V.iload_n (q := 78) rfl dX13_next_77 rfl rfl ?_
    obtain ⟨_, e7, hf⟩ := bd_ex hf
    obtain ⟨v8, h3, eh3, hf⟩ := bd2_ex hf
    refine V.callV (q := 81) (ci := 13) (vs := [.int x2, .int v6, .int x3]) (st := [.long w4, .long y5]) (S2 := [.int v8, .long w4, .long y5]) okX13_partOf imX13_partOf seX13_partOf rfl lkX13_406 (tX13_partOf eh3) rfl (ck_is e7) (by decide) rfl (Nat.le_of_ble_eq_true rfl) (Nat.le_of_ble_eq_true rfl) rfl dX13_next_78 rfl rfl ?_
    refine V.i2l (q := 82) dX13_next_81 rfl ?_
    refine V.lmul (q := 83) dX13_next_82 rfl ?_
    refine V.ladd (q := 84) dX13_next_83 rfl ?_
    obtain ⟨w9, ew9, hf⟩ := bd_ex hf
    refine V.topL (Option.some.inj ew9) ?_
    refine V.lstore (q := 86) (L' := [.ref a0, .int x1, .int x2, .int x3, .int x4, .long w9, Jk, .int x7]) dX13_next_84 rfl (by decide) rfl rfl ?_
    obtain ⟨v10, ev10, hf⟩ := bd_ex hf
    refine V.iinc (q := 89) (v := v10) (L' := [.ref a0, .int x1, .int x2, .int x3, .int x4, .long w9, Jk, .int v10]) dX13_next_86 rfl rfl (Option.some.inj ev10) (by decide) rfl rfl ?_
    refine V.goto (q := 48) dX13_next_89 (by decide) ?_
    exact hk48 _ _ _ _ _ _ _ _ hf
def fX13_next_48  : Nat → MH → Nat → Int32 → Int32 → Int32 → Int32 → Int64 → Int32 → Option (Int64 × MH)
  | 0 => fun _ _ _ _ _ _ _ _ => none
  | n + 1 => bX13_next_48  (fX13_next_48  n)
theorem tlX13_next_48 {r : Int64} {h' : MH}   : ∀ (n : Nat) (h : MH) (a0 : Nat) (x1 : Int32) (x2 : Int32) (x3 : Int32) (x4 : Int32) (y5 : Int64) (x7 : Int32), fX13_next_48  n h a0 x1 x2 x3 x4 y5 x7 = some (r, h') → V TT mX13_next 6 (some (.long r)) h' h 48 [.ref a0, .int x1, .int x2, .int x3, .int x4, .long y5, Jk, .int x7] [] := by
  intro n
  induction n with
  | zero => intro h a0 x1 x2 x3 x4 y5 x7 hf; exact nomatch (show (none : Option (Int64 × MH)) = some (r, h') from hf)
  | succ n ih => intro h a0 x1 x2 x3 x4 y5 x7 hf; exact tX13_next_48  (fX13_next_48  n) ih hf
def fX13_next (h : MH) (a0 : Nat) (x1 : Int32) (x2 : Int32) (x3 : Int32) (x4 : Int32) : Option (Int64 × MH) := bd (pI h a0 13 0 0) fun h1 => bd (ck h1 a0 13) fun _ => bd2 (fX13_isPaper h1 a0 x1) fun v2 h2 => if v2 = 0 then (bd (ck h2 a0 13) fun _ => bd2 (fX13_refused h2 a0 1) fun v4 h3 => some ((Int32.toInt64 v4), h3)) else (bd (ck h2 a0 13) fun _ => bd2 (fX13_isHand h2 a0 x2) fun v4 h3 => if v4 = 0 then (bd (ck h3 a0 13) fun _ => bd2 (fX13_refused h3 a0 1) fun v6 h4 => some ((Int32.toInt64 v6), h4)) else (bd2 (fX13_isVerdict h3 x3) fun v5 h4 => if v5 = 0 then (bd (ck h4 a0 13) fun _ => bd2 (fX13_refused h4 a0 2) fun v7 h5 => some ((Int32.toInt64 v7), h5)) else (fX13_next_48 FU h4 a0 x1 x2 x3 x4 0 0)))
set_option maxRecDepth 20000 in
theorem tX13_next {r : Int64} {h' : MH} {h : MH} {a0 : Nat} {x1 : Int32} {x2 : Int32} {x3 : Int32} {x4 : Int32} (hf : fX13_next h a0 x1 x2 x3 x4 = some (r, h')) : VM mX13_next 6 (some (.long r)) h' h [.ref a0, .int x1, .int x2, .int x3, .int x4] := by
  show V TT mX13_next 6 _ h' h 0 [.ref a0, .int x1, .int x2, .int x3, .int x4, Jk, Jk, Jk] []
  unfold fX13_next at hf
  refine V.aload_n (q := 1) rfl dX13_next_0 rfl rfl ?_
  refine V.iconst (q := 2) (v := 0) (by decide) dX13_next_1 rfl ?_
  obtain ⟨h1, eh1, hf⟩ := bd_ex hf
  refine V.putI (q := 5) (fpX13_48 rfl) rfl eh1 dX13_next_2 rfl ?_
  refine V.aload_n (q := 6) rfl dX13_next_5 rfl rfl ?_
  refine V.iload_n (q := 7) rfl dX13_next_6 rfl rfl ?_
  obtain ⟨_, e1, hf⟩ := bd_ex hf
  obtain ⟨v2, h2, eh2, hf⟩ := bd2_ex hf
  refine V.callV (q := 10) (ci := 13) (vs := [.int x1]) (st := []) (S2 := [.int v2]) okX13_isPaper imX13_isPaper seX13_isPaper rfl lkX13_355 (tX13_isPaper eh2) rfl (ck_is e1) (by decide) rfl (Nat.le_of_ble_eq_true rfl) (Nat.le_of_ble_eq_true rfl) rfl dX13_next_7 rfl rfl ?_
  refine V.if_eq (q := 13) (tgt := 21) dX13_next_10 rfl (by decide) (fun c => ?_) (fun c => ?_)
  · rw [if_pos c] at hf
    refine V.aload_n (q := 22) rfl dX13_next_21 rfl rfl ?_
    refine V.iconst (q := 23) (v := 1) (by decide) dX13_next_22 rfl ?_
    obtain ⟨_, e3, hf⟩ := bd_ex hf
    obtain ⟨v4, h3, eh3, hf⟩ := bd2_ex hf
    refine V.callV (q := 26) (ci := 13) (vs := [.int 1]) (st := []) (S2 := [.int v4]) okX13_refused imX13_refused seX13_refused rfl lkX13_54 (tX13_refused eh3) rfl (ck_is e3) (by decide) rfl (Nat.le_of_ble_eq_true rfl) (Nat.le_of_ble_eq_true rfl) rfl dX13_next_23 rfl rfl ?_
    refine V.i2l (q := 27) dX13_next_26 rfl ?_
    obtain ⟨rfl, rfl⟩ := ret_inj hf
    exact V.ret (r := some (.long (Int32.toInt64 v4))) trivial dX13_next_27
  · rw [if_neg c] at hf
    refine V.aload_n (q := 14) rfl dX13_next_13 rfl rfl ?_
    refine V.iload_n (q := 15) rfl dX13_next_14 rfl rfl ?_
    obtain ⟨_, e3, hf⟩ := bd_ex hf
    obtain ⟨v4, h3, eh3, hf⟩ := bd2_ex hf
    refine V.callV (q := 18) (ci := 13) (vs := [.int x2]) (st := []) (S2 := [.int v4]) okX13_isHand imX13_isHand seX13_isHand rfl lkX13_361 (tX13_isHand eh3) rfl (ck_is e3) (by decide) rfl (Nat.le_of_ble_eq_true rfl) (Nat.le_of_ble_eq_true rfl) rfl dX13_next_15 rfl rfl ?_
    refine V.if_ne (q := 21) (tgt := 28) dX13_next_18 rfl (by decide) (fun c => ?_) (fun c => ?_)
    · rw [if_neg c] at hf
      refine V.iload_n (q := 29) rfl dX13_next_28 rfl rfl ?_
      obtain ⟨v5, h4, eh4, hf⟩ := bd2_ex hf
      refine V.callS (q := 32) (vs := [.int x3]) (st := []) (S2 := [.int v5]) okX13_isVerdict stX13_isVerdict lkX13_373 (tX13_isVerdict eh4) rfl (by decide) rfl (Nat.le_of_ble_eq_true rfl) (Nat.le_of_ble_eq_true rfl) rfl dX13_next_29 rfl rfl ?_
      refine V.if_ne (q := 35) (tgt := 42) dX13_next_32 rfl (by decide) (fun c => ?_) (fun c => ?_)
      · rw [if_neg c] at hf
        refine V.lconst (q := 43) (v := 0) (by decide) dX13_next_42 rfl ?_
        refine V.lstore (q := 45) (L' := [.ref a0, .int x1, .int x2, .int x3, .int x4, .long 0, Jk, Jk]) dX13_next_43 rfl (by decide) rfl rfl ?_
        refine V.iconst (q := 46) (v := 0) (by decide) dX13_next_45 rfl ?_
        refine V.istore (q := 48) (L' := [.ref a0, .int x1, .int x2, .int x3, .int x4, .long 0, Jk, .int 0]) dX13_next_46 rfl (by decide) rfl rfl ?_
        exact tlX13_next_48  FU _ _ _ _ _ _ _ _ hf
      · rw [if_pos c] at hf
        refine V.aload_n (q := 36) rfl dX13_next_35 rfl rfl ?_
        refine V.iconst (q := 37) (v := 2) (by decide) dX13_next_36 rfl ?_
        obtain ⟨_, e6, hf⟩ := bd_ex hf
        obtain ⟨v7, h5, eh5, hf⟩ := bd2_ex hf
        refine V.callV (q := 40) (ci := 13) (vs := [.int 2]) (st := []) (S2 := [.int v7]) okX13_refused imX13_refused seX13_refused rfl lkX13_54 (tX13_refused eh5) rfl (ck_is e6) (by decide) rfl (Nat.le_of_ble_eq_true rfl) (Nat.le_of_ble_eq_true rfl) rfl dX13_next_37 rfl rfl ?_
        refine V.i2l (q := 41) dX13_next_40 rfl ?_
        obtain ⟨rfl, rfl⟩ := ret_inj hf
        exact V.ret (r := some (.long (Int32.toInt64 v7))) trivial dX13_next_41
    · rw [if_pos c] at hf
      refine V.aload_n (q := 22) rfl dX13_next_21 rfl rfl ?_
      refine V.iconst (q := 23) (v := 1) (by decide) dX13_next_22 rfl ?_
      obtain ⟨_, e5, hf⟩ := bd_ex hf
      obtain ⟨v6, h4, eh4, hf⟩ := bd2_ex hf
      refine V.callV (q := 26) (ci := 13) (vs := [.int 1]) (st := []) (S2 := [.int v6]) okX13_refused imX13_refused seX13_refused rfl lkX13_54 (tX13_refused eh4) rfl (ck_is e5) (by decide) rfl (Nat.le_of_ble_eq_true rfl) (Nat.le_of_ble_eq_true rfl) rfl dX13_next_23 rfl rfl ?_
      refine V.i2l (q := 27) dX13_next_26 rfl ?_
      obtain ⟨rfl, rfl⟩ := ret_inj hf
      exact V.ret (r := some (.long (Int32.toInt64 v6))) trivial dX13_next_27
def fX13_odds (h : MH) (a0 : Nat) (x1 : Int32) (x2 : Int32) : Option (Int64 × MH) := bd (pI h a0 13 0 0) fun h1 => bd (ck h1 a0 13) fun _ => bd2 (fX13_isStamp h1 a0 x1) fun v2 h2 => if v2 = 0 then (bd (ck h2 a0 13) fun _ => bd2 (fX13_refused h2 a0 1) fun v4 h3 => some ((Int32.toInt64 v4), h3)) else (bd (ck h2 a0 13) fun _ => bd2 (fX13_fitsPrints h2 a0 x1) fun w4 h3 => bd (ck h3 a0 13) fun _ => bd2 (fX13_fitAll h3 a0 ) fun w6 h4 => bd (ck h4 a0 13) fun _ => bd2 (fX13_fraction h4 a0 w4 w6 x2) fun w8 h5 => some (w8, h5))
set_option maxRecDepth 20000 in
theorem tX13_odds {r : Int64} {h' : MH} {h : MH} {a0 : Nat} {x1 : Int32} {x2 : Int32} (hf : fX13_odds h a0 x1 x2 = some (r, h')) : VM mX13_odds 6 (some (.long r)) h' h [.ref a0, .int x1, .int x2] := by
  show V TT mX13_odds 6 _ h' h 0 [.ref a0, .int x1, .int x2] []
  unfold fX13_odds at hf
  refine V.aload_n (q := 1) rfl dX13_odds_0 rfl rfl ?_
  refine V.iconst (q := 2) (v := 0) (by decide) dX13_odds_1 rfl ?_
  obtain ⟨h1, eh1, hf⟩ := bd_ex hf
  refine V.putI (q := 5) (fpX13_48 rfl) rfl eh1 dX13_odds_2 rfl ?_
  refine V.aload_n (q := 6) rfl dX13_odds_5 rfl rfl ?_
  refine V.iload_n (q := 7) rfl dX13_odds_6 rfl rfl ?_
  obtain ⟨_, e1, hf⟩ := bd_ex hf
  obtain ⟨v2, h2, eh2, hf⟩ := bd2_ex hf
  refine V.callV (q := 10) (ci := 13) (vs := [.int x1]) (st := []) (S2 := [.int v2]) okX13_isStamp imX13_isStamp seX13_isStamp rfl lkX13_358 (tX13_isStamp eh2) rfl (ck_is e1) (by decide) rfl (Nat.le_of_ble_eq_true rfl) (Nat.le_of_ble_eq_true rfl) rfl dX13_odds_7 rfl rfl ?_
  refine V.if_eq (q := 13) (tgt := 30) dX13_odds_10 rfl (by decide) (fun c => ?_) (fun c => ?_)
  · rw [if_pos c] at hf
    refine V.aload_n (q := 31) rfl dX13_odds_30 rfl rfl ?_
    refine V.iconst (q := 32) (v := 1) (by decide) dX13_odds_31 rfl ?_
    obtain ⟨_, e3, hf⟩ := bd_ex hf
    obtain ⟨v4, h3, eh3, hf⟩ := bd2_ex hf
    refine V.callV (q := 35) (ci := 13) (vs := [.int 1]) (st := []) (S2 := [.int v4]) okX13_refused imX13_refused seX13_refused rfl lkX13_54 (tX13_refused eh3) rfl (ck_is e3) (by decide) rfl (Nat.le_of_ble_eq_true rfl) (Nat.le_of_ble_eq_true rfl) rfl dX13_odds_32 rfl rfl ?_
    refine V.i2l (q := 36) dX13_odds_35 rfl ?_
    obtain ⟨rfl, rfl⟩ := ret_inj hf
    exact V.ret (r := some (.long (Int32.toInt64 v4))) trivial dX13_odds_36
  · rw [if_neg c] at hf
    refine V.aload_n (q := 14) rfl dX13_odds_13 rfl rfl ?_
    refine V.aload_n (q := 15) rfl dX13_odds_14 rfl rfl ?_
    refine V.iload_n (q := 16) rfl dX13_odds_15 rfl rfl ?_
    obtain ⟨_, e3, hf⟩ := bd_ex hf
    obtain ⟨w4, h3, eh3, hf⟩ := bd2_ex hf
    refine V.callV (q := 19) (ci := 13) (vs := [.int x1]) (st := [.ref a0]) (S2 := [.long w4, .ref a0]) okX13_fitsPrints imX13_fitsPrints seX13_fitsPrints rfl lkX13_410 (tX13_fitsPrints eh3) rfl (ck_is e3) (by decide) rfl (Nat.le_of_ble_eq_true rfl) (Nat.le_of_ble_eq_true rfl) rfl dX13_odds_16 rfl rfl ?_
    refine V.aload_n (q := 20) rfl dX13_odds_19 rfl rfl ?_
    obtain ⟨_, e5, hf⟩ := bd_ex hf
    obtain ⟨w6, h4, eh4, hf⟩ := bd2_ex hf
    refine V.callV (q := 23) (ci := 13) (vs := []) (st := [.long w4, .ref a0]) (S2 := [.long w6, .long w4, .ref a0]) okX13_fitAll imX13_fitAll seX13_fitAll rfl lkX13_414 (tX13_fitAll eh4) rfl (ck_is e5) (by decide) rfl (Nat.le_of_ble_eq_true rfl) (Nat.le_of_ble_eq_true rfl) rfl dX13_odds_20 rfl rfl ?_
    refine V.iload_n (q := 24) rfl dX13_odds_23 rfl rfl ?_
    obtain ⟨_, e7, hf⟩ := bd_ex hf
    obtain ⟨w8, h5, eh5, hf⟩ := bd2_ex hf
    refine V.callV (q := 27) (ci := 13) (vs := [.long w4, .long w6, .int x2]) (st := []) (S2 := [.long w8]) okX13_fraction imX13_fraction seX13_fraction rfl lkX13_417 (tX13_fraction eh5) rfl (ck_is e7) (by decide) rfl (Nat.le_of_ble_eq_true rfl) (Nat.le_of_ble_eq_true rfl) rfl dX13_odds_24 rfl rfl ?_
    refine V.goto (q := 36) dX13_odds_27 (by decide) ?_
    obtain ⟨rfl, rfl⟩ := ret_inj hf
    exact V.ret (r := some (.long w8)) trivial dX13_odds_36
def bX13_readFresh_12  (h : MH) (a0 : Nat) : Option (Int64 × MH) := bd (gR h a0 13 4) fun b1 => bd (gJ h a0 13 14) fun w2 => bd (ck h b1 12) fun _ => bd2 (fX12_find h b1 w2) fun v4 h1 => if v4 = (-1) then (bd (gJ h1 a0 13 14) fun w5 => bd (ck h1 a0 13) fun _ => bd (fX13_goesOn h1 a0 ) fun h2 => some (w5, h2)) else (bd (ck h1 a0 13) fun _ => bd (fX13_flaw h1 a0 3) fun h2 => bd (gJ h2 a0 13 14) fun w6 => bd (ck h2 a0 13) fun _ => bd (fX13_goesOn h2 a0 ) fun h3 => some (w6, h3))
set_option maxRecDepth 20000 in
theorem tX13_readFresh_12 {r : Int64} {h' : MH}   {h : MH} {a0 : Nat} (hf : bX13_readFresh_12  h a0 = some (r, h')) : V TT mX13_readFresh 7 (some (.long r)) h' h 12 [.ref a0, Jk, Jk] [] := by
  unfold bX13_readFresh_12 at hf
  refine V.aload_n (q := 13) rfl dX13_readFresh_12 rfl rfl ?_
  obtain ⟨b1, eb1, hf⟩ := bd_ex hf
  refine V.getR (q := 16) flX13_157 rfl eb1 dX13_readFresh_13 rfl ?_
  refine V.aload_n (q := 17) rfl dX13_readFresh_16 rfl rfl ?_
  obtain ⟨w2, ew2, hf⟩ := bd_ex hf
  refine V.getJ (q := 20) flX13_96 rfl ew2 dX13_readFresh_17 rfl ?_
  obtain ⟨_, e3, hf⟩ := bd_ex hf
  obtain ⟨v4, h1, eh1, hf⟩ := bd2_ex hf
  refine V.callV (q := 23) (ci := 12) (vs := [.long w2]) (st := []) (S2 := [.int v4]) okX12_find imX12_find seX12_find rfl lkX13_170 (tX12_find eh1) rfl (ck_is e3) (by decide) rfl (Nat.le_of_ble_eq_true rfl) (Nat.le_of_ble_eq_true rfl) rfl dX13_readFresh_20 rfl rfl ?_
  refine V.iconst (q := 24) (v := (-1)) (by decide) dX13_readFresh_23 rfl ?_
  refine V.icmp_eq (q := 27) (tgt := 32) dX13_readFresh_24 rfl (by decide) (fun c => ?_) (fun c => ?_)
  · rw [if_pos c] at hf
    refine V.aload_n (q := 33) rfl dX13_readFresh_32 rfl rfl ?_
    obtain ⟨w5, ew5, hf⟩ := bd_ex hf
    refine V.getJ (q := 36) flX13_96 rfl ew5 dX13_readFresh_33 rfl ?_
    refine V.lstore_n (q := 37) (L' := [.ref a0, .long w5, Jk]) rfl dX13_readFresh_36 rfl (by decide) rfl rfl ?_
    refine V.aload_n (q := 38) rfl dX13_readFresh_37 rfl rfl ?_
    obtain ⟨_, e6, hf⟩ := bd_ex hf
    obtain ⟨h2, eh2, hf⟩ := bd_ex hf
    refine V.callV (q := 41) (ci := 13) (vs := []) (st := []) (S2 := []) okX13_goesOn imX13_goesOn seX13_goesOn rfl lkX13_116 (tX13_goesOn eh2) rfl (ck_is e6) (by decide) rfl (Nat.le_of_ble_eq_true rfl) (Nat.le_of_ble_eq_true rfl) rfl dX13_readFresh_38 rfl rfl ?_
    refine V.lload_n (q := 42) rfl dX13_readFresh_41 rfl rfl ?_
    obtain ⟨rfl, rfl⟩ := ret_inj hf
    exact V.ret (r := some (.long w5)) trivial dX13_readFresh_42
  · rw [if_neg c] at hf
    refine V.aload_n (q := 28) rfl dX13_readFresh_27 rfl rfl ?_
    refine V.iconst (q := 29) (v := 3) (by decide) dX13_readFresh_28 rfl ?_
    obtain ⟨_, e5, hf⟩ := bd_ex hf
    obtain ⟨h2, eh2, hf⟩ := bd_ex hf
    refine V.callV (q := 32) (ci := 13) (vs := [.int 3]) (st := []) (S2 := []) okX13_flaw imX13_flaw seX13_flaw rfl lkX13_123 (tX13_flaw eh2) rfl (ck_is e5) (by decide) rfl (Nat.le_of_ble_eq_true rfl) (Nat.le_of_ble_eq_true rfl) rfl dX13_readFresh_29 rfl rfl ?_
    refine V.aload_n (q := 33) rfl dX13_readFresh_32 rfl rfl ?_
    obtain ⟨w6, ew6, hf⟩ := bd_ex hf
    refine V.getJ (q := 36) flX13_96 rfl ew6 dX13_readFresh_33 rfl ?_
    refine V.lstore_n (q := 37) (L' := [.ref a0, .long w6, Jk]) rfl dX13_readFresh_36 rfl (by decide) rfl rfl ?_
    refine V.aload_n (q := 38) rfl dX13_readFresh_37 rfl rfl ?_
    obtain ⟨_, e7, hf⟩ := bd_ex hf
    obtain ⟨h3, eh3, hf⟩ := bd_ex hf
    refine V.callV (q := 41) (ci := 13) (vs := []) (st := []) (S2 := []) okX13_goesOn imX13_goesOn seX13_goesOn rfl lkX13_116 (tX13_goesOn eh3) rfl (ck_is e7) (by decide) rfl (Nat.le_of_ble_eq_true rfl) (Nat.le_of_ble_eq_true rfl) rfl dX13_readFresh_38 rfl rfl ?_
    refine V.lload_n (q := 42) rfl dX13_readFresh_41 rfl rfl ?_
    obtain ⟨rfl, rfl⟩ := ret_inj hf
    exact V.ret (r := some (.long w6)) trivial dX13_readFresh_42
def fX13_readFresh (h : MH) (a0 : Nat) : Option (Int64 × MH) := bd (ck h a0 13) fun _ => bd2 (fX13_isName h a0 ) fun v2 h1 => if v2 = 0 then (bd (ck h1 a0 13) fun _ => bd (fX13_flaw h1 a0 1) fun h2 => bX13_readFresh_12 h2 a0) else (bX13_readFresh_12 h1 a0)
set_option maxRecDepth 20000 in
theorem tX13_readFresh {r : Int64} {h' : MH} {h : MH} {a0 : Nat} (hf : fX13_readFresh h a0 = some (r, h')) : VM mX13_readFresh 7 (some (.long r)) h' h [.ref a0] := by
  show V TT mX13_readFresh 7 _ h' h 0 [.ref a0, Jk, Jk] []
  unfold fX13_readFresh at hf
  refine V.aload_n (q := 1) rfl dX13_readFresh_0 rfl rfl ?_
  obtain ⟨_, e1, hf⟩ := bd_ex hf
  obtain ⟨v2, h1, eh1, hf⟩ := bd2_ex hf
  refine V.callV (q := 4) (ci := 13) (vs := []) (st := []) (S2 := [.int v2]) okX13_isName imX13_isName seX13_isName rfl lkX13_166 (tX13_isName eh1) rfl (ck_is e1) (by decide) rfl (Nat.le_of_ble_eq_true rfl) (Nat.le_of_ble_eq_true rfl) rfl dX13_readFresh_1 rfl rfl ?_
  refine V.if_ne (q := 7) (tgt := 12) dX13_readFresh_4 rfl (by decide) (fun c => ?_) (fun c => ?_)
  · rw [if_neg c] at hf
    exact tX13_readFresh_12  hf
  · rw [if_pos c] at hf
    refine V.aload_n (q := 8) rfl dX13_readFresh_7 rfl rfl ?_
    refine V.iconst (q := 9) (v := 1) (by decide) dX13_readFresh_8 rfl ?_
    obtain ⟨_, e3, hf⟩ := bd_ex hf
    obtain ⟨h2, eh2, hf⟩ := bd_ex hf
    refine V.callV (q := 12) (ci := 13) (vs := [.int 1]) (st := []) (S2 := []) okX13_flaw imX13_flaw seX13_flaw rfl lkX13_123 (tX13_flaw eh2) rfl (ck_is e3) (by decide) rfl (Nat.le_of_ble_eq_true rfl) (Nat.le_of_ble_eq_true rfl) rfl dX13_readFresh_9 rfl rfl ?_
    exact tX13_readFresh_12  hf
def bX13_readWhole_33  (h : MH) (a0 : Nat) (x1 : Int32) : Option (Int32 × MH) := bd (gI h a0 13 9) fun v1 => if v1 = 6 then (bd (ck h a0 13) fun _ => bd (fX13_goesOn h a0 ) fun h1 => some (x1, h1)) else (bd (gI h a0 13 11) fun v2 => bd (ck h a0 13) fun _ => bd (fX13_goesOn h a0 ) fun h1 => some (v2, h1))
set_option maxRecDepth 20000 in
theorem tX13_readWhole_33 {r : Int32} {h' : MH}   {h : MH} {a0 : Nat} {x1 : Int32} (hf : bX13_readWhole_33  h a0 x1 = some (r, h')) : V TT mX13_readWhole 2 (some (.int r)) h' h 33 [.ref a0, .int x1, Jk, Jk] [] := by
  unfold bX13_readWhole_33 at hf
  refine V.aload_n (q := 34) rfl dX13_readWhole_33 rfl rfl ?_
  obtain ⟨v1, ev1, hf⟩ := bd_ex hf
  refine V.getI (q := 37) flX13_80 rfl ev1 dX13_readWhole_34 rfl ?_
  refine V.bipush (q := 39) (v := 6) (by decide) dX13_readWhole_37 rfl ?_
  refine V.icmp_ne (q := 42) (tgt := 46) dX13_readWhole_39 rfl (by decide) (fun c => ?_) (fun c => ?_)
  · rw [if_neg c] at hf
    refine V.aload_n (q := 47) rfl dX13_readWhole_46 rfl rfl ?_
    obtain ⟨v2, ev2, hf⟩ := bd_ex hf
    refine V.getI (q := 50) flX13_103 rfl ev2 dX13_readWhole_47 rfl ?_
    refine V.istore_n (q := 51) (L' := [.ref a0, .int x1, Jk, .int v2]) rfl dX13_readWhole_50 rfl (by decide) rfl rfl ?_
    refine V.aload_n (q := 52) rfl dX13_readWhole_51 rfl rfl ?_
    obtain ⟨_, e3, hf⟩ := bd_ex hf
    obtain ⟨h1, eh1, hf⟩ := bd_ex hf
    refine V.callV (q := 55) (ci := 13) (vs := []) (st := []) (S2 := []) okX13_goesOn imX13_goesOn seX13_goesOn rfl lkX13_116 (tX13_goesOn eh1) rfl (ck_is e3) (by decide) rfl (Nat.le_of_ble_eq_true rfl) (Nat.le_of_ble_eq_true rfl) rfl dX13_readWhole_52 rfl rfl ?_
    refine V.iload_n (q := 56) rfl dX13_readWhole_55 rfl rfl ?_
    obtain ⟨rfl, rfl⟩ := ret_inj hf
    exact V.ret (r := some (.int v2)) trivial dX13_readWhole_56
  · rw [if_pos c] at hf
    refine V.iload_n (q := 43) rfl dX13_readWhole_42 rfl rfl ?_
    refine V.goto (q := 50) dX13_readWhole_43 (by decide) ?_
    refine V.istore_n (q := 51) (L' := [.ref a0, .int x1, Jk, .int x1]) rfl dX13_readWhole_50 rfl (by decide) rfl rfl ?_
    refine V.aload_n (q := 52) rfl dX13_readWhole_51 rfl rfl ?_
    obtain ⟨_, e2, hf⟩ := bd_ex hf
    obtain ⟨h1, eh1, hf⟩ := bd_ex hf
    refine V.callV (q := 55) (ci := 13) (vs := []) (st := []) (S2 := []) okX13_goesOn imX13_goesOn seX13_goesOn rfl lkX13_116 (tX13_goesOn eh1) rfl (ck_is e2) (by decide) rfl (Nat.le_of_ble_eq_true rfl) (Nat.le_of_ble_eq_true rfl) rfl dX13_readWhole_52 rfl rfl ?_
    refine V.iload_n (q := 56) rfl dX13_readWhole_55 rfl rfl ?_
    obtain ⟨rfl, rfl⟩ := ret_inj hf
    exact V.ret (r := some (.int x1)) trivial dX13_readWhole_56
def fX13_readWhole (h : MH) (a0 : Nat) (x1 : Int32) (x2 : Int32) : Option (Int32 × MH) := bd (gI h a0 13 9) fun v1 => if v1 = 3 then (bd (gI h a0 13 11) fun v2 => bd2 (fX13_in h v2 x1 x2) fun v3 h1 => if v3 = 0 then (bd (ck h1 a0 13) fun _ => bd (fX13_flaw h1 a0 4) fun h2 => bX13_readWhole_33 h2 a0 x1) else (bX13_readWhole_33 h1 a0 x1)) else (bd (ck h a0 13) fun _ => bd (fX13_flaw h a0 1) fun h1 => bX13_readWhole_33 h1 a0 x1)
set_option maxRecDepth 20000 in
theorem tX13_readWhole {r : Int32} {h' : MH} {h : MH} {a0 : Nat} {x1 : Int32} {x2 : Int32} (hf : fX13_readWhole h a0 x1 x2 = some (r, h')) : VM mX13_readWhole 2 (some (.int r)) h' h [.ref a0, .int x1, .int x2] := by
  show V TT mX13_readWhole 2 _ h' h 0 [.ref a0, .int x1, .int x2, Jk] []
  unfold fX13_readWhole at hf
  refine V.aload_n (q := 1) rfl dX13_readWhole_0 rfl rfl ?_
  obtain ⟨v1, ev1, hf⟩ := bd_ex hf
  refine V.getI (q := 4) flX13_80 rfl ev1 dX13_readWhole_1 rfl ?_
  refine V.iconst (q := 5) (v := 3) (by decide) dX13_readWhole_4 rfl ?_
  refine V.icmp_eq (q := 8) (tgt := 16) dX13_readWhole_5 rfl (by decide) (fun c => ?_) (fun c => ?_)
  · rw [if_pos c] at hf
    refine V.aload_n (q := 17) rfl dX13_readWhole_16 rfl rfl ?_
    obtain ⟨v2, ev2, hf⟩ := bd_ex hf
    refine V.getI (q := 20) flX13_103 rfl ev2 dX13_readWhole_17 rfl ?_
    refine V.iload_n (q := 21) rfl dX13_readWhole_20 rfl rfl ?_
    refine V.iload_n (q := 22) rfl dX13_readWhole_21 rfl rfl ?_
    obtain ⟨v3, h1, eh1, hf⟩ := bd2_ex hf
    refine V.callS (q := 25) (vs := [.int v2, .int x1, .int x2]) (st := []) (S2 := [.int v3]) okX13_in stX13_in lkX13_127 (tX13_in eh1) rfl (by decide) rfl (Nat.le_of_ble_eq_true rfl) (Nat.le_of_ble_eq_true rfl) rfl dX13_readWhole_22 rfl rfl ?_
    refine V.if_ne (q := 28) (tgt := 33) dX13_readWhole_25 rfl (by decide) (fun c => ?_) (fun c => ?_)
    · rw [if_neg c] at hf
      refine V.forget (L' := [.ref a0, .int x1, Jk, Jk]) ⟨Or.inr rfl, Or.inr rfl, Or.inl rfl, Or.inl rfl, trivial⟩ ?_
      exact tX13_readWhole_33  hf
    · rw [if_pos c] at hf
      refine V.aload_n (q := 29) rfl dX13_readWhole_28 rfl rfl ?_
      refine V.iconst (q := 30) (v := 4) (by decide) dX13_readWhole_29 rfl ?_
      obtain ⟨_, e4, hf⟩ := bd_ex hf
      obtain ⟨h2, eh2, hf⟩ := bd_ex hf
      refine V.callV (q := 33) (ci := 13) (vs := [.int 4]) (st := []) (S2 := []) okX13_flaw imX13_flaw seX13_flaw rfl lkX13_123 (tX13_flaw eh2) rfl (ck_is e4) (by decide) rfl (Nat.le_of_ble_eq_true rfl) (Nat.le_of_ble_eq_true rfl) rfl dX13_readWhole_30 rfl rfl ?_
      refine V.forget (L' := [.ref a0, .int x1, Jk, Jk]) ⟨Or.inr rfl, Or.inr rfl, Or.inl rfl, Or.inl rfl, trivial⟩ ?_
      exact tX13_readWhole_33  hf
  · rw [if_neg c] at hf
    refine V.aload_n (q := 9) rfl dX13_readWhole_8 rfl rfl ?_
    refine V.iconst (q := 10) (v := 1) (by decide) dX13_readWhole_9 rfl ?_
    obtain ⟨_, e2, hf⟩ := bd_ex hf
    obtain ⟨h1, eh1, hf⟩ := bd_ex hf
    refine V.callV (q := 13) (ci := 13) (vs := [.int 1]) (st := []) (S2 := []) okX13_flaw imX13_flaw seX13_flaw rfl lkX13_123 (tX13_flaw eh1) rfl (ck_is e2) (by decide) rfl (Nat.le_of_ble_eq_true rfl) (Nat.le_of_ble_eq_true rfl) rfl dX13_readWhole_10 rfl rfl ?_
    refine V.goto (q := 33) dX13_readWhole_13 (by decide) ?_
    refine V.forget (L' := [.ref a0, .int x1, Jk, Jk]) ⟨Or.inr rfl, Or.inr rfl, Or.inl rfl, Or.inl rfl, trivial⟩ ?_
    exact tX13_readWhole_33  hf
def fX13_readPart (h : MH) (a0 : Nat) (t1 : Nat) (x2 : Int32) (x3 : Int32) : Option (Int32 × MH) := bd (tkc t1) fun _ => bd (ck h a0 13) fun _ => bd (fX13_needs h a0 t1) fun h1 => bd (ck h1 a0 13) fun _ => bd2 (fX13_readWhole h1 a0 x2 x3) fun v3 h2 => some (v3, h2)
set_option maxRecDepth 20000 in
theorem tX13_readPart {r : Int32} {h' : MH} {h : MH} {a0 : Nat} {t1 : Nat} {x2 : Int32} {x3 : Int32} (hf : fX13_readPart h a0 t1 x2 x3 = some (r, h')) : VM mX13_readPart 7 (some (.int r)) h' h [.ref a0, .retAddr t1, .int x2, .int x3] := by
  show V TT mX13_readPart 7 _ h' h 0 [.ref a0, .retAddr t1, .int x2, .int x3] []
  unfold fX13_readPart at hf
  obtain ⟨_, et_t1, hf⟩ := bd_ex hf
  have ht_t1 := tkc_is et_t1
  refine V.aload_n (q := 1) rfl dX13_readPart_0 rfl rfl ?_
  refine V.aloadT_n (q := 2) rfl (tk_ne ht_t1) (tk_ad ht_t1) dX13_readPart_1 rfl rfl ?_
  obtain ⟨_, e1, hf⟩ := bd_ex hf
  obtain ⟨h1, eh1, hf⟩ := bd_ex hf
  refine V.callV (q := 5) (ci := 13) (vs := [.retAddr t1]) (st := []) (S2 := []) okX13_needs imX13_needs seX13_needs rfl lkX13_131 (tX13_needs eh1) rfl (ck_is e1) (by decide) rfl (Nat.le_of_ble_eq_true rfl) (Nat.le_of_ble_eq_true rfl) rfl dX13_readPart_2 rfl rfl ?_
  refine V.aload_n (q := 6) rfl dX13_readPart_5 rfl rfl ?_
  refine V.iload_n (q := 7) rfl dX13_readPart_6 rfl rfl ?_
  refine V.iload_n (q := 8) rfl dX13_readPart_7 rfl rfl ?_
  obtain ⟨_, e2, hf⟩ := bd_ex hf
  obtain ⟨v3, h2, eh2, hf⟩ := bd2_ex hf
  refine V.callV (q := 11) (ci := 13) (vs := [.int x2, .int x3]) (st := []) (S2 := [.int v3]) okX13_readWhole imX13_readWhole seX13_readWhole rfl lkX13_135 (tX13_readWhole eh2) rfl (ck_is e2) (by decide) rfl (Nat.le_of_ble_eq_true rfl) (Nat.le_of_ble_eq_true rfl) rfl dX13_readPart_8 rfl rfl ?_
  obtain ⟨rfl, rfl⟩ := ret_inj hf
  exact V.ret (r := some (.int v3)) trivial dX13_readPart_11
def bX13_readHand_85  (h : MH) (a0 : Nat) (y1 : Int64) (x3 : Int32) : Option (MH) := bd (ck h a0 13) fun _ => bd (fX13_goesOn h a0 ) fun h1 => bd (ck h1 a0 13) fun _ => bd2 (fX13_readPart h1 a0 25 0 100) fun v3 h2 => bd (gI h2 a0 13 9) fun v4 => if v4 = 6 then (some h2) else (bd (gR h2 a0 13 4) fun b5 => bd (gI h2 b5 12 5) fun v6 => bd (ck h2 a0 13) fun _ => bd (fX13_names h2 a0 y1 3 v6) fun h3 => bd (gR h3 a0 13 4) fun b8 => bd (gR h3 b8 12 19) fun b9 => bd (gR h3 a0 13 4) fun b10 => bd (gI h3 b10 12 5) fun v11 => bd (tI h3 b9 v11 x3) fun h4 => bd (gR h4 a0 13 4) fun b12 => bd (gR h4 b12 12 20) fun b13 => bd (gR h4 a0 13 4) fun b14 => bd (gI h4 b14 12 5) fun v15 => bd (tI h4 b13 v15 v3) fun h5 => bd (gR h5 a0 13 4) fun b16 => bd (gI h5 b16 12 5) fun v17 => bd (pI h5 b16 12 5 (v17 + 1)) fun h6 => some h6)
set_option maxRecDepth 20000 in
theorem tX13_readHand_85 {h' : MH}   {h : MH} {a0 : Nat} {y1 : Int64} {x3 : Int32} (hf : bX13_readHand_85  h a0 y1 x3 = some h') : V TT mX13_readHand 8 none h' h 85 [.ref a0, .long y1, Jk, .int x3, Jk] [] := by
  unfold bX13_readHand_85 at hf
  refine V.aload_n (q := 86) rfl dX13_readHand_85 rfl rfl ?_
  obtain ⟨_, e1, hf⟩ := bd_ex hf
  obtain ⟨h1, eh1, hf⟩ := bd_ex hf
  refine V.callV (q := 89) (ci := 13) (vs := []) (st := []) (S2 := []) okX13_goesOn imX13_goesOn seX13_goesOn rfl lkX13_116 (tX13_goesOn eh1) rfl (ck_is e1) (by decide) rfl (Nat.le_of_ble_eq_true rfl) (Nat.le_of_ble_eq_true rfl) rfl dX13_readHand_86 rfl rfl ?_
  refine V.aload_n (q := 90) rfl dX13_readHand_89 rfl rfl ?_
  refine V.ldcSw (q := 93) (i := 25) rfl dX13_readHand_90 rfl ?_
  refine V.iconst (q := 94) (v := 0) (by decide) dX13_readHand_93 rfl ?_
  refine V.bipush (q := 96) (v := 100) (by decide) dX13_readHand_94 rfl ?_
  obtain ⟨_, e2, hf⟩ := bd_ex hf
  obtain ⟨v3, h2, eh2, hf⟩ := bd2_ex hf
  refine V.callV (q := 99) (ci := 13) (vs := [.retAddr 25, .int 0, .int 100]) (st := []) (S2 := [.int v3]) okX13_readPart imX13_readPart seX13_readPart rfl lkX13_234 (tX13_readPart eh2) rfl (ck_is e2) (by decide) rfl (Nat.le_of_ble_eq_true rfl) (Nat.le_of_ble_eq_true rfl) rfl dX13_readHand_96 rfl rfl ?_
  refine V.istore (q := 101) (L' := [.ref a0, .long y1, Jk, .int x3, .int v3]) dX13_readHand_99 rfl (by decide) rfl rfl ?_
  refine V.aload_n (q := 102) rfl dX13_readHand_101 rfl rfl ?_
  obtain ⟨v4, ev4, hf⟩ := bd_ex hf
  refine V.getI (q := 105) flX13_80 rfl ev4 dX13_readHand_102 rfl ?_
  refine V.bipush (q := 107) (v := 6) (by decide) dX13_readHand_105 rfl ?_
  refine V.icmp_ne (q := 110) (tgt := 111) dX13_readHand_107 rfl (by decide) (fun c => ?_) (fun c => ?_)
  · rw [if_neg c] at hf
    refine V.aload_n (q := 112) rfl dX13_readHand_111 rfl rfl ?_
    refine V.lload_n (q := 113) rfl dX13_readHand_112 rfl rfl ?_
    refine V.iconst (q := 114) (v := 3) (by decide) dX13_readHand_113 rfl ?_
    refine V.aload_n (q := 115) rfl dX13_readHand_114 rfl rfl ?_
    obtain ⟨b5, eb5, hf⟩ := bd_ex hf
    refine V.getR (q := 118) flX13_157 rfl eb5 dX13_readHand_115 rfl ?_
    obtain ⟨v6, ev6, hf⟩ := bd_ex hf
    refine V.getI (q := 121) flX13_298 rfl ev6 dX13_readHand_118 rfl ?_
    obtain ⟨_, e7, hf⟩ := bd_ex hf
    obtain ⟨h3, eh3, hf⟩ := bd_ex hf
    refine V.callV (q := 124) (ci := 13) (vs := [.long y1, .int 3, .int v6]) (st := []) (S2 := []) okX13_names imX13_names seX13_names rfl lkX13_249 (tX13_names eh3) rfl (ck_is e7) (by decide) rfl (Nat.le_of_ble_eq_true rfl) (Nat.le_of_ble_eq_true rfl) rfl dX13_readHand_121 rfl rfl ?_
    refine V.aload_n (q := 125) rfl dX13_readHand_124 rfl rfl ?_
    obtain ⟨b8, eb8, hf⟩ := bd_ex hf
    refine V.getR (q := 128) flX13_157 rfl eb8 dX13_readHand_125 rfl ?_
    obtain ⟨b9, eb9, hf⟩ := bd_ex hf
    refine V.getR (q := 131) flX13_311 rfl eb9 dX13_readHand_128 rfl ?_
    refine V.aload_n (q := 132) rfl dX13_readHand_131 rfl rfl ?_
    obtain ⟨b10, eb10, hf⟩ := bd_ex hf
    refine V.getR (q := 135) flX13_157 rfl eb10 dX13_readHand_132 rfl ?_
    obtain ⟨v11, ev11, hf⟩ := bd_ex hf
    refine V.getI (q := 138) flX13_298 rfl ev11 dX13_readHand_135 rfl ?_
    refine V.iload_n (q := 139) rfl dX13_readHand_138 rfl rfl ?_
    obtain ⟨h4, eh4, hf⟩ := bd_ex hf
    refine V.iast (q := 140) eh4 dX13_readHand_139 rfl ?_
    refine V.aload_n (q := 141) rfl dX13_readHand_140 rfl rfl ?_
    obtain ⟨b12, eb12, hf⟩ := bd_ex hf
    refine V.getR (q := 144) flX13_157 rfl eb12 dX13_readHand_141 rfl ?_
    obtain ⟨b13, eb13, hf⟩ := bd_ex hf
    refine V.getR (q := 147) flX13_313 rfl eb13 dX13_readHand_144 rfl ?_
    refine V.aload_n (q := 148) rfl dX13_readHand_147 rfl rfl ?_
    obtain ⟨b14, eb14, hf⟩ := bd_ex hf
    refine V.getR (q := 151) flX13_157 rfl eb14 dX13_readHand_148 rfl ?_
    obtain ⟨v15, ev15, hf⟩ := bd_ex hf
    refine V.getI (q := 154) flX13_298 rfl ev15 dX13_readHand_151 rfl ?_
    refine V.iload (q := 156) dX13_readHand_154 rfl rfl ?_
    obtain ⟨h5, eh5, hf⟩ := bd_ex hf
    refine V.iast (q := 157) eh5 dX13_readHand_156 rfl ?_
    refine V.aload_n (q := 158) rfl dX13_readHand_157 rfl rfl ?_
    obtain ⟨b16, eb16, hf⟩ := bd_ex hf
    refine V.getR (q := 161) flX13_157 rfl eb16 dX13_readHand_158 rfl ?_
    refine V.dupR (q := 162) dX13_readHand_161 rfl ?_
    obtain ⟨v17, ev17, hf⟩ := bd_ex hf
    refine V.getI (q := 165) flX13_298 rfl ev17 dX13_readHand_162 rfl ?_
    refine V.iconst (q := 166) (v := 1) (by decide) dX13_readHand_165 rfl ?_
    refine V.iadd (q := 167) dX13_readHand_166 rfl ?_
    obtain ⟨h6, eh6, hf⟩ := bd_ex hf
    refine V.putI (q := 170) (fpX13_298 rfl) rfl eh6 dX13_readHand_167 rfl ?_
    cases hf
    exact V.ret (r := none) trivial dX13_readHand_170
  · rw [if_pos c] at hf
    cases hf
    exact V.ret (r := none) trivial dX13_readHand_110
def bX13_readHand_74  (h : MH) (a0 : Nat) (y1 : Int64) (xs0 : Int32) : Option (MH) := if xs0 = (-1) then (bd (ck h a0 13) fun _ => bd (fX13_flaw h a0 1) fun h1 => bX13_readHand_85 h1 a0 y1 xs0) else (bX13_readHand_85 h a0 y1 xs0)
set_option maxRecDepth 20000 in
theorem tX13_readHand_74 {h' : MH}   {h : MH} {a0 : Nat} {y1 : Int64} {xs0 : Int32} (hf : bX13_readHand_74  h a0 y1 xs0 = some h') : V TT mX13_readHand 8 none h' h 74 [.ref a0, .long y1, Jk, Jk, Jk] [.int xs0] := by
  unfold bX13_readHand_74 at hf
  refine V.istore_n (q := 75) (L' := [.ref a0, .long y1, Jk, .int xs0, Jk]) rfl dX13_readHand_74 rfl (by decide) rfl rfl ?_
  refine V.iload_n (q := 76) rfl dX13_readHand_75 rfl rfl ?_
  refine V.iconst (q := 77) (v := (-1)) (by decide) dX13_readHand_76 rfl ?_
  refine V.icmp_ne (q := 80) (tgt := 85) dX13_readHand_77 rfl (by decide) (fun c => ?_) (fun c => ?_)
  · rw [if_neg c] at hf
    exact tX13_readHand_85  hf
  · rw [if_pos c] at hf
    refine V.aload_n (q := 81) rfl dX13_readHand_80 rfl rfl ?_
    refine V.iconst (q := 82) (v := 1) (by decide) dX13_readHand_81 rfl ?_
    obtain ⟨_, e1, hf⟩ := bd_ex hf
    obtain ⟨h1, eh1, hf⟩ := bd_ex hf
    refine V.callV (q := 85) (ci := 13) (vs := [.int 1]) (st := []) (S2 := []) okX13_flaw imX13_flaw seX13_flaw rfl lkX13_123 (tX13_flaw eh1) rfl (ck_is e1) (by decide) rfl (Nat.le_of_ble_eq_true rfl) (Nat.le_of_ble_eq_true rfl) rfl dX13_readHand_82 rfl rfl ?_
    exact tX13_readHand_85  hf
def fX13_readHand (h : MH) (a0 : Nat) : Option (MH) := bd (gR h a0 13 4) fun b1 => bd (gI h b1 12 5) fun v2 => bd (ck h a0 13) fun _ => bd (fX13_lineBegins h a0 v2 3) fun h1 => bd (ck h1 a0 13) fun _ => bd2 (fX13_readFresh h1 a0 ) fun w5 h2 => bd (ck h2 a0 13) fun _ => bd2 (fX13_isWord h2 a0 21) fun v7 h3 => if v7 = 0 then (bd (ck h3 a0 13) fun _ => bd2 (fX13_isWord h3 a0 22) fun v9 h4 => if v9 = 0 then (bd (ck h4 a0 13) fun _ => bd2 (fX13_isWord h4 a0 23) fun v11 h5 => if v11 = 0 then (bd (ck h5 a0 13) fun _ => bd2 (fX13_isWord h5 a0 24) fun v13 h6 => if v13 = 0 then (bX13_readHand_74 h6 a0 w5 (-1)) else (bX13_readHand_74 h6 a0 w5 3)) else (bX13_readHand_74 h5 a0 w5 2)) else (bX13_readHand_74 h4 a0 w5 1)) else (bX13_readHand_74 h3 a0 w5 0)
set_option maxRecDepth 20000 in
theorem tX13_readHand {h' : MH} {h : MH} {a0 : Nat} (hf : fX13_readHand h a0 = some h') : VM mX13_readHand 8 none h' h [.ref a0] := by
  show V TT mX13_readHand 8 _ h' h 0 [.ref a0, Jk, Jk, Jk, Jk] []
  unfold fX13_readHand at hf
  refine V.aload_n (q := 1) rfl dX13_readHand_0 rfl rfl ?_
  refine V.aload_n (q := 2) rfl dX13_readHand_1 rfl rfl ?_
  obtain ⟨b1, eb1, hf⟩ := bd_ex hf
  refine V.getR (q := 5) flX13_157 rfl eb1 dX13_readHand_2 rfl ?_
  obtain ⟨v2, ev2, hf⟩ := bd_ex hf
  refine V.getI (q := 8) flX13_298 rfl ev2 dX13_readHand_5 rfl ?_
  refine V.iconst (q := 9) (v := 3) (by decide) dX13_readHand_8 rfl ?_
  obtain ⟨_, e3, hf⟩ := bd_ex hf
  obtain ⟨h1, eh1, hf⟩ := bd_ex hf
  refine V.callV (q := 12) (ci := 13) (vs := [.int v2, .int 3]) (st := []) (S2 := []) okX13_lineBegins imX13_lineBegins seX13_lineBegins rfl lkX13_241 (tX13_lineBegins eh1) rfl (ck_is e3) (by decide) rfl (Nat.le_of_ble_eq_true rfl) (Nat.le_of_ble_eq_true rfl) rfl dX13_readHand_9 rfl rfl ?_
  refine V.aload_n (q := 13) rfl dX13_readHand_12 rfl rfl ?_
  obtain ⟨_, e4, hf⟩ := bd_ex hf
  obtain ⟨w5, h2, eh2, hf⟩ := bd2_ex hf
  refine V.callV (q := 16) (ci := 13) (vs := []) (st := []) (S2 := [.long w5]) okX13_readFresh imX13_readFresh seX13_readFresh rfl lkX13_245 (tX13_readFresh eh2) rfl (ck_is e4) (by decide) rfl (Nat.le_of_ble_eq_true rfl) (Nat.le_of_ble_eq_true rfl) rfl dX13_readHand_13 rfl rfl ?_
  refine V.lstore_n (q := 17) (L' := [.ref a0, .long w5, Jk, Jk, Jk]) rfl dX13_readHand_16 rfl (by decide) rfl rfl ?_
  refine V.aload_n (q := 18) rfl dX13_readHand_17 rfl rfl ?_
  refine V.ldcSw (q := 21) (i := 21) rfl dX13_readHand_18 rfl ?_
  obtain ⟨_, e6, hf⟩ := bd_ex hf
  obtain ⟨v7, h3, eh3, hf⟩ := bd2_ex hf
  refine V.callV (q := 24) (ci := 13) (vs := [.retAddr 21]) (st := []) (S2 := [.int v7]) okX13_isWord imX13_isWord seX13_isWord rfl lkX13_119 (tX13_isWord eh3) rfl (ck_is e6) (by decide) rfl (Nat.le_of_ble_eq_true rfl) (Nat.le_of_ble_eq_true rfl) rfl dX13_readHand_21 rfl rfl ?_
  refine V.if_eq (q := 27) (tgt := 31) dX13_readHand_24 rfl (by decide) (fun c => ?_) (fun c => ?_)
  · rw [if_pos c] at hf
    refine V.aload_n (q := 32) rfl dX13_readHand_31 rfl rfl ?_
    refine V.ldcSw (q := 35) (i := 22) rfl dX13_readHand_32 rfl ?_
    obtain ⟨_, e8, hf⟩ := bd_ex hf
    obtain ⟨v9, h4, eh4, hf⟩ := bd2_ex hf
    refine V.callV (q := 38) (ci := 13) (vs := [.retAddr 22]) (st := []) (S2 := [.int v9]) okX13_isWord imX13_isWord seX13_isWord rfl lkX13_119 (tX13_isWord eh4) rfl (ck_is e8) (by decide) rfl (Nat.le_of_ble_eq_true rfl) (Nat.le_of_ble_eq_true rfl) rfl dX13_readHand_35 rfl rfl ?_
    refine V.if_eq (q := 41) (tgt := 45) dX13_readHand_38 rfl (by decide) (fun c => ?_) (fun c => ?_)
    · rw [if_pos c] at hf
      refine V.aload_n (q := 46) rfl dX13_readHand_45 rfl rfl ?_
      refine V.ldcSw (q := 49) (i := 23) rfl dX13_readHand_46 rfl ?_
      obtain ⟨_, e10, hf⟩ := bd_ex hf
      obtain ⟨v11, h5, eh5, hf⟩ := bd2_ex hf
      refine V.callV (q := 52) (ci := 13) (vs := [.retAddr 23]) (st := []) (S2 := [.int v11]) okX13_isWord imX13_isWord seX13_isWord rfl lkX13_119 (tX13_isWord eh5) rfl (ck_is e10) (by decide) rfl (Nat.le_of_ble_eq_true rfl) (Nat.le_of_ble_eq_true rfl) rfl dX13_readHand_49 rfl rfl ?_
      refine V.if_eq (q := 55) (tgt := 59) dX13_readHand_52 rfl (by decide) (fun c => ?_) (fun c => ?_)
      · rw [if_pos c] at hf
        refine V.aload_n (q := 60) rfl dX13_readHand_59 rfl rfl ?_
        refine V.ldcSw (q := 63) (i := 24) rfl dX13_readHand_60 rfl ?_
        obtain ⟨_, e12, hf⟩ := bd_ex hf
        obtain ⟨v13, h6, eh6, hf⟩ := bd2_ex hf
        refine V.callV (q := 66) (ci := 13) (vs := [.retAddr 24]) (st := []) (S2 := [.int v13]) okX13_isWord imX13_isWord seX13_isWord rfl lkX13_119 (tX13_isWord eh6) rfl (ck_is e12) (by decide) rfl (Nat.le_of_ble_eq_true rfl) (Nat.le_of_ble_eq_true rfl) rfl dX13_readHand_63 rfl rfl ?_
        refine V.if_eq (q := 69) (tgt := 73) dX13_readHand_66 rfl (by decide) (fun c => ?_) (fun c => ?_)
        · rw [if_pos c] at hf
          refine V.iconst (q := 74) (v := (-1)) (by decide) dX13_readHand_73 rfl ?_
          exact tX13_readHand_74  hf
        · rw [if_neg c] at hf
          refine V.iconst (q := 70) (v := 3) (by decide) dX13_readHand_69 rfl ?_
          refine V.goto (q := 74) dX13_readHand_70 (by decide) ?_
          exact tX13_readHand_74  hf
      · rw [if_neg c] at hf
        refine V.iconst (q := 56) (v := 2) (by decide) dX13_readHand_55 rfl ?_
        refine V.goto (q := 74) dX13_readHand_56 (by decide) ?_
        exact tX13_readHand_74  hf
    · rw [if_neg c] at hf
      refine V.iconst (q := 42) (v := 1) (by decide) dX13_readHand_41 rfl ?_
      refine V.goto (q := 74) dX13_readHand_42 (by decide) ?_
      exact tX13_readHand_74  hf
  · rw [if_neg c] at hf
    refine V.iconst (q := 28) (v := 0) (by decide) dX13_readHand_27 rfl ?_
    refine V.goto (q := 74) dX13_readHand_28 (by decide) ?_
    exact tX13_readHand_74  hf
def fX13_readMark (h : MH) (a0 : Nat) : Option (MH) := bd (gR h a0 13 4) fun b1 => bd (gI h b1 12 1) fun v2 => bd (ck h a0 13) fun _ => bd (fX13_lineBegins h a0 v2 5) fun h1 => bd (ck h1 a0 13) fun _ => bd2 (fX13_readFresh h1 a0 ) fun w5 h2 => bd (gI h2 a0 13 9) fun v6 => if v6 = 6 then (some h2) else (bd (gR h2 a0 13 4) fun b7 => bd (gI h2 b7 12 1) fun v8 => bd (ck h2 a0 13) fun _ => bd (fX13_names h2 a0 w5 0 v8) fun h3 => bd (gR h3 a0 13 4) fun b10 => bd (gI h3 b10 12 1) fun v11 => bd (pI h3 b10 12 1 (v11 + 1)) fun h4 => some h4)
set_option maxRecDepth 20000 in
theorem tX13_readMark {h' : MH} {h : MH} {a0 : Nat} (hf : fX13_readMark h a0 = some h') : VM mX13_readMark 8 none h' h [.ref a0] := by
  show V TT mX13_readMark 8 _ h' h 0 [.ref a0, Jk, Jk] []
  unfold fX13_readMark at hf
  refine V.aload_n (q := 1) rfl dX13_readMark_0 rfl rfl ?_
  refine V.aload_n (q := 2) rfl dX13_readMark_1 rfl rfl ?_
  obtain ⟨b1, eb1, hf⟩ := bd_ex hf
  refine V.getR (q := 5) flX13_157 rfl eb1 dX13_readMark_2 rfl ?_
  obtain ⟨v2, ev2, hf⟩ := bd_ex hf
  refine V.getI (q := 8) flX13_238 rfl ev2 dX13_readMark_5 rfl ?_
  refine V.iconst (q := 9) (v := 5) (by decide) dX13_readMark_8 rfl ?_
  obtain ⟨_, e3, hf⟩ := bd_ex hf
  obtain ⟨h1, eh1, hf⟩ := bd_ex hf
  refine V.callV (q := 12) (ci := 13) (vs := [.int v2, .int 5]) (st := []) (S2 := []) okX13_lineBegins imX13_lineBegins seX13_lineBegins rfl lkX13_241 (tX13_lineBegins eh1) rfl (ck_is e3) (by decide) rfl (Nat.le_of_ble_eq_true rfl) (Nat.le_of_ble_eq_true rfl) rfl dX13_readMark_9 rfl rfl ?_
  refine V.aload_n (q := 13) rfl dX13_readMark_12 rfl rfl ?_
  obtain ⟨_, e4, hf⟩ := bd_ex hf
  obtain ⟨w5, h2, eh2, hf⟩ := bd2_ex hf
  refine V.callV (q := 16) (ci := 13) (vs := []) (st := []) (S2 := [.long w5]) okX13_readFresh imX13_readFresh seX13_readFresh rfl lkX13_245 (tX13_readFresh eh2) rfl (ck_is e4) (by decide) rfl (Nat.le_of_ble_eq_true rfl) (Nat.le_of_ble_eq_true rfl) rfl dX13_readMark_13 rfl rfl ?_
  refine V.lstore_n (q := 17) (L' := [.ref a0, .long w5, Jk]) rfl dX13_readMark_16 rfl (by decide) rfl rfl ?_
  refine V.aload_n (q := 18) rfl dX13_readMark_17 rfl rfl ?_
  obtain ⟨v6, ev6, hf⟩ := bd_ex hf
  refine V.getI (q := 21) flX13_80 rfl ev6 dX13_readMark_18 rfl ?_
  refine V.bipush (q := 23) (v := 6) (by decide) dX13_readMark_21 rfl ?_
  refine V.icmp_ne (q := 26) (tgt := 27) dX13_readMark_23 rfl (by decide) (fun c => ?_) (fun c => ?_)
  · rw [if_neg c] at hf
    refine V.aload_n (q := 28) rfl dX13_readMark_27 rfl rfl ?_
    refine V.lload_n (q := 29) rfl dX13_readMark_28 rfl rfl ?_
    refine V.iconst (q := 30) (v := 0) (by decide) dX13_readMark_29 rfl ?_
    refine V.aload_n (q := 31) rfl dX13_readMark_30 rfl rfl ?_
    obtain ⟨b7, eb7, hf⟩ := bd_ex hf
    refine V.getR (q := 34) flX13_157 rfl eb7 dX13_readMark_31 rfl ?_
    obtain ⟨v8, ev8, hf⟩ := bd_ex hf
    refine V.getI (q := 37) flX13_238 rfl ev8 dX13_readMark_34 rfl ?_
    obtain ⟨_, e9, hf⟩ := bd_ex hf
    obtain ⟨h3, eh3, hf⟩ := bd_ex hf
    refine V.callV (q := 40) (ci := 13) (vs := [.long w5, .int 0, .int v8]) (st := []) (S2 := []) okX13_names imX13_names seX13_names rfl lkX13_249 (tX13_names eh3) rfl (ck_is e9) (by decide) rfl (Nat.le_of_ble_eq_true rfl) (Nat.le_of_ble_eq_true rfl) rfl dX13_readMark_37 rfl rfl ?_
    refine V.aload_n (q := 41) rfl dX13_readMark_40 rfl rfl ?_
    obtain ⟨b10, eb10, hf⟩ := bd_ex hf
    refine V.getR (q := 44) flX13_157 rfl eb10 dX13_readMark_41 rfl ?_
    refine V.dupR (q := 45) dX13_readMark_44 rfl ?_
    obtain ⟨v11, ev11, hf⟩ := bd_ex hf
    refine V.getI (q := 48) flX13_238 rfl ev11 dX13_readMark_45 rfl ?_
    refine V.iconst (q := 49) (v := 1) (by decide) dX13_readMark_48 rfl ?_
    refine V.iadd (q := 50) dX13_readMark_49 rfl ?_
    obtain ⟨h4, eh4, hf⟩ := bd_ex hf
    refine V.putI (q := 53) (fpX13_238 rfl) rfl eh4 dX13_readMark_50 rfl ?_
    cases hf
    exact V.ret (r := none) trivial dX13_readMark_53
  · rw [if_pos c] at hf
    cases hf
    exact V.ret (r := none) trivial dX13_readMark_26
def bX13_readOffice_16  (h : MH) (a0 : Nat) : Option (MH) := bd (ck h a0 13) fun _ => bd (fX13_goesOn h a0 ) fun h1 => bd (ck h1 a0 13) fun _ => bd2 (fX13_readPart h1 a0 6 0 100) fun v3 h2 => bd (gI h2 a0 13 9) fun v4 => if v4 = 6 then (some h2) else (bd (gR h2 a0 13 4) fun b5 => bd (pI h2 b5 12 0 v3) fun h3 => some h3)
set_option maxRecDepth 20000 in
theorem tX13_readOffice_16 {h' : MH}   {h : MH} {a0 : Nat} (hf : bX13_readOffice_16  h a0 = some h') : V TT mX13_readOffice 8 none h' h 16 [.ref a0, Jk] [] := by
  unfold bX13_readOffice_16 at hf
  refine V.aload_n (q := 17) rfl dX13_readOffice_16 rfl rfl ?_
  obtain ⟨_, e1, hf⟩ := bd_ex hf
  obtain ⟨h1, eh1, hf⟩ := bd_ex hf
  refine V.callV (q := 20) (ci := 13) (vs := []) (st := []) (S2 := []) okX13_goesOn imX13_goesOn seX13_goesOn rfl lkX13_116 (tX13_goesOn eh1) rfl (ck_is e1) (by decide) rfl (Nat.le_of_ble_eq_true rfl) (Nat.le_of_ble_eq_true rfl) rfl dX13_readOffice_17 rfl rfl ?_
  refine V.aload_n (q := 21) rfl dX13_readOffice_20 rfl rfl ?_
  refine V.ldcS (q := 23) (i := 6) rfl dX13_readOffice_21 rfl ?_
  refine V.iconst (q := 24) (v := 0) (by decide) dX13_readOffice_23 rfl ?_
  refine V.bipush (q := 26) (v := 100) (by decide) dX13_readOffice_24 rfl ?_
  obtain ⟨_, e2, hf⟩ := bd_ex hf
  obtain ⟨v3, h2, eh2, hf⟩ := bd2_ex hf
  refine V.callV (q := 29) (ci := 13) (vs := [.retAddr 6, .int 0, .int 100]) (st := []) (S2 := [.int v3]) okX13_readPart imX13_readPart seX13_readPart rfl lkX13_234 (tX13_readPart eh2) rfl (ck_is e2) (by decide) rfl (Nat.le_of_ble_eq_true rfl) (Nat.le_of_ble_eq_true rfl) rfl dX13_readOffice_26 rfl rfl ?_
  refine V.istore_n (q := 30) (L' := [.ref a0, .int v3]) rfl dX13_readOffice_29 rfl (by decide) rfl rfl ?_
  refine V.aload_n (q := 31) rfl dX13_readOffice_30 rfl rfl ?_
  obtain ⟨v4, ev4, hf⟩ := bd_ex hf
  refine V.getI (q := 34) flX13_80 rfl ev4 dX13_readOffice_31 rfl ?_
  refine V.bipush (q := 36) (v := 6) (by decide) dX13_readOffice_34 rfl ?_
  refine V.icmp_eq (q := 39) (tgt := 47) dX13_readOffice_36 rfl (by decide) (fun c => ?_) (fun c => ?_)
  · rw [if_pos c] at hf
    cases hf
    exact V.ret (r := none) trivial dX13_readOffice_47
  · rw [if_neg c] at hf
    refine V.aload_n (q := 40) rfl dX13_readOffice_39 rfl rfl ?_
    obtain ⟨b5, eb5, hf⟩ := bd_ex hf
    refine V.getR (q := 43) flX13_157 rfl eb5 dX13_readOffice_40 rfl ?_
    refine V.iload_n (q := 44) rfl dX13_readOffice_43 rfl rfl ?_
    obtain ⟨h3, eh3, hf⟩ := bd_ex hf
    refine V.putI (q := 47) (fpX13_161 rfl) rfl eh3 dX13_readOffice_44 rfl ?_
    cases hf
    exact V.ret (r := none) trivial dX13_readOffice_47
def fX13_readOffice (h : MH) (a0 : Nat) : Option (MH) := bd (gR h a0 13 4) fun b1 => bd (gI h b1 12 0) fun v2 => if v2 = (-1) then (bX13_readOffice_16 h a0) else (bd (ck h a0 13) fun _ => bd (fX13_flaw h a0 3) fun h1 => bX13_readOffice_16 h1 a0)
set_option maxRecDepth 20000 in
theorem tX13_readOffice {h' : MH} {h : MH} {a0 : Nat} (hf : fX13_readOffice h a0 = some h') : VM mX13_readOffice 8 none h' h [.ref a0] := by
  show V TT mX13_readOffice 8 _ h' h 0 [.ref a0, Jk] []
  unfold fX13_readOffice at hf
  refine V.aload_n (q := 1) rfl dX13_readOffice_0 rfl rfl ?_
  obtain ⟨b1, eb1, hf⟩ := bd_ex hf
  refine V.getR (q := 4) flX13_157 rfl eb1 dX13_readOffice_1 rfl ?_
  obtain ⟨v2, ev2, hf⟩ := bd_ex hf
  refine V.getI (q := 7) flX13_161 rfl ev2 dX13_readOffice_4 rfl ?_
  refine V.iconst (q := 8) (v := (-1)) (by decide) dX13_readOffice_7 rfl ?_
  refine V.icmp_eq (q := 11) (tgt := 16) dX13_readOffice_8 rfl (by decide) (fun c => ?_) (fun c => ?_)
  · rw [if_pos c] at hf
    exact tX13_readOffice_16  hf
  · rw [if_neg c] at hf
    refine V.aload_n (q := 12) rfl dX13_readOffice_11 rfl rfl ?_
    refine V.iconst (q := 13) (v := 3) (by decide) dX13_readOffice_12 rfl ?_
    obtain ⟨_, e3, hf⟩ := bd_ex hf
    obtain ⟨h1, eh1, hf⟩ := bd_ex hf
    refine V.callV (q := 16) (ci := 13) (vs := [.int 3]) (st := []) (S2 := []) okX13_flaw imX13_flaw seX13_flaw rfl lkX13_123 (tX13_flaw eh1) rfl (ck_is e3) (by decide) rfl (Nat.le_of_ble_eq_true rfl) (Nat.le_of_ble_eq_true rfl) rfl dX13_readOffice_13 rfl rfl ?_
    exact tX13_readOffice_16  hf
def bX13_readMarks_38 (k2 : MH → Nat → Int32 → Option (Int32 × MH)) (h : MH) (a0 : Nat) (x1 : Int32) (x2 : Int32) : Option (Int32 × MH) := bd (ck h a0 13) fun _ => bd (fX13_goesOn h a0 ) fun h1 => bd (some (x1 ||| (1 <<< (x2 &&& 31)))) fun v2 => k2 h1 a0 v2
set_option maxRecDepth 20000 in
theorem tX13_readMarks_38 {r : Int32} {h' : MH} (k2 : MH → Nat → Int32 → Option (Int32 × MH)) (hk2 : ∀ (h : MH) (a0 : Nat) (x1 : Int32), k2 h a0 x1 = some (r, h') → V TT mX13_readMarks 8 (some (.int r)) h' h 2 [.ref a0, .int x1, Jk] [])  {h : MH} {a0 : Nat} {x1 : Int32} {x2 : Int32} (hf : bX13_readMarks_38 k2 h a0 x1 x2 = some (r, h')) : V TT mX13_readMarks 8 (some (.int r)) h' h 38 [.ref a0, .int x1, .int x2] [] := by
  unfold bX13_readMarks_38 at hf
  refine V.aload_n (q := 39) rfl dX13_readMarks_38 rfl rfl ?_
  obtain ⟨_, e1, hf⟩ := bd_ex hf
  obtain ⟨h1, eh1, hf⟩ := bd_ex hf
  refine V.callV (q := 42) (ci := 13) (vs := []) (st := []) (S2 := []) okX13_goesOn imX13_goesOn seX13_goesOn rfl lkX13_116 (tX13_goesOn eh1) rfl (ck_is e1) (by decide) rfl (Nat.le_of_ble_eq_true rfl) (Nat.le_of_ble_eq_true rfl) rfl dX13_readMarks_39 rfl rfl ?_
  refine V.iload_n (q := 43) rfl dX13_readMarks_42 rfl rfl ?_
  refine V.iconst (q := 44) (v := 1) (by decide) dX13_readMarks_43 rfl ?_
  refine V.iload_n (q := 45) rfl dX13_readMarks_44 rfl rfl ?_
  refine V.ishl (q := 46) dX13_readMarks_45 rfl ?_
  refine V.ior (q := 47) dX13_readMarks_46 rfl ?_
  obtain ⟨v2, ev2, hf⟩ := bd_ex hf
  refine V.topI (Option.some.inj ev2) ?_
  refine V.istore_n (q := 48) (L' := [.ref a0, .int v2, .int x2]) rfl dX13_readMarks_47 rfl (by decide) rfl rfl ?_
  refine V.goto (q := 2) dX13_readMarks_48 (by decide) ?_
  refine V.forget (L' := [.ref a0, .int v2, Jk]) ⟨Or.inr rfl, Or.inr rfl, Or.inl rfl, trivial⟩ ?_
  exact hk2 _ _ _ hf
def bX13_readMarks_2 (k2 : MH → Nat → Int32 → Option (Int32 × MH)) (h : MH) (a0 : Nat) (x1 : Int32) : Option (Int32 × MH) := bd (ck h a0 13) fun _ => bd2 (fX13_eats h a0 5) fun v2 h1 => if v2 = 0 then (some (x1, h1)) else (bd (ck h1 a0 13) fun _ => bd2 (fX13_knownOne h1 a0 0) fun v4 h2 => bd (gI h2 a0 13 9) fun v5 => if v5 = 6 then (bX13_readMarks_38 k2 h2 a0 x1 v4) else (bd2 (fX13_bit h2 x1 v4) fun v6 h3 => if v6 = 0 then (bX13_readMarks_38 k2 h3 a0 x1 v4) else (bd (ck h3 a0 13) fun _ => bd (fX13_flaw h3 a0 3) fun h4 => bX13_readMarks_38 k2 h4 a0 x1 v4)))
set_option maxRecDepth 20000 in
theorem tX13_readMarks_2 {r : Int32} {h' : MH} (k2 : MH → Nat → Int32 → Option (Int32 × MH)) (hk2 : ∀ (h : MH) (a0 : Nat) (x1 : Int32), k2 h a0 x1 = some (r, h') → V TT mX13_readMarks 8 (some (.int r)) h' h 2 [.ref a0, .int x1, Jk] [])  {h : MH} {a0 : Nat} {x1 : Int32} (hf : bX13_readMarks_2 k2 h a0 x1 = some (r, h')) : V TT mX13_readMarks 8 (some (.int r)) h' h 2 [.ref a0, .int x1, Jk] [] := by
  unfold bX13_readMarks_2 at hf
  refine V.aload_n (q := 3) rfl dX13_readMarks_2 rfl rfl ?_
  refine V.iconst (q := 4) (v := 5) (by decide) dX13_readMarks_3 rfl ?_
  obtain ⟨_, e1, hf⟩ := bd_ex hf
  obtain ⟨v2, h1, eh1, hf⟩ := bd2_ex hf
  refine V.callV (q := 7) (ci := 13) (vs := [.int 5]) (st := []) (S2 := [.int v2]) okX13_eats imX13_eats seX13_eats rfl lkX13_196 (tX13_eats eh1) rfl (ck_is e1) (by decide) rfl (Nat.le_of_ble_eq_true rfl) (Nat.le_of_ble_eq_true rfl) rfl dX13_readMarks_4 rfl rfl ?_
  refine V.if_eq (q := 10) (tgt := 51) dX13_readMarks_7 rfl (by decide) (fun c => ?_) (fun c => ?_)
  · rw [if_pos c] at hf
    refine V.iload_n (q := 52) rfl dX13_readMarks_51 rfl rfl ?_
    obtain ⟨rfl, rfl⟩ := ret_inj hf
    exact V.ret (r := some (.int x1)) trivial dX13_readMarks_52
  · rw [if_neg c] at hf
    refine V.aload_n (q := 11) rfl dX13_readMarks_10 rfl rfl ?_
    refine V.iconst (q := 12) (v := 0) (by decide) dX13_readMarks_11 rfl ?_
    obtain ⟨_, e3, hf⟩ := bd_ex hf
    obtain ⟨v4, h2, eh2, hf⟩ := bd2_ex hf
    refine V.callV (q := 15) (ci := 13) (vs := [.int 0]) (st := []) (S2 := [.int v4]) okX13_knownOne imX13_knownOne seX13_knownOne rfl lkX13_187 (tX13_knownOne eh2) rfl (ck_is e3) (by decide) rfl (Nat.le_of_ble_eq_true rfl) (Nat.le_of_ble_eq_true rfl) rfl dX13_readMarks_12 rfl rfl ?_
    refine V.istore_n (q := 16) (L' := [.ref a0, .int x1, .int v4]) rfl dX13_readMarks_15 rfl (by decide) rfl rfl ?_
    refine V.aload_n (q := 17) rfl dX13_readMarks_16 rfl rfl ?_
    obtain ⟨v5, ev5, hf⟩ := bd_ex hf
    refine V.getI (q := 20) flX13_80 rfl ev5 dX13_readMarks_17 rfl ?_
    refine V.bipush (q := 22) (v := 6) (by decide) dX13_readMarks_20 rfl ?_
    refine V.icmp_eq (q := 25) (tgt := 38) dX13_readMarks_22 rfl (by decide) (fun c => ?_) (fun c => ?_)
    · rw [if_pos c] at hf
      exact tX13_readMarks_38 k2 hk2 hf
    · rw [if_neg c] at hf
      refine V.iload_n (q := 26) rfl dX13_readMarks_25 rfl rfl ?_
      refine V.iload_n (q := 27) rfl dX13_readMarks_26 rfl rfl ?_
      obtain ⟨v6, h3, eh3, hf⟩ := bd2_ex hf
      refine V.callS (q := 30) (vs := [.int x1, .int v4]) (st := []) (S2 := [.int v6]) okX13_bit stX13_bit lkX13_199 (tX13_bit eh3) rfl (by decide) rfl (Nat.le_of_ble_eq_true rfl) (Nat.le_of_ble_eq_true rfl) rfl dX13_readMarks_27 rfl rfl ?_
      refine V.if_eq (q := 33) (tgt := 38) dX13_readMarks_30 rfl (by decide) (fun c => ?_) (fun c => ?_)
      · rw [if_pos c] at hf
        exact tX13_readMarks_38 k2 hk2 hf
      · rw [if_neg c] at hf
        refine V.aload_n (q := 34) rfl dX13_readMarks_33 rfl rfl ?_
        refine V.iconst (q := 35) (v := 3) (by decide) dX13_readMarks_34 rfl ?_
        obtain ⟨_, e7, hf⟩ := bd_ex hf
        obtain ⟨h4, eh4, hf⟩ := bd_ex hf
        refine V.callV (q := 38) (ci := 13) (vs := [.int 3]) (st := []) (S2 := []) okX13_flaw imX13_flaw seX13_flaw rfl lkX13_123 (tX13_flaw eh4) rfl (ck_is e7) (by decide) rfl (Nat.le_of_ble_eq_true rfl) (Nat.le_of_ble_eq_true rfl) rfl dX13_readMarks_35 rfl rfl ?_
        exact tX13_readMarks_38 k2 hk2 hf
def fX13_readMarks_2  : Nat → MH → Nat → Int32 → Option (Int32 × MH)
  | 0 => fun _ _ _ => none
  | n + 1 => bX13_readMarks_2  (fX13_readMarks_2  n)
theorem tlX13_readMarks_2 {r : Int32} {h' : MH}   : ∀ (n : Nat) (h : MH) (a0 : Nat) (x1 : Int32), fX13_readMarks_2  n h a0 x1 = some (r, h') → V TT mX13_readMarks 8 (some (.int r)) h' h 2 [.ref a0, .int x1, Jk] [] := by
  intro n
  induction n with
  | zero => intro h a0 x1 hf; exact nomatch (show (none : Option (Int32 × MH)) = some (r, h') from hf)
  | succ n ih => intro h a0 x1 hf; exact tX13_readMarks_2  (fX13_readMarks_2  n) ih hf
def fX13_readMarks (h : MH) (a0 : Nat) : Option (Int32 × MH) := fX13_readMarks_2 FU h a0 0
set_option maxRecDepth 20000 in
theorem tX13_readMarks {r : Int32} {h' : MH} {h : MH} {a0 : Nat} (hf : fX13_readMarks h a0 = some (r, h')) : VM mX13_readMarks 8 (some (.int r)) h' h [.ref a0] := by
  show V TT mX13_readMarks 8 _ h' h 0 [.ref a0, Jk, Jk] []
  unfold fX13_readMarks at hf
  refine V.iconst (q := 1) (v := 0) (by decide) dX13_readMarks_0 rfl ?_
  refine V.istore_n (q := 2) (L' := [.ref a0, .int 0, Jk]) rfl dX13_readMarks_1 rfl (by decide) rfl rfl ?_
  exact tlX13_readMarks_2  FU _ _ _ hf
def fX13_readPaper (h : MH) (a0 : Nat) : Option (MH) := bd (gR h a0 13 4) fun b1 => bd (gI h b1 12 2) fun v2 => bd (ck h a0 13) fun _ => bd (fX13_lineBegins h a0 v2 5) fun h1 => bd (ck h1 a0 13) fun _ => bd2 (fX13_readFresh h1 a0 ) fun w5 h2 => bd (ck h2 a0 13) fun _ => bd2 (fX13_readPart h2 a0 15 0 99) fun v7 h3 => bd (ck h3 a0 13) fun _ => bd2 (fX13_readMarks h3 a0 ) fun v9 h4 => bd (gI h4 a0 13 9) fun v10 => if v10 = 6 then (some h4) else (bd (gR h4 a0 13 4) fun b11 => bd (gI h4 b11 12 2) fun v12 => bd (ck h4 a0 13) fun _ => bd (fX13_names h4 a0 w5 1 v12) fun h5 => bd (gR h5 a0 13 4) fun b14 => bd (gR h5 b14 12 9) fun b15 => bd (gR h5 a0 13 4) fun b16 => bd (gI h5 b16 12 2) fun v17 => bd (tI h5 b15 v17 v7) fun h6 => bd (gR h6 a0 13 4) fun b18 => bd (gR h6 b18 12 10) fun b19 => bd (gR h6 a0 13 4) fun b20 => bd (gI h6 b20 12 2) fun v21 => bd (tI h6 b19 v21 v9) fun h7 => bd (gR h7 a0 13 4) fun b22 => bd (gI h7 b22 12 2) fun v23 => bd (pI h7 b22 12 2 (v23 + 1)) fun h8 => some h8)
set_option maxRecDepth 20000 in
theorem tX13_readPaper {h' : MH} {h : MH} {a0 : Nat} (hf : fX13_readPaper h a0 = some h') : VM mX13_readPaper 9 none h' h [.ref a0] := by
  show V TT mX13_readPaper 9 _ h' h 0 [.ref a0, Jk, Jk, Jk, Jk] []
  unfold fX13_readPaper at hf
  refine V.aload_n (q := 1) rfl dX13_readPaper_0 rfl rfl ?_
  refine V.aload_n (q := 2) rfl dX13_readPaper_1 rfl rfl ?_
  obtain ⟨b1, eb1, hf⟩ := bd_ex hf
  refine V.getR (q := 5) flX13_157 rfl eb1 dX13_readPaper_2 rfl ?_
  obtain ⟨v2, ev2, hf⟩ := bd_ex hf
  refine V.getI (q := 8) flX13_206 rfl ev2 dX13_readPaper_5 rfl ?_
  refine V.iconst (q := 9) (v := 5) (by decide) dX13_readPaper_8 rfl ?_
  obtain ⟨_, e3, hf⟩ := bd_ex hf
  obtain ⟨h1, eh1, hf⟩ := bd_ex hf
  refine V.callV (q := 12) (ci := 13) (vs := [.int v2, .int 5]) (st := []) (S2 := []) okX13_lineBegins imX13_lineBegins seX13_lineBegins rfl lkX13_241 (tX13_lineBegins eh1) rfl (ck_is e3) (by decide) rfl (Nat.le_of_ble_eq_true rfl) (Nat.le_of_ble_eq_true rfl) rfl dX13_readPaper_9 rfl rfl ?_
  refine V.aload_n (q := 13) rfl dX13_readPaper_12 rfl rfl ?_
  obtain ⟨_, e4, hf⟩ := bd_ex hf
  obtain ⟨w5, h2, eh2, hf⟩ := bd2_ex hf
  refine V.callV (q := 16) (ci := 13) (vs := []) (st := []) (S2 := [.long w5]) okX13_readFresh imX13_readFresh seX13_readFresh rfl lkX13_245 (tX13_readFresh eh2) rfl (ck_is e4) (by decide) rfl (Nat.le_of_ble_eq_true rfl) (Nat.le_of_ble_eq_true rfl) rfl dX13_readPaper_13 rfl rfl ?_
  refine V.lstore_n (q := 17) (L' := [.ref a0, .long w5, Jk, Jk, Jk]) rfl dX13_readPaper_16 rfl (by decide) rfl rfl ?_
  refine V.aload_n (q := 18) rfl dX13_readPaper_17 rfl rfl ?_
  refine V.ldcS (q := 20) (i := 15) rfl dX13_readPaper_18 rfl ?_
  refine V.iconst (q := 21) (v := 0) (by decide) dX13_readPaper_20 rfl ?_
  refine V.bipush (q := 23) (v := 99) (by decide) dX13_readPaper_21 rfl ?_
  obtain ⟨_, e6, hf⟩ := bd_ex hf
  obtain ⟨v7, h3, eh3, hf⟩ := bd2_ex hf
  refine V.callV (q := 26) (ci := 13) (vs := [.retAddr 15, .int 0, .int 99]) (st := []) (S2 := [.int v7]) okX13_readPart imX13_readPart seX13_readPart rfl lkX13_234 (tX13_readPart eh3) rfl (ck_is e6) (by decide) rfl (Nat.le_of_ble_eq_true rfl) (Nat.le_of_ble_eq_true rfl) rfl dX13_readPaper_23 rfl rfl ?_
  refine V.istore_n (q := 27) (L' := [.ref a0, .long w5, Jk, .int v7, Jk]) rfl dX13_readPaper_26 rfl (by decide) rfl rfl ?_
  refine V.aload_n (q := 28) rfl dX13_readPaper_27 rfl rfl ?_
  obtain ⟨_, e8, hf⟩ := bd_ex hf
  obtain ⟨v9, h4, eh4, hf⟩ := bd2_ex hf
  refine V.callV (q := 31) (ci := 13) (vs := []) (st := []) (S2 := [.int v9]) okX13_readMarks imX13_readMarks seX13_readMarks rfl lkX13_254 (tX13_readMarks eh4) rfl (ck_is e8) (by decide) rfl (Nat.le_of_ble_eq_true rfl) (Nat.le_of_ble_eq_true rfl) rfl dX13_readPaper_28 rfl rfl ?_
  refine V.istore (q := 33) (L' := [.ref a0, .long w5, Jk, .int v7, .int v9]) dX13_readPaper_31 rfl (by decide) rfl rfl ?_
  refine V.aload_n (q := 34) rfl dX13_readPaper_33 rfl rfl ?_
  obtain ⟨v10, ev10, hf⟩ := bd_ex hf
  refine V.getI (q := 37) flX13_80 rfl ev10 dX13_readPaper_34 rfl ?_
  refine V.bipush (q := 39) (v := 6) (by decide) dX13_readPaper_37 rfl ?_
  refine V.icmp_ne (q := 42) (tgt := 43) dX13_readPaper_39 rfl (by decide) (fun c => ?_) (fun c => ?_)
  · rw [if_neg c] at hf
    refine V.aload_n (q := 44) rfl dX13_readPaper_43 rfl rfl ?_
    refine V.lload_n (q := 45) rfl dX13_readPaper_44 rfl rfl ?_
    refine V.iconst (q := 46) (v := 1) (by decide) dX13_readPaper_45 rfl ?_
    refine V.aload_n (q := 47) rfl dX13_readPaper_46 rfl rfl ?_
    obtain ⟨b11, eb11, hf⟩ := bd_ex hf
    refine V.getR (q := 50) flX13_157 rfl eb11 dX13_readPaper_47 rfl ?_
    obtain ⟨v12, ev12, hf⟩ := bd_ex hf
    refine V.getI (q := 53) flX13_206 rfl ev12 dX13_readPaper_50 rfl ?_
    obtain ⟨_, e13, hf⟩ := bd_ex hf
    obtain ⟨h5, eh5, hf⟩ := bd_ex hf
    refine V.callV (q := 56) (ci := 13) (vs := [.long w5, .int 1, .int v12]) (st := []) (S2 := []) okX13_names imX13_names seX13_names rfl lkX13_249 (tX13_names eh5) rfl (ck_is e13) (by decide) rfl (Nat.le_of_ble_eq_true rfl) (Nat.le_of_ble_eq_true rfl) rfl dX13_readPaper_53 rfl rfl ?_
    refine V.aload_n (q := 57) rfl dX13_readPaper_56 rfl rfl ?_
    obtain ⟨b14, eb14, hf⟩ := bd_ex hf
    refine V.getR (q := 60) flX13_157 rfl eb14 dX13_readPaper_57 rfl ?_
    obtain ⟨b15, eb15, hf⟩ := bd_ex hf
    refine V.getR (q := 63) flX13_257 rfl eb15 dX13_readPaper_60 rfl ?_
    refine V.aload_n (q := 64) rfl dX13_readPaper_63 rfl rfl ?_
    obtain ⟨b16, eb16, hf⟩ := bd_ex hf
    refine V.getR (q := 67) flX13_157 rfl eb16 dX13_readPaper_64 rfl ?_
    obtain ⟨v17, ev17, hf⟩ := bd_ex hf
    refine V.getI (q := 70) flX13_206 rfl ev17 dX13_readPaper_67 rfl ?_
    refine V.iload_n (q := 71) rfl dX13_readPaper_70 rfl rfl ?_
    obtain ⟨h6, eh6, hf⟩ := bd_ex hf
    refine V.iast (q := 72) eh6 dX13_readPaper_71 rfl ?_
    refine V.aload_n (q := 73) rfl dX13_readPaper_72 rfl rfl ?_
    obtain ⟨b18, eb18, hf⟩ := bd_ex hf
    refine V.getR (q := 76) flX13_157 rfl eb18 dX13_readPaper_73 rfl ?_
    obtain ⟨b19, eb19, hf⟩ := bd_ex hf
    refine V.getR (q := 79) flX13_259 rfl eb19 dX13_readPaper_76 rfl ?_
    refine V.aload_n (q := 80) rfl dX13_readPaper_79 rfl rfl ?_
    obtain ⟨b20, eb20, hf⟩ := bd_ex hf
    refine V.getR (q := 83) flX13_157 rfl eb20 dX13_readPaper_80 rfl ?_
    obtain ⟨v21, ev21, hf⟩ := bd_ex hf
    refine V.getI (q := 86) flX13_206 rfl ev21 dX13_readPaper_83 rfl ?_
    refine V.iload (q := 88) dX13_readPaper_86 rfl rfl ?_
    obtain ⟨h7, eh7, hf⟩ := bd_ex hf
    refine V.iast (q := 89) eh7 dX13_readPaper_88 rfl ?_
    refine V.aload_n (q := 90) rfl dX13_readPaper_89 rfl rfl ?_
    obtain ⟨b22, eb22, hf⟩ := bd_ex hf
    refine V.getR (q := 93) flX13_157 rfl eb22 dX13_readPaper_90 rfl ?_
    refine V.dupR (q := 94) dX13_readPaper_93 rfl ?_
    obtain ⟨v23, ev23, hf⟩ := bd_ex hf
    refine V.getI (q := 97) flX13_206 rfl ev23 dX13_readPaper_94 rfl ?_
    refine V.iconst (q := 98) (v := 1) (by decide) dX13_readPaper_97 rfl ?_
    refine V.iadd (q := 99) dX13_readPaper_98 rfl ?_
    obtain ⟨h8, eh8, hf⟩ := bd_ex hf
    refine V.putI (q := 102) (fpX13_206 rfl) rfl eh8 dX13_readPaper_99 rfl ?_
    cases hf
    exact V.ret (r := none) trivial dX13_readPaper_102
  · rw [if_pos c] at hf
    cases hf
    exact V.ret (r := none) trivial dX13_readPaper_42
def fX13_readKnown (h : MH) (a0 : Nat) (x1 : Int32) : Option (Int32 × MH) := bd (ck h a0 13) fun _ => bd2 (fX13_knownOne h a0 x1) fun v2 h1 => bd (ck h1 a0 13) fun _ => bd (fX13_goesOn h1 a0 ) fun h2 => some (v2, h2)
set_option maxRecDepth 20000 in
theorem tX13_readKnown {r : Int32} {h' : MH} {h : MH} {a0 : Nat} {x1 : Int32} (hf : fX13_readKnown h a0 x1 = some (r, h')) : VM mX13_readKnown 8 (some (.int r)) h' h [.ref a0, .int x1] := by
  show V TT mX13_readKnown 8 _ h' h 0 [.ref a0, .int x1, Jk] []
  unfold fX13_readKnown at hf
  refine V.aload_n (q := 1) rfl dX13_readKnown_0 rfl rfl ?_
  refine V.iload_n (q := 2) rfl dX13_readKnown_1 rfl rfl ?_
  obtain ⟨_, e1, hf⟩ := bd_ex hf
  obtain ⟨v2, h1, eh1, hf⟩ := bd2_ex hf
  refine V.callV (q := 5) (ci := 13) (vs := [.int x1]) (st := []) (S2 := [.int v2]) okX13_knownOne imX13_knownOne seX13_knownOne rfl lkX13_187 (tX13_knownOne eh1) rfl (ck_is e1) (by decide) rfl (Nat.le_of_ble_eq_true rfl) (Nat.le_of_ble_eq_true rfl) rfl dX13_readKnown_2 rfl rfl ?_
  refine V.istore_n (q := 6) (L' := [.ref a0, .int x1, .int v2]) rfl dX13_readKnown_5 rfl (by decide) rfl rfl ?_
  refine V.aload_n (q := 7) rfl dX13_readKnown_6 rfl rfl ?_
  obtain ⟨_, e3, hf⟩ := bd_ex hf
  obtain ⟨h2, eh2, hf⟩ := bd_ex hf
  refine V.callV (q := 10) (ci := 13) (vs := []) (st := []) (S2 := []) okX13_goesOn imX13_goesOn seX13_goesOn rfl lkX13_116 (tX13_goesOn eh2) rfl (ck_is e3) (by decide) rfl (Nat.le_of_ble_eq_true rfl) (Nat.le_of_ble_eq_true rfl) rfl dX13_readKnown_7 rfl rfl ?_
  refine V.iload_n (q := 11) rfl dX13_readKnown_10 rfl rfl ?_
  obtain ⟨rfl, rfl⟩ := ret_inj hf
  exact V.ret (r := some (.int v2)) trivial dX13_readKnown_11
def bX13_readVerdict_40  (h : MH) (a0 : Nat) (xs0 : Int32) : Option (Int32 × MH) := if xs0 = (-1) then (bd (ck h a0 13) fun _ => bd (fX13_flaw h a0 1) fun h1 => bd (ck h1 a0 13) fun _ => bd (fX13_goesOn h1 a0 ) fun h2 => some (xs0, h2)) else (bd (ck h a0 13) fun _ => bd (fX13_goesOn h a0 ) fun h1 => some (xs0, h1))
set_option maxRecDepth 20000 in
theorem tX13_readVerdict_40 {r : Int32} {h' : MH}   {h : MH} {a0 : Nat} {xs0 : Int32} (hf : bX13_readVerdict_40  h a0 xs0 = some (r, h')) : V TT mX13_readVerdict 6 (some (.int r)) h' h 40 [.ref a0, Jk] [.int xs0] := by
  unfold bX13_readVerdict_40 at hf
  refine V.istore_n (q := 41) (L' := [.ref a0, .int xs0]) rfl dX13_readVerdict_40 rfl (by decide) rfl rfl ?_
  refine V.iload_n (q := 42) rfl dX13_readVerdict_41 rfl rfl ?_
  refine V.iconst (q := 43) (v := (-1)) (by decide) dX13_readVerdict_42 rfl ?_
  refine V.icmp_ne (q := 46) (tgt := 51) dX13_readVerdict_43 rfl (by decide) (fun c => ?_) (fun c => ?_)
  · rw [if_neg c] at hf
    refine V.aload_n (q := 52) rfl dX13_readVerdict_51 rfl rfl ?_
    obtain ⟨_, e1, hf⟩ := bd_ex hf
    obtain ⟨h1, eh1, hf⟩ := bd_ex hf
    refine V.callV (q := 55) (ci := 13) (vs := []) (st := []) (S2 := []) okX13_goesOn imX13_goesOn seX13_goesOn rfl lkX13_116 (tX13_goesOn eh1) rfl (ck_is e1) (by decide) rfl (Nat.le_of_ble_eq_true rfl) (Nat.le_of_ble_eq_true rfl) rfl dX13_readVerdict_52 rfl rfl ?_
    refine V.iload_n (q := 56) rfl dX13_readVerdict_55 rfl rfl ?_
    obtain ⟨rfl, rfl⟩ := ret_inj hf
    exact V.ret (r := some (.int xs0)) trivial dX13_readVerdict_56
  · rw [if_pos c] at hf
    refine V.aload_n (q := 47) rfl dX13_readVerdict_46 rfl rfl ?_
    refine V.iconst (q := 48) (v := 1) (by decide) dX13_readVerdict_47 rfl ?_
    obtain ⟨_, e1, hf⟩ := bd_ex hf
    obtain ⟨h1, eh1, hf⟩ := bd_ex hf
    refine V.callV (q := 51) (ci := 13) (vs := [.int 1]) (st := []) (S2 := []) okX13_flaw imX13_flaw seX13_flaw rfl lkX13_123 (tX13_flaw eh1) rfl (ck_is e1) (by decide) rfl (Nat.le_of_ble_eq_true rfl) (Nat.le_of_ble_eq_true rfl) rfl dX13_readVerdict_48 rfl rfl ?_
    refine V.aload_n (q := 52) rfl dX13_readVerdict_51 rfl rfl ?_
    obtain ⟨_, e2, hf⟩ := bd_ex hf
    obtain ⟨h2, eh2, hf⟩ := bd_ex hf
    refine V.callV (q := 55) (ci := 13) (vs := []) (st := []) (S2 := []) okX13_goesOn imX13_goesOn seX13_goesOn rfl lkX13_116 (tX13_goesOn eh2) rfl (ck_is e2) (by decide) rfl (Nat.le_of_ble_eq_true rfl) (Nat.le_of_ble_eq_true rfl) rfl dX13_readVerdict_52 rfl rfl ?_
    refine V.iload_n (q := 56) rfl dX13_readVerdict_55 rfl rfl ?_
    obtain ⟨rfl, rfl⟩ := ret_inj hf
    exact V.ret (r := some (.int xs0)) trivial dX13_readVerdict_56
def fX13_readVerdict (h : MH) (a0 : Nat) : Option (Int32 × MH) := bd (ck h a0 13) fun _ => bd2 (fX13_isWord h a0 18) fun v2 h1 => if v2 = 0 then (bd (ck h1 a0 13) fun _ => bd2 (fX13_isWord h1 a0 19) fun v4 h2 => if v4 = 0 then (bd (ck h2 a0 13) fun _ => bd2 (fX13_isWord h2 a0 20) fun v6 h3 => if v6 = 0 then (bX13_readVerdict_40 h3 a0 (-1)) else (bX13_readVerdict_40 h3 a0 2)) else (bX13_readVerdict_40 h2 a0 1)) else (bX13_readVerdict_40 h1 a0 0)
set_option maxRecDepth 20000 in
theorem tX13_readVerdict {r : Int32} {h' : MH} {h : MH} {a0 : Nat} (hf : fX13_readVerdict h a0 = some (r, h')) : VM mX13_readVerdict 6 (some (.int r)) h' h [.ref a0] := by
  show V TT mX13_readVerdict 6 _ h' h 0 [.ref a0, Jk] []
  unfold fX13_readVerdict at hf
  refine V.aload_n (q := 1) rfl dX13_readVerdict_0 rfl rfl ?_
  refine V.ldcS (q := 3) (i := 18) rfl dX13_readVerdict_1 rfl ?_
  obtain ⟨_, e1, hf⟩ := bd_ex hf
  obtain ⟨v2, h1, eh1, hf⟩ := bd2_ex hf
  refine V.callV (q := 6) (ci := 13) (vs := [.retAddr 18]) (st := []) (S2 := [.int v2]) okX13_isWord imX13_isWord seX13_isWord rfl lkX13_119 (tX13_isWord eh1) rfl (ck_is e1) (by decide) rfl (Nat.le_of_ble_eq_true rfl) (Nat.le_of_ble_eq_true rfl) rfl dX13_readVerdict_3 rfl rfl ?_
  refine V.if_eq (q := 9) (tgt := 13) dX13_readVerdict_6 rfl (by decide) (fun c => ?_) (fun c => ?_)
  · rw [if_pos c] at hf
    refine V.aload_n (q := 14) rfl dX13_readVerdict_13 rfl rfl ?_
    refine V.ldcS (q := 16) (i := 19) rfl dX13_readVerdict_14 rfl ?_
    obtain ⟨_, e3, hf⟩ := bd_ex hf
    obtain ⟨v4, h2, eh2, hf⟩ := bd2_ex hf
    refine V.callV (q := 19) (ci := 13) (vs := [.retAddr 19]) (st := []) (S2 := [.int v4]) okX13_isWord imX13_isWord seX13_isWord rfl lkX13_119 (tX13_isWord eh2) rfl (ck_is e3) (by decide) rfl (Nat.le_of_ble_eq_true rfl) (Nat.le_of_ble_eq_true rfl) rfl dX13_readVerdict_16 rfl rfl ?_
    refine V.if_eq (q := 22) (tgt := 26) dX13_readVerdict_19 rfl (by decide) (fun c => ?_) (fun c => ?_)
    · rw [if_pos c] at hf
      refine V.aload_n (q := 27) rfl dX13_readVerdict_26 rfl rfl ?_
      refine V.ldcS (q := 29) (i := 20) rfl dX13_readVerdict_27 rfl ?_
      obtain ⟨_, e5, hf⟩ := bd_ex hf
      obtain ⟨v6, h3, eh3, hf⟩ := bd2_ex hf
      refine V.callV (q := 32) (ci := 13) (vs := [.retAddr 20]) (st := []) (S2 := [.int v6]) okX13_isWord imX13_isWord seX13_isWord rfl lkX13_119 (tX13_isWord eh3) rfl (ck_is e5) (by decide) rfl (Nat.le_of_ble_eq_true rfl) (Nat.le_of_ble_eq_true rfl) rfl dX13_readVerdict_29 rfl rfl ?_
      refine V.if_eq (q := 35) (tgt := 39) dX13_readVerdict_32 rfl (by decide) (fun c => ?_) (fun c => ?_)
      · rw [if_pos c] at hf
        refine V.iconst (q := 40) (v := (-1)) (by decide) dX13_readVerdict_39 rfl ?_
        exact tX13_readVerdict_40  hf
      · rw [if_neg c] at hf
        refine V.iconst (q := 36) (v := 2) (by decide) dX13_readVerdict_35 rfl ?_
        refine V.goto (q := 40) dX13_readVerdict_36 (by decide) ?_
        exact tX13_readVerdict_40  hf
    · rw [if_neg c] at hf
      refine V.iconst (q := 23) (v := 1) (by decide) dX13_readVerdict_22 rfl ?_
      refine V.goto (q := 40) dX13_readVerdict_23 (by decide) ?_
      exact tX13_readVerdict_40  hf
  · rw [if_neg c] at hf
    refine V.iconst (q := 10) (v := 0) (by decide) dX13_readVerdict_9 rfl ?_
    refine V.goto (q := 40) dX13_readVerdict_10 (by decide) ?_
    exact tX13_readVerdict_40  hf
def fX13_readPrint (h : MH) (a0 : Nat) : Option (MH) := bd (gR h a0 13 4) fun b1 => bd (gI h b1 12 7) fun v2 => bd (ck h a0 13) fun _ => bd (fX13_lineBegins h a0 v2 4) fun h1 => bd (ck h1 a0 13) fun _ => bd2 (fX13_readKnown h1 a0 1) fun v5 h2 => bd (ck h2 a0 13) fun _ => bd2 (fX13_readKnown h2 a0 3) fun v7 h3 => bd (ck h3 a0 13) fun _ => bd2 (fX13_readVerdict h3 a0 ) fun v9 h4 => bd (gI h4 a0 13 9) fun v10 => if v10 = 6 then (some h4) else (bd (gR h4 a0 13 4) fun b11 => bd (gR h4 b11 12 21) fun b12 => bd (gR h4 a0 13 4) fun b13 => bd (gI h4 b13 12 7) fun v14 => bd (tI h4 b12 v14 v5) fun h5 => bd (gR h5 a0 13 4) fun b15 => bd (gR h5 b15 12 22) fun b16 => bd (gR h5 a0 13 4) fun b17 => bd (gI h5 b17 12 7) fun v18 => bd (tI h5 b16 v18 v7) fun h6 => bd (gR h6 a0 13 4) fun b19 => bd (gR h6 b19 12 23) fun b20 => bd (gR h6 a0 13 4) fun b21 => bd (gI h6 b21 12 7) fun v22 => bd (tI h6 b20 v22 v9) fun h7 => bd (gR h7 a0 13 4) fun b23 => bd (gI h7 b23 12 7) fun v24 => bd (pI h7 b23 12 7 (v24 + 1)) fun h8 => some h8)
set_option maxRecDepth 20000 in
theorem tX13_readPrint {h' : MH} {h : MH} {a0 : Nat} (hf : fX13_readPrint h a0 = some h') : VM mX13_readPrint 9 none h' h [.ref a0] := by
  show V TT mX13_readPrint 9 _ h' h 0 [.ref a0, Jk, Jk, Jk] []
  unfold fX13_readPrint at hf
  refine V.aload_n (q := 1) rfl dX13_readPrint_0 rfl rfl ?_
  refine V.aload_n (q := 2) rfl dX13_readPrint_1 rfl rfl ?_
  obtain ⟨b1, eb1, hf⟩ := bd_ex hf
  refine V.getR (q := 5) flX13_157 rfl eb1 dX13_readPrint_2 rfl ?_
  obtain ⟨v2, ev2, hf⟩ := bd_ex hf
  refine V.getI (q := 8) flX13_320 rfl ev2 dX13_readPrint_5 rfl ?_
  refine V.iconst (q := 9) (v := 4) (by decide) dX13_readPrint_8 rfl ?_
  obtain ⟨_, e3, hf⟩ := bd_ex hf
  obtain ⟨h1, eh1, hf⟩ := bd_ex hf
  refine V.callV (q := 12) (ci := 13) (vs := [.int v2, .int 4]) (st := []) (S2 := []) okX13_lineBegins imX13_lineBegins seX13_lineBegins rfl lkX13_241 (tX13_lineBegins eh1) rfl (ck_is e3) (by decide) rfl (Nat.le_of_ble_eq_true rfl) (Nat.le_of_ble_eq_true rfl) rfl dX13_readPrint_9 rfl rfl ?_
  refine V.aload_n (q := 13) rfl dX13_readPrint_12 rfl rfl ?_
  refine V.iconst (q := 14) (v := 1) (by decide) dX13_readPrint_13 rfl ?_
  obtain ⟨_, e4, hf⟩ := bd_ex hf
  obtain ⟨v5, h2, eh2, hf⟩ := bd2_ex hf
  refine V.callV (q := 17) (ci := 13) (vs := [.int 1]) (st := []) (S2 := [.int v5]) okX13_readKnown imX13_readKnown seX13_readKnown rfl lkX13_283 (tX13_readKnown eh2) rfl (ck_is e4) (by decide) rfl (Nat.le_of_ble_eq_true rfl) (Nat.le_of_ble_eq_true rfl) rfl dX13_readPrint_14 rfl rfl ?_
  refine V.istore_n (q := 18) (L' := [.ref a0, .int v5, Jk, Jk]) rfl dX13_readPrint_17 rfl (by decide) rfl rfl ?_
  refine V.aload_n (q := 19) rfl dX13_readPrint_18 rfl rfl ?_
  refine V.iconst (q := 20) (v := 3) (by decide) dX13_readPrint_19 rfl ?_
  obtain ⟨_, e6, hf⟩ := bd_ex hf
  obtain ⟨v7, h3, eh3, hf⟩ := bd2_ex hf
  refine V.callV (q := 23) (ci := 13) (vs := [.int 3]) (st := []) (S2 := [.int v7]) okX13_readKnown imX13_readKnown seX13_readKnown rfl lkX13_283 (tX13_readKnown eh3) rfl (ck_is e6) (by decide) rfl (Nat.le_of_ble_eq_true rfl) (Nat.le_of_ble_eq_true rfl) rfl dX13_readPrint_20 rfl rfl ?_
  refine V.istore_n (q := 24) (L' := [.ref a0, .int v5, .int v7, Jk]) rfl dX13_readPrint_23 rfl (by decide) rfl rfl ?_
  refine V.aload_n (q := 25) rfl dX13_readPrint_24 rfl rfl ?_
  obtain ⟨_, e8, hf⟩ := bd_ex hf
  obtain ⟨v9, h4, eh4, hf⟩ := bd2_ex hf
  refine V.callV (q := 28) (ci := 13) (vs := []) (st := []) (S2 := [.int v9]) okX13_readVerdict imX13_readVerdict seX13_readVerdict rfl lkX13_269 (tX13_readVerdict eh4) rfl (ck_is e8) (by decide) rfl (Nat.le_of_ble_eq_true rfl) (Nat.le_of_ble_eq_true rfl) rfl dX13_readPrint_25 rfl rfl ?_
  refine V.istore_n (q := 29) (L' := [.ref a0, .int v5, .int v7, .int v9]) rfl dX13_readPrint_28 rfl (by decide) rfl rfl ?_
  refine V.aload_n (q := 30) rfl dX13_readPrint_29 rfl rfl ?_
  obtain ⟨v10, ev10, hf⟩ := bd_ex hf
  refine V.getI (q := 33) flX13_80 rfl ev10 dX13_readPrint_30 rfl ?_
  refine V.bipush (q := 35) (v := 6) (by decide) dX13_readPrint_33 rfl ?_
  refine V.icmp_ne (q := 38) (tgt := 39) dX13_readPrint_35 rfl (by decide) (fun c => ?_) (fun c => ?_)
  · rw [if_neg c] at hf
    refine V.aload_n (q := 40) rfl dX13_readPrint_39 rfl rfl ?_
    obtain ⟨b11, eb11, hf⟩ := bd_ex hf
    refine V.getR (q := 43) flX13_157 rfl eb11 dX13_readPrint_40 rfl ?_
    obtain ⟨b12, eb12, hf⟩ := bd_ex hf
    refine V.getR (q := 46) flX13_323 rfl eb12 dX13_readPrint_43 rfl ?_
    refine V.aload_n (q := 47) rfl dX13_readPrint_46 rfl rfl ?_
    obtain ⟨b13, eb13, hf⟩ := bd_ex hf
    refine V.getR (q := 50) flX13_157 rfl eb13 dX13_readPrint_47 rfl ?_
    obtain ⟨v14, ev14, hf⟩ := bd_ex hf
    refine V.getI (q := 53) flX13_320 rfl ev14 dX13_readPrint_50 rfl ?_
    refine V.iload_n (q := 54) rfl dX13_readPrint_53 rfl rfl ?_
    obtain ⟨h5, eh5, hf⟩ := bd_ex hf
    refine V.iast (q := 55) eh5 dX13_readPrint_54 rfl ?_
    refine V.aload_n (q := 56) rfl dX13_readPrint_55 rfl rfl ?_
    obtain ⟨b15, eb15, hf⟩ := bd_ex hf
    refine V.getR (q := 59) flX13_157 rfl eb15 dX13_readPrint_56 rfl ?_
    obtain ⟨b16, eb16, hf⟩ := bd_ex hf
    refine V.getR (q := 62) flX13_326 rfl eb16 dX13_readPrint_59 rfl ?_
    refine V.aload_n (q := 63) rfl dX13_readPrint_62 rfl rfl ?_
    obtain ⟨b17, eb17, hf⟩ := bd_ex hf
    refine V.getR (q := 66) flX13_157 rfl eb17 dX13_readPrint_63 rfl ?_
    obtain ⟨v18, ev18, hf⟩ := bd_ex hf
    refine V.getI (q := 69) flX13_320 rfl ev18 dX13_readPrint_66 rfl ?_
    refine V.iload_n (q := 70) rfl dX13_readPrint_69 rfl rfl ?_
    obtain ⟨h6, eh6, hf⟩ := bd_ex hf
    refine V.iast (q := 71) eh6 dX13_readPrint_70 rfl ?_
    refine V.aload_n (q := 72) rfl dX13_readPrint_71 rfl rfl ?_
    obtain ⟨b19, eb19, hf⟩ := bd_ex hf
    refine V.getR (q := 75) flX13_157 rfl eb19 dX13_readPrint_72 rfl ?_
    obtain ⟨b20, eb20, hf⟩ := bd_ex hf
    refine V.getR (q := 78) flX13_329 rfl eb20 dX13_readPrint_75 rfl ?_
    refine V.aload_n (q := 79) rfl dX13_readPrint_78 rfl rfl ?_
    obtain ⟨b21, eb21, hf⟩ := bd_ex hf
    refine V.getR (q := 82) flX13_157 rfl eb21 dX13_readPrint_79 rfl ?_
    obtain ⟨v22, ev22, hf⟩ := bd_ex hf
    refine V.getI (q := 85) flX13_320 rfl ev22 dX13_readPrint_82 rfl ?_
    refine V.iload_n (q := 86) rfl dX13_readPrint_85 rfl rfl ?_
    obtain ⟨h7, eh7, hf⟩ := bd_ex hf
    refine V.iast (q := 87) eh7 dX13_readPrint_86 rfl ?_
    refine V.aload_n (q := 88) rfl dX13_readPrint_87 rfl rfl ?_
    obtain ⟨b23, eb23, hf⟩ := bd_ex hf
    refine V.getR (q := 91) flX13_157 rfl eb23 dX13_readPrint_88 rfl ?_
    refine V.dupR (q := 92) dX13_readPrint_91 rfl ?_
    obtain ⟨v24, ev24, hf⟩ := bd_ex hf
    refine V.getI (q := 95) flX13_320 rfl ev24 dX13_readPrint_92 rfl ?_
    refine V.iconst (q := 96) (v := 1) (by decide) dX13_readPrint_95 rfl ?_
    refine V.iadd (q := 97) dX13_readPrint_96 rfl ?_
    obtain ⟨h8, eh8, hf⟩ := bd_ex hf
    refine V.putI (q := 100) (fpX13_320 rfl) rfl eh8 dX13_readPrint_97 rfl ?_
    cases hf
    exact V.ret (r := none) trivial dX13_readPrint_100
  · rw [if_pos c] at hf
    cases hf
    exact V.ret (r := none) trivial dX13_readPrint_38
def bX13_readRule_105  (h : MH) (a0 : Nat) (x4 : Int32) (x5 : Int32) (xs0 : Int32) (xs1 : Int32) (as2 : Nat) : Option (MH) := bd (tI h as2 xs1 xs0) fun h1 => bd (gR h1 a0 13 4) fun b1 => bd (gR h1 b1 12 18) fun b2 => bd (tI h1 b2 x5 x4) fun h2 => bd (gR h2 a0 13 4) fun b3 => bd (gI h2 b3 12 4) fun v4 => bd (pI h2 b3 12 4 (v4 + 1)) fun h3 => some h3
set_option maxRecDepth 20000 in
theorem tX13_readRule_105 {h' : MH}   {h : MH} {a0 : Nat} {x4 : Int32} {x5 : Int32} {xs0 : Int32} {xs1 : Int32} {as2 : Nat} (hf : bX13_readRule_105  h a0 x4 x5 xs0 xs1 as2 = some h') : V TT mX13_readRule 9 none h' h 105 [.ref a0, Jk, Jk, Jk, .int x4, .int x5] [.int xs0, .int xs1, .ref as2] := by
  unfold bX13_readRule_105 at hf
  obtain ⟨h1, eh1, hf⟩ := bd_ex hf
  refine V.iast (q := 106) eh1 dX13_readRule_105 rfl ?_
  refine V.aload_n (q := 107) rfl dX13_readRule_106 rfl rfl ?_
  obtain ⟨b1, eb1, hf⟩ := bd_ex hf
  refine V.getR (q := 110) flX13_157 rfl eb1 dX13_readRule_107 rfl ?_
  obtain ⟨b2, eb2, hf⟩ := bd_ex hf
  refine V.getR (q := 113) flX13_295 rfl eb2 dX13_readRule_110 rfl ?_
  refine V.iload (q := 115) dX13_readRule_113 rfl rfl ?_
  refine V.iload (q := 117) dX13_readRule_115 rfl rfl ?_
  obtain ⟨h2, eh2, hf⟩ := bd_ex hf
  refine V.iast (q := 118) eh2 dX13_readRule_117 rfl ?_
  refine V.aload_n (q := 119) rfl dX13_readRule_118 rfl rfl ?_
  obtain ⟨b3, eb3, hf⟩ := bd_ex hf
  refine V.getR (q := 122) flX13_157 rfl eb3 dX13_readRule_119 rfl ?_
  refine V.dupR (q := 123) dX13_readRule_122 rfl ?_
  obtain ⟨v4, ev4, hf⟩ := bd_ex hf
  refine V.getI (q := 126) flX13_280 rfl ev4 dX13_readRule_123 rfl ?_
  refine V.iconst (q := 127) (v := 1) (by decide) dX13_readRule_126 rfl ?_
  refine V.iadd (q := 128) dX13_readRule_127 rfl ?_
  obtain ⟨h3, eh3, hf⟩ := bd_ex hf
  refine V.putI (q := 131) (fpX13_280 rfl) rfl eh3 dX13_readRule_128 rfl ?_
  cases hf
  exact V.ret (r := none) trivial dX13_readRule_131
def bX13_readRule_34  (h : MH) (a0 : Nat) (x1 : Int32) (x2 : Int32) : Option (MH) := bd (ck h a0 13) fun _ => bd2 (fX13_readKnown h a0 0) fun v2 h1 => bd (ck h1 a0 13) fun _ => bd2 (fX13_readVerdict h1 a0 ) fun v4 h2 => bd (gI h2 a0 13 9) fun v5 => if v5 = 6 then (some h2) else (bd (gR h2 a0 13 4) fun b6 => bd (gI h2 b6 12 4) fun v7 => bd (gR h2 a0 13 4) fun b8 => bd (gR h2 b8 12 15) fun b9 => bd (tI h2 b9 v7 x1) fun h3 => bd (gR h3 a0 13 4) fun b10 => bd (gR h3 b10 12 16) fun b11 => bd (tI h3 b11 v7 v2) fun h4 => bd (gR h4 a0 13 4) fun b12 => bd (gR h4 b12 12 17) fun b13 => if x2 = 0 then (bX13_readRule_105 h4 a0 v4 v7 0 v7 b13) else (bX13_readRule_105 h4 a0 v4 v7 1 v7 b13))
set_option maxRecDepth 20000 in
theorem tX13_readRule_34 {h' : MH}   {h : MH} {a0 : Nat} {x1 : Int32} {x2 : Int32} (hf : bX13_readRule_34  h a0 x1 x2 = some h') : V TT mX13_readRule 9 none h' h 34 [.ref a0, .int x1, .int x2, Jk, Jk, Jk] [] := by
  unfold bX13_readRule_34 at hf
  refine V.aload_n (q := 35) rfl dX13_readRule_34 rfl rfl ?_
  refine V.iconst (q := 36) (v := 0) (by decide) dX13_readRule_35 rfl ?_
  obtain ⟨_, e1, hf⟩ := bd_ex hf
  obtain ⟨v2, h1, eh1, hf⟩ := bd2_ex hf
  refine V.callV (q := 39) (ci := 13) (vs := [.int 0]) (st := []) (S2 := [.int v2]) okX13_readKnown imX13_readKnown seX13_readKnown rfl lkX13_283 (tX13_readKnown eh1) rfl (ck_is e1) (by decide) rfl (Nat.le_of_ble_eq_true rfl) (Nat.le_of_ble_eq_true rfl) rfl dX13_readRule_36 rfl rfl ?_
  refine V.istore_n (q := 40) (L' := [.ref a0, .int x1, .int x2, .int v2, Jk, Jk]) rfl dX13_readRule_39 rfl (by decide) rfl rfl ?_
  refine V.aload_n (q := 41) rfl dX13_readRule_40 rfl rfl ?_
  obtain ⟨_, e3, hf⟩ := bd_ex hf
  obtain ⟨v4, h2, eh2, hf⟩ := bd2_ex hf
  refine V.callV (q := 44) (ci := 13) (vs := []) (st := []) (S2 := [.int v4]) okX13_readVerdict imX13_readVerdict seX13_readVerdict rfl lkX13_269 (tX13_readVerdict eh2) rfl (ck_is e3) (by decide) rfl (Nat.le_of_ble_eq_true rfl) (Nat.le_of_ble_eq_true rfl) rfl dX13_readRule_41 rfl rfl ?_
  refine V.istore (q := 46) (L' := [.ref a0, .int x1, .int x2, .int v2, .int v4, Jk]) dX13_readRule_44 rfl (by decide) rfl rfl ?_
  refine V.aload_n (q := 47) rfl dX13_readRule_46 rfl rfl ?_
  obtain ⟨v5, ev5, hf⟩ := bd_ex hf
  refine V.getI (q := 50) flX13_80 rfl ev5 dX13_readRule_47 rfl ?_
  refine V.bipush (q := 52) (v := 6) (by decide) dX13_readRule_50 rfl ?_
  refine V.icmp_ne (q := 55) (tgt := 56) dX13_readRule_52 rfl (by decide) (fun c => ?_) (fun c => ?_)
  · rw [if_neg c] at hf
    refine V.aload_n (q := 57) rfl dX13_readRule_56 rfl rfl ?_
    obtain ⟨b6, eb6, hf⟩ := bd_ex hf
    refine V.getR (q := 60) flX13_157 rfl eb6 dX13_readRule_57 rfl ?_
    obtain ⟨v7, ev7, hf⟩ := bd_ex hf
    refine V.getI (q := 63) flX13_280 rfl ev7 dX13_readRule_60 rfl ?_
    refine V.istore (q := 65) (L' := [.ref a0, .int x1, .int x2, .int v2, .int v4, .int v7]) dX13_readRule_63 rfl (by decide) rfl rfl ?_
    refine V.aload_n (q := 66) rfl dX13_readRule_65 rfl rfl ?_
    obtain ⟨b8, eb8, hf⟩ := bd_ex hf
    refine V.getR (q := 69) flX13_157 rfl eb8 dX13_readRule_66 rfl ?_
    obtain ⟨b9, eb9, hf⟩ := bd_ex hf
    refine V.getR (q := 72) flX13_286 rfl eb9 dX13_readRule_69 rfl ?_
    refine V.iload (q := 74) dX13_readRule_72 rfl rfl ?_
    refine V.iload_n (q := 75) rfl dX13_readRule_74 rfl rfl ?_
    obtain ⟨h3, eh3, hf⟩ := bd_ex hf
    refine V.iast (q := 76) eh3 dX13_readRule_75 rfl ?_
    refine V.aload_n (q := 77) rfl dX13_readRule_76 rfl rfl ?_
    obtain ⟨b10, eb10, hf⟩ := bd_ex hf
    refine V.getR (q := 80) flX13_157 rfl eb10 dX13_readRule_77 rfl ?_
    obtain ⟨b11, eb11, hf⟩ := bd_ex hf
    refine V.getR (q := 83) flX13_289 rfl eb11 dX13_readRule_80 rfl ?_
    refine V.iload (q := 85) dX13_readRule_83 rfl rfl ?_
    refine V.iload_n (q := 86) rfl dX13_readRule_85 rfl rfl ?_
    obtain ⟨h4, eh4, hf⟩ := bd_ex hf
    refine V.iast (q := 87) eh4 dX13_readRule_86 rfl ?_
    refine V.aload_n (q := 88) rfl dX13_readRule_87 rfl rfl ?_
    obtain ⟨b12, eb12, hf⟩ := bd_ex hf
    refine V.getR (q := 91) flX13_157 rfl eb12 dX13_readRule_88 rfl ?_
    obtain ⟨b13, eb13, hf⟩ := bd_ex hf
    refine V.getR (q := 94) flX13_292 rfl eb13 dX13_readRule_91 rfl ?_
    refine V.iload (q := 96) dX13_readRule_94 rfl rfl ?_
    refine V.iload_n (q := 97) rfl dX13_readRule_96 rfl rfl ?_
    refine V.if_eq (q := 100) (tgt := 104) dX13_readRule_97 rfl (by decide) (fun c => ?_) (fun c => ?_)
    · rw [if_pos c] at hf
      refine V.iconst (q := 105) (v := 0) (by decide) dX13_readRule_104 rfl ?_
      refine V.forget (L' := [.ref a0, Jk, Jk, Jk, .int v4, .int v7]) ⟨Or.inr rfl, Or.inl rfl, Or.inl rfl, Or.inl rfl, Or.inr rfl, Or.inr rfl, trivial⟩ ?_
      exact tX13_readRule_105  hf
    · rw [if_neg c] at hf
      refine V.iconst (q := 101) (v := 1) (by decide) dX13_readRule_100 rfl ?_
      refine V.goto (q := 105) dX13_readRule_101 (by decide) ?_
      refine V.forget (L' := [.ref a0, Jk, Jk, Jk, .int v4, .int v7]) ⟨Or.inr rfl, Or.inl rfl, Or.inl rfl, Or.inl rfl, Or.inr rfl, Or.inr rfl, trivial⟩ ?_
      exact tX13_readRule_105  hf
  · rw [if_pos c] at hf
    cases hf
    exact V.ret (r := none) trivial dX13_readRule_55
def fX13_readRule (h : MH) (a0 : Nat) : Option (MH) := bd (gR h a0 13 4) fun b1 => bd (gI h b1 12 4) fun v2 => bd (ck h a0 13) fun _ => bd (fX13_lineBegins h a0 v2 10) fun h1 => bd (ck h1 a0 13) fun _ => bd2 (fX13_readKnown h1 a0 2) fun v5 h2 => bd (ck h2 a0 13) fun _ => bd2 (fX13_isWord h2 a0 14) fun v7 h3 => if v7 = 0 then (bX13_readRule_34 h3 a0 v5 v7) else (bd (ck h3 a0 13) fun _ => bd (fX13_goesOn h3 a0 ) fun h4 => bX13_readRule_34 h4 a0 v5 v7)
set_option maxRecDepth 20000 in
theorem tX13_readRule {h' : MH} {h : MH} {a0 : Nat} (hf : fX13_readRule h a0 = some h') : VM mX13_readRule 9 none h' h [.ref a0] := by
  show V TT mX13_readRule 9 _ h' h 0 [.ref a0, Jk, Jk, Jk, Jk, Jk] []
  unfold fX13_readRule at hf
  refine V.aload_n (q := 1) rfl dX13_readRule_0 rfl rfl ?_
  refine V.aload_n (q := 2) rfl dX13_readRule_1 rfl rfl ?_
  obtain ⟨b1, eb1, hf⟩ := bd_ex hf
  refine V.getR (q := 5) flX13_157 rfl eb1 dX13_readRule_2 rfl ?_
  obtain ⟨v2, ev2, hf⟩ := bd_ex hf
  refine V.getI (q := 8) flX13_280 rfl ev2 dX13_readRule_5 rfl ?_
  refine V.bipush (q := 10) (v := 10) (by decide) dX13_readRule_8 rfl ?_
  obtain ⟨_, e3, hf⟩ := bd_ex hf
  obtain ⟨h1, eh1, hf⟩ := bd_ex hf
  refine V.callV (q := 13) (ci := 13) (vs := [.int v2, .int 10]) (st := []) (S2 := []) okX13_lineBegins imX13_lineBegins seX13_lineBegins rfl lkX13_241 (tX13_lineBegins eh1) rfl (ck_is e3) (by decide) rfl (Nat.le_of_ble_eq_true rfl) (Nat.le_of_ble_eq_true rfl) rfl dX13_readRule_10 rfl rfl ?_
  refine V.aload_n (q := 14) rfl dX13_readRule_13 rfl rfl ?_
  refine V.iconst (q := 15) (v := 2) (by decide) dX13_readRule_14 rfl ?_
  obtain ⟨_, e4, hf⟩ := bd_ex hf
  obtain ⟨v5, h2, eh2, hf⟩ := bd2_ex hf
  refine V.callV (q := 18) (ci := 13) (vs := [.int 2]) (st := []) (S2 := [.int v5]) okX13_readKnown imX13_readKnown seX13_readKnown rfl lkX13_283 (tX13_readKnown eh2) rfl (ck_is e4) (by decide) rfl (Nat.le_of_ble_eq_true rfl) (Nat.le_of_ble_eq_true rfl) rfl dX13_readRule_15 rfl rfl ?_
  refine V.istore_n (q := 19) (L' := [.ref a0, .int v5, Jk, Jk, Jk, Jk]) rfl dX13_readRule_18 rfl (by decide) rfl rfl ?_
  refine V.aload_n (q := 20) rfl dX13_readRule_19 rfl rfl ?_
  refine V.ldcS (q := 22) (i := 14) rfl dX13_readRule_20 rfl ?_
  obtain ⟨_, e6, hf⟩ := bd_ex hf
  obtain ⟨v7, h3, eh3, hf⟩ := bd2_ex hf
  refine V.callV (q := 25) (ci := 13) (vs := [.retAddr 14]) (st := []) (S2 := [.int v7]) okX13_isWord imX13_isWord seX13_isWord rfl lkX13_119 (tX13_isWord eh3) rfl (ck_is e6) (by decide) rfl (Nat.le_of_ble_eq_true rfl) (Nat.le_of_ble_eq_true rfl) rfl dX13_readRule_22 rfl rfl ?_
  refine V.istore_n (q := 26) (L' := [.ref a0, .int v5, .int v7, Jk, Jk, Jk]) rfl dX13_readRule_25 rfl (by decide) rfl rfl ?_
  refine V.iload_n (q := 27) rfl dX13_readRule_26 rfl rfl ?_
  refine V.if_eq (q := 30) (tgt := 34) dX13_readRule_27 rfl (by decide) (fun c => ?_) (fun c => ?_)
  · rw [if_pos c] at hf
    exact tX13_readRule_34  hf
  · rw [if_neg c] at hf
    refine V.aload_n (q := 31) rfl dX13_readRule_30 rfl rfl ?_
    obtain ⟨_, e8, hf⟩ := bd_ex hf
    obtain ⟨h4, eh4, hf⟩ := bd_ex hf
    refine V.callV (q := 34) (ci := 13) (vs := []) (st := []) (S2 := []) okX13_goesOn imX13_goesOn seX13_goesOn rfl lkX13_116 (tX13_goesOn eh4) rfl (ck_is e8) (by decide) rfl (Nat.le_of_ble_eq_true rfl) (Nat.le_of_ble_eq_true rfl) rfl dX13_readRule_31 rfl rfl ?_
    exact tX13_readRule_34  hf
def fX13_readStamp (h : MH) (a0 : Nat) : Option (MH) := bd (gR h a0 13 4) fun b1 => bd (gI h b1 12 3) fun v2 => bd (ck h a0 13) fun _ => bd (fX13_lineBegins h a0 v2 4) fun h1 => bd (ck h1 a0 13) fun _ => bd2 (fX13_readFresh h1 a0 ) fun w5 h2 => bd (ck h2 a0 13) fun _ => bd2 (fX13_readPart h2 a0 16 0 9) fun v7 h3 => bd (ck h3 a0 13) fun _ => bd (fX13_needs h3 a0 17) fun h4 => bd (ck h4 a0 13) fun _ => bd2 (fX13_readVerdict h4 a0 ) fun v10 h5 => bd (ck h5 a0 13) fun _ => bd2 (fX13_readMarks h5 a0 ) fun v12 h6 => bd (gI h6 a0 13 9) fun v13 => if v13 = 6 then (some h6) else (bd (gR h6 a0 13 4) fun b14 => bd (gI h6 b14 12 3) fun v15 => bd (ck h6 a0 13) fun _ => bd (fX13_names h6 a0 w5 2 v15) fun h7 => bd (gR h7 a0 13 4) fun b17 => bd (gR h7 b17 12 12) fun b18 => bd (gR h7 a0 13 4) fun b19 => bd (gI h7 b19 12 3) fun v20 => bd (tI h7 b18 v20 v7) fun h8 => bd (gR h8 a0 13 4) fun b21 => bd (gR h8 b21 12 13) fun b22 => bd (gR h8 a0 13 4) fun b23 => bd (gI h8 b23 12 3) fun v24 => bd (tI h8 b22 v24 v10) fun h9 => bd (gR h9 a0 13 4) fun b25 => bd (gR h9 b25 12 14) fun b26 => bd (gR h9 a0 13 4) fun b27 => bd (gI h9 b27 12 3) fun v28 => bd (tI h9 b26 v28 v12) fun h10 => bd (gR h10 a0 13 4) fun b29 => bd (gI h10 b29 12 3) fun v30 => bd (pI h10 b29 12 3 (v30 + 1)) fun h11 => some h11)
set_option maxRecDepth 20000 in
theorem tX13_readStamp {h' : MH} {h : MH} {a0 : Nat} (hf : fX13_readStamp h a0 = some h') : VM mX13_readStamp 9 none h' h [.ref a0] := by
  show V TT mX13_readStamp 9 _ h' h 0 [.ref a0, Jk, Jk, Jk, Jk, Jk] []
  unfold fX13_readStamp at hf
  refine V.aload_n (q := 1) rfl dX13_readStamp_0 rfl rfl ?_
  refine V.aload_n (q := 2) rfl dX13_readStamp_1 rfl rfl ?_
  obtain ⟨b1, eb1, hf⟩ := bd_ex hf
  refine V.getR (q := 5) flX13_157 rfl eb1 dX13_readStamp_2 rfl ?_
  obtain ⟨v2, ev2, hf⟩ := bd_ex hf
  refine V.getI (q := 8) flX13_262 rfl ev2 dX13_readStamp_5 rfl ?_
  refine V.iconst (q := 9) (v := 4) (by decide) dX13_readStamp_8 rfl ?_
  obtain ⟨_, e3, hf⟩ := bd_ex hf
  obtain ⟨h1, eh1, hf⟩ := bd_ex hf
  refine V.callV (q := 12) (ci := 13) (vs := [.int v2, .int 4]) (st := []) (S2 := []) okX13_lineBegins imX13_lineBegins seX13_lineBegins rfl lkX13_241 (tX13_lineBegins eh1) rfl (ck_is e3) (by decide) rfl (Nat.le_of_ble_eq_true rfl) (Nat.le_of_ble_eq_true rfl) rfl dX13_readStamp_9 rfl rfl ?_
  refine V.aload_n (q := 13) rfl dX13_readStamp_12 rfl rfl ?_
  obtain ⟨_, e4, hf⟩ := bd_ex hf
  obtain ⟨w5, h2, eh2, hf⟩ := bd2_ex hf
  refine V.callV (q := 16) (ci := 13) (vs := []) (st := []) (S2 := [.long w5]) okX13_readFresh imX13_readFresh seX13_readFresh rfl lkX13_245 (tX13_readFresh eh2) rfl (ck_is e4) (by decide) rfl (Nat.le_of_ble_eq_true rfl) (Nat.le_of_ble_eq_true rfl) rfl dX13_readStamp_13 rfl rfl ?_
  refine V.lstore_n (q := 17) (L' := [.ref a0, .long w5, Jk, Jk, Jk, Jk]) rfl dX13_readStamp_16 rfl (by decide) rfl rfl ?_
  refine V.aload_n (q := 18) rfl dX13_readStamp_17 rfl rfl ?_
  refine V.ldcSw (q := 21) (i := 16) rfl dX13_readStamp_18 rfl ?_
  refine V.iconst (q := 22) (v := 0) (by decide) dX13_readStamp_21 rfl ?_
  refine V.bipush (q := 24) (v := 9) (by decide) dX13_readStamp_22 rfl ?_
  obtain ⟨_, e6, hf⟩ := bd_ex hf
  obtain ⟨v7, h3, eh3, hf⟩ := bd2_ex hf
  refine V.callV (q := 27) (ci := 13) (vs := [.retAddr 16, .int 0, .int 9]) (st := []) (S2 := [.int v7]) okX13_readPart imX13_readPart seX13_readPart rfl lkX13_234 (tX13_readPart eh3) rfl (ck_is e6) (by decide) rfl (Nat.le_of_ble_eq_true rfl) (Nat.le_of_ble_eq_true rfl) rfl dX13_readStamp_24 rfl rfl ?_
  refine V.istore_n (q := 28) (L' := [.ref a0, .long w5, Jk, .int v7, Jk, Jk]) rfl dX13_readStamp_27 rfl (by decide) rfl rfl ?_
  refine V.aload_n (q := 29) rfl dX13_readStamp_28 rfl rfl ?_
  refine V.ldcSw (q := 32) (i := 17) rfl dX13_readStamp_29 rfl ?_
  obtain ⟨_, e8, hf⟩ := bd_ex hf
  obtain ⟨h4, eh4, hf⟩ := bd_ex hf
  refine V.callV (q := 35) (ci := 13) (vs := [.retAddr 17]) (st := []) (S2 := []) okX13_needs imX13_needs seX13_needs rfl lkX13_131 (tX13_needs eh4) rfl (ck_is e8) (by decide) rfl (Nat.le_of_ble_eq_true rfl) (Nat.le_of_ble_eq_true rfl) rfl dX13_readStamp_32 rfl rfl ?_
  refine V.aload_n (q := 36) rfl dX13_readStamp_35 rfl rfl ?_
  obtain ⟨_, e9, hf⟩ := bd_ex hf
  obtain ⟨v10, h5, eh5, hf⟩ := bd2_ex hf
  refine V.callV (q := 39) (ci := 13) (vs := []) (st := []) (S2 := [.int v10]) okX13_readVerdict imX13_readVerdict seX13_readVerdict rfl lkX13_269 (tX13_readVerdict eh5) rfl (ck_is e9) (by decide) rfl (Nat.le_of_ble_eq_true rfl) (Nat.le_of_ble_eq_true rfl) rfl dX13_readStamp_36 rfl rfl ?_
  refine V.istore (q := 41) (L' := [.ref a0, .long w5, Jk, .int v7, .int v10, Jk]) dX13_readStamp_39 rfl (by decide) rfl rfl ?_
  refine V.aload_n (q := 42) rfl dX13_readStamp_41 rfl rfl ?_
  obtain ⟨_, e11, hf⟩ := bd_ex hf
  obtain ⟨v12, h6, eh6, hf⟩ := bd2_ex hf
  refine V.callV (q := 45) (ci := 13) (vs := []) (st := []) (S2 := [.int v12]) okX13_readMarks imX13_readMarks seX13_readMarks rfl lkX13_254 (tX13_readMarks eh6) rfl (ck_is e11) (by decide) rfl (Nat.le_of_ble_eq_true rfl) (Nat.le_of_ble_eq_true rfl) rfl dX13_readStamp_42 rfl rfl ?_
  refine V.istore (q := 47) (L' := [.ref a0, .long w5, Jk, .int v7, .int v10, .int v12]) dX13_readStamp_45 rfl (by decide) rfl rfl ?_
  refine V.aload_n (q := 48) rfl dX13_readStamp_47 rfl rfl ?_
  obtain ⟨v13, ev13, hf⟩ := bd_ex hf
  refine V.getI (q := 51) flX13_80 rfl ev13 dX13_readStamp_48 rfl ?_
  refine V.bipush (q := 53) (v := 6) (by decide) dX13_readStamp_51 rfl ?_
  refine V.icmp_ne (q := 56) (tgt := 57) dX13_readStamp_53 rfl (by decide) (fun c => ?_) (fun c => ?_)
  · rw [if_neg c] at hf
    refine V.aload_n (q := 58) rfl dX13_readStamp_57 rfl rfl ?_
    refine V.lload_n (q := 59) rfl dX13_readStamp_58 rfl rfl ?_
    refine V.iconst (q := 60) (v := 2) (by decide) dX13_readStamp_59 rfl ?_
    refine V.aload_n (q := 61) rfl dX13_readStamp_60 rfl rfl ?_
    obtain ⟨b14, eb14, hf⟩ := bd_ex hf
    refine V.getR (q := 64) flX13_157 rfl eb14 dX13_readStamp_61 rfl ?_
    obtain ⟨v15, ev15, hf⟩ := bd_ex hf
    refine V.getI (q := 67) flX13_262 rfl ev15 dX13_readStamp_64 rfl ?_
    obtain ⟨_, e16, hf⟩ := bd_ex hf
    obtain ⟨h7, eh7, hf⟩ := bd_ex hf
    refine V.callV (q := 70) (ci := 13) (vs := [.long w5, .int 2, .int v15]) (st := []) (S2 := []) okX13_names imX13_names seX13_names rfl lkX13_249 (tX13_names eh7) rfl (ck_is e16) (by decide) rfl (Nat.le_of_ble_eq_true rfl) (Nat.le_of_ble_eq_true rfl) rfl dX13_readStamp_67 rfl rfl ?_
    refine V.aload_n (q := 71) rfl dX13_readStamp_70 rfl rfl ?_
    obtain ⟨b17, eb17, hf⟩ := bd_ex hf
    refine V.getR (q := 74) flX13_157 rfl eb17 dX13_readStamp_71 rfl ?_
    obtain ⟨b18, eb18, hf⟩ := bd_ex hf
    refine V.getR (q := 77) flX13_272 rfl eb18 dX13_readStamp_74 rfl ?_
    refine V.aload_n (q := 78) rfl dX13_readStamp_77 rfl rfl ?_
    obtain ⟨b19, eb19, hf⟩ := bd_ex hf
    refine V.getR (q := 81) flX13_157 rfl eb19 dX13_readStamp_78 rfl ?_
    obtain ⟨v20, ev20, hf⟩ := bd_ex hf
    refine V.getI (q := 84) flX13_262 rfl ev20 dX13_readStamp_81 rfl ?_
    refine V.iload_n (q := 85) rfl dX13_readStamp_84 rfl rfl ?_
    obtain ⟨h8, eh8, hf⟩ := bd_ex hf
    refine V.iast (q := 86) eh8 dX13_readStamp_85 rfl ?_
    refine V.aload_n (q := 87) rfl dX13_readStamp_86 rfl rfl ?_
    obtain ⟨b21, eb21, hf⟩ := bd_ex hf
    refine V.getR (q := 90) flX13_157 rfl eb21 dX13_readStamp_87 rfl ?_
    obtain ⟨b22, eb22, hf⟩ := bd_ex hf
    refine V.getR (q := 93) flX13_274 rfl eb22 dX13_readStamp_90 rfl ?_
    refine V.aload_n (q := 94) rfl dX13_readStamp_93 rfl rfl ?_
    obtain ⟨b23, eb23, hf⟩ := bd_ex hf
    refine V.getR (q := 97) flX13_157 rfl eb23 dX13_readStamp_94 rfl ?_
    obtain ⟨v24, ev24, hf⟩ := bd_ex hf
    refine V.getI (q := 100) flX13_262 rfl ev24 dX13_readStamp_97 rfl ?_
    refine V.iload (q := 102) dX13_readStamp_100 rfl rfl ?_
    obtain ⟨h9, eh9, hf⟩ := bd_ex hf
    refine V.iast (q := 103) eh9 dX13_readStamp_102 rfl ?_
    refine V.aload_n (q := 104) rfl dX13_readStamp_103 rfl rfl ?_
    obtain ⟨b25, eb25, hf⟩ := bd_ex hf
    refine V.getR (q := 107) flX13_157 rfl eb25 dX13_readStamp_104 rfl ?_
    obtain ⟨b26, eb26, hf⟩ := bd_ex hf
    refine V.getR (q := 110) flX13_277 rfl eb26 dX13_readStamp_107 rfl ?_
    refine V.aload_n (q := 111) rfl dX13_readStamp_110 rfl rfl ?_
    obtain ⟨b27, eb27, hf⟩ := bd_ex hf
    refine V.getR (q := 114) flX13_157 rfl eb27 dX13_readStamp_111 rfl ?_
    obtain ⟨v28, ev28, hf⟩ := bd_ex hf
    refine V.getI (q := 117) flX13_262 rfl ev28 dX13_readStamp_114 rfl ?_
    refine V.iload (q := 119) dX13_readStamp_117 rfl rfl ?_
    obtain ⟨h10, eh10, hf⟩ := bd_ex hf
    refine V.iast (q := 120) eh10 dX13_readStamp_119 rfl ?_
    refine V.aload_n (q := 121) rfl dX13_readStamp_120 rfl rfl ?_
    obtain ⟨b29, eb29, hf⟩ := bd_ex hf
    refine V.getR (q := 124) flX13_157 rfl eb29 dX13_readStamp_121 rfl ?_
    refine V.dupR (q := 125) dX13_readStamp_124 rfl ?_
    obtain ⟨v30, ev30, hf⟩ := bd_ex hf
    refine V.getI (q := 128) flX13_262 rfl ev30 dX13_readStamp_125 rfl ?_
    refine V.iconst (q := 129) (v := 1) (by decide) dX13_readStamp_128 rfl ?_
    refine V.iadd (q := 130) dX13_readStamp_129 rfl ?_
    obtain ⟨h11, eh11, hf⟩ := bd_ex hf
    refine V.putI (q := 133) (fpX13_262 rfl) rfl eh11 dX13_readStamp_130 rfl ?_
    cases hf
    exact V.ret (r := none) trivial dX13_readStamp_133
  · rw [if_pos c] at hf
    cases hf
    exact V.ret (r := none) trivial dX13_readStamp_56
def bX13_readWant_40  (h : MH) (a0 : Nat) (x1 : Int32) : Option (MH) := bd (ck h a0 13) fun _ => bd (fX13_goesOn h a0 ) fun h1 => bd (ck h1 a0 13) fun _ => bd2 (fX13_readVerdict h1 a0 ) fun v3 h2 => bd (gI h2 a0 13 9) fun v4 => if v4 = 6 then (some h2) else (bd (gR h2 a0 13 4) fun b5 => bd (gR h2 b5 12 11) fun b6 => bd (tI h2 b6 x1 v3) fun h3 => bd (gR h3 a0 13 4) fun b7 => bd (gI h3 b7 12 6) fun v8 => bd (pI h3 b7 12 6 (v8 + 1)) fun h4 => some h4)
set_option maxRecDepth 20000 in
theorem tX13_readWant_40 {h' : MH}   {h : MH} {a0 : Nat} {x1 : Int32} (hf : bX13_readWant_40  h a0 x1 = some h') : V TT mX13_readWant 8 none h' h 40 [.ref a0, .int x1, Jk] [] := by
  unfold bX13_readWant_40 at hf
  refine V.aload_n (q := 41) rfl dX13_readWant_40 rfl rfl ?_
  obtain ⟨_, e1, hf⟩ := bd_ex hf
  obtain ⟨h1, eh1, hf⟩ := bd_ex hf
  refine V.callV (q := 44) (ci := 13) (vs := []) (st := []) (S2 := []) okX13_goesOn imX13_goesOn seX13_goesOn rfl lkX13_116 (tX13_goesOn eh1) rfl (ck_is e1) (by decide) rfl (Nat.le_of_ble_eq_true rfl) (Nat.le_of_ble_eq_true rfl) rfl dX13_readWant_41 rfl rfl ?_
  refine V.aload_n (q := 45) rfl dX13_readWant_44 rfl rfl ?_
  obtain ⟨_, e2, hf⟩ := bd_ex hf
  obtain ⟨v3, h2, eh2, hf⟩ := bd2_ex hf
  refine V.callV (q := 48) (ci := 13) (vs := []) (st := []) (S2 := [.int v3]) okX13_readVerdict imX13_readVerdict seX13_readVerdict rfl lkX13_269 (tX13_readVerdict eh2) rfl (ck_is e2) (by decide) rfl (Nat.le_of_ble_eq_true rfl) (Nat.le_of_ble_eq_true rfl) rfl dX13_readWant_45 rfl rfl ?_
  refine V.istore_n (q := 49) (L' := [.ref a0, .int x1, .int v3]) rfl dX13_readWant_48 rfl (by decide) rfl rfl ?_
  refine V.aload_n (q := 50) rfl dX13_readWant_49 rfl rfl ?_
  obtain ⟨v4, ev4, hf⟩ := bd_ex hf
  refine V.getI (q := 53) flX13_80 rfl ev4 dX13_readWant_50 rfl ?_
  refine V.bipush (q := 55) (v := 6) (by decide) dX13_readWant_53 rfl ?_
  refine V.icmp_ne (q := 58) (tgt := 59) dX13_readWant_55 rfl (by decide) (fun c => ?_) (fun c => ?_)
  · rw [if_neg c] at hf
    refine V.aload_n (q := 60) rfl dX13_readWant_59 rfl rfl ?_
    obtain ⟨b5, eb5, hf⟩ := bd_ex hf
    refine V.getR (q := 63) flX13_157 rfl eb5 dX13_readWant_60 rfl ?_
    obtain ⟨b6, eb6, hf⟩ := bd_ex hf
    refine V.getR (q := 66) flX13_315 rfl eb6 dX13_readWant_63 rfl ?_
    refine V.iload_n (q := 67) rfl dX13_readWant_66 rfl rfl ?_
    refine V.iload_n (q := 68) rfl dX13_readWant_67 rfl rfl ?_
    obtain ⟨h3, eh3, hf⟩ := bd_ex hf
    refine V.iast (q := 69) eh3 dX13_readWant_68 rfl ?_
    refine V.aload_n (q := 70) rfl dX13_readWant_69 rfl rfl ?_
    obtain ⟨b7, eb7, hf⟩ := bd_ex hf
    refine V.getR (q := 73) flX13_157 rfl eb7 dX13_readWant_70 rfl ?_
    refine V.dupR (q := 74) dX13_readWant_73 rfl ?_
    obtain ⟨v8, ev8, hf⟩ := bd_ex hf
    refine V.getI (q := 77) flX13_317 rfl ev8 dX13_readWant_74 rfl ?_
    refine V.iconst (q := 78) (v := 1) (by decide) dX13_readWant_77 rfl ?_
    refine V.iadd (q := 79) dX13_readWant_78 rfl ?_
    obtain ⟨h4, eh4, hf⟩ := bd_ex hf
    refine V.putI (q := 82) (fpX13_317 rfl) rfl eh4 dX13_readWant_79 rfl ?_
    cases hf
    exact V.ret (r := none) trivial dX13_readWant_82
  · rw [if_pos c] at hf
    cases hf
    exact V.ret (r := none) trivial dX13_readWant_58
def fX13_readWant (h : MH) (a0 : Nat) : Option (MH) := bd (ck h a0 13) fun _ => bd (fX13_lineBegins h a0 0 1) fun h1 => bd (ck h1 a0 13) fun _ => bd2 (fX13_knownOne h1 a0 1) fun v3 h2 => bd (gI h2 a0 13 9) fun v4 => if v4 = 6 then (bX13_readWant_40 h2 a0 v3) else (bd (gR h2 a0 13 4) fun b5 => bd (gR h2 b5 12 11) fun b6 => bd (lI h2 b6 v3) fun v7 => if v7 = (-2) then (bX13_readWant_40 h2 a0 v3) else (bd (ck h2 a0 13) fun _ => bd (fX13_flaw h2 a0 3) fun h3 => bX13_readWant_40 h3 a0 v3))
set_option maxRecDepth 20000 in
theorem tX13_readWant {h' : MH} {h : MH} {a0 : Nat} (hf : fX13_readWant h a0 = some h') : VM mX13_readWant 8 none h' h [.ref a0] := by
  show V TT mX13_readWant 8 _ h' h 0 [.ref a0, Jk, Jk] []
  unfold fX13_readWant at hf
  refine V.aload_n (q := 1) rfl dX13_readWant_0 rfl rfl ?_
  refine V.iconst (q := 2) (v := 0) (by decide) dX13_readWant_1 rfl ?_
  refine V.iconst (q := 3) (v := 1) (by decide) dX13_readWant_2 rfl ?_
  obtain ⟨_, e1, hf⟩ := bd_ex hf
  obtain ⟨h1, eh1, hf⟩ := bd_ex hf
  refine V.callV (q := 6) (ci := 13) (vs := [.int 0, .int 1]) (st := []) (S2 := []) okX13_lineBegins imX13_lineBegins seX13_lineBegins rfl lkX13_241 (tX13_lineBegins eh1) rfl (ck_is e1) (by decide) rfl (Nat.le_of_ble_eq_true rfl) (Nat.le_of_ble_eq_true rfl) rfl dX13_readWant_3 rfl rfl ?_
  refine V.aload_n (q := 7) rfl dX13_readWant_6 rfl rfl ?_
  refine V.iconst (q := 8) (v := 1) (by decide) dX13_readWant_7 rfl ?_
  obtain ⟨_, e2, hf⟩ := bd_ex hf
  obtain ⟨v3, h2, eh2, hf⟩ := bd2_ex hf
  refine V.callV (q := 11) (ci := 13) (vs := [.int 1]) (st := []) (S2 := [.int v3]) okX13_knownOne imX13_knownOne seX13_knownOne rfl lkX13_187 (tX13_knownOne eh2) rfl (ck_is e2) (by decide) rfl (Nat.le_of_ble_eq_true rfl) (Nat.le_of_ble_eq_true rfl) rfl dX13_readWant_8 rfl rfl ?_
  refine V.istore_n (q := 12) (L' := [.ref a0, .int v3, Jk]) rfl dX13_readWant_11 rfl (by decide) rfl rfl ?_
  refine V.aload_n (q := 13) rfl dX13_readWant_12 rfl rfl ?_
  obtain ⟨v4, ev4, hf⟩ := bd_ex hf
  refine V.getI (q := 16) flX13_80 rfl ev4 dX13_readWant_13 rfl ?_
  refine V.bipush (q := 18) (v := 6) (by decide) dX13_readWant_16 rfl ?_
  refine V.icmp_eq (q := 21) (tgt := 40) dX13_readWant_18 rfl (by decide) (fun c => ?_) (fun c => ?_)
  · rw [if_pos c] at hf
    exact tX13_readWant_40  hf
  · rw [if_neg c] at hf
    refine V.aload_n (q := 22) rfl dX13_readWant_21 rfl rfl ?_
    obtain ⟨b5, eb5, hf⟩ := bd_ex hf
    refine V.getR (q := 25) flX13_157 rfl eb5 dX13_readWant_22 rfl ?_
    obtain ⟨b6, eb6, hf⟩ := bd_ex hf
    refine V.getR (q := 28) flX13_315 rfl eb6 dX13_readWant_25 rfl ?_
    refine V.iload_n (q := 29) rfl dX13_readWant_28 rfl rfl ?_
    obtain ⟨v7, ev7, hf⟩ := bd_ex hf
    refine V.iald (q := 30) ev7 dX13_readWant_29 rfl ?_
    refine V.bipush (q := 32) (v := (-2)) (by decide) dX13_readWant_30 rfl ?_
    refine V.icmp_eq (q := 35) (tgt := 40) dX13_readWant_32 rfl (by decide) (fun c => ?_) (fun c => ?_)
    · rw [if_pos c] at hf
      exact tX13_readWant_40  hf
    · rw [if_neg c] at hf
      refine V.aload_n (q := 36) rfl dX13_readWant_35 rfl rfl ?_
      refine V.iconst (q := 37) (v := 3) (by decide) dX13_readWant_36 rfl ?_
      obtain ⟨_, e8, hf⟩ := bd_ex hf
      obtain ⟨h3, eh3, hf⟩ := bd_ex hf
      refine V.callV (q := 40) (ci := 13) (vs := [.int 3]) (st := []) (S2 := []) okX13_flaw imX13_flaw seX13_flaw rfl lkX13_123 (tX13_flaw eh3) rfl (ck_is e8) (by decide) rfl (Nat.le_of_ble_eq_true rfl) (Nat.le_of_ble_eq_true rfl) rfl dX13_readWant_37 rfl rfl ?_
      exact tX13_readWant_40  hf
def fX13_readLine (h : MH) (a0 : Nat) : Option (MH) := bd (ck h a0 13) fun _ => bd2 (fX13_isWord h a0 5) fun v2 h1 => if v2 = 0 then (bd (ck h1 a0 13) fun _ => bd2 (fX13_isWord h1 a0 7) fun v4 h2 => if v4 = 0 then (bd (ck h2 a0 13) fun _ => bd2 (fX13_isWord h2 a0 8) fun v6 h3 => if v6 = 0 then (bd (ck h3 a0 13) fun _ => bd2 (fX13_isWord h3 a0 9) fun v8 h4 => if v8 = 0 then (bd (ck h4 a0 13) fun _ => bd2 (fX13_isWord h4 a0 10) fun v10 h5 => if v10 = 0 then (bd (ck h5 a0 13) fun _ => bd2 (fX13_isWord h5 a0 11) fun v12 h6 => if v12 = 0 then (bd (ck h6 a0 13) fun _ => bd2 (fX13_isWord h6 a0 12) fun v14 h7 => if v14 = 0 then (bd (ck h7 a0 13) fun _ => bd2 (fX13_isWord h7 a0 13) fun v16 h8 => if v16 = 0 then (bd (ck h8 a0 13) fun _ => bd (fX13_flaw h8 a0 1) fun h9 => some h9) else (bd (ck h8 a0 13) fun _ => bd (fX13_readPrint h8 a0 ) fun h9 => some h9)) else (bd (ck h7 a0 13) fun _ => bd (fX13_readWant h7 a0 ) fun h8 => some h8)) else (bd (ck h6 a0 13) fun _ => bd (fX13_readHand h6 a0 ) fun h7 => some h7)) else (bd (ck h5 a0 13) fun _ => bd (fX13_readRule h5 a0 ) fun h6 => some h6)) else (bd (ck h4 a0 13) fun _ => bd (fX13_readStamp h4 a0 ) fun h5 => some h5)) else (bd (ck h3 a0 13) fun _ => bd (fX13_readPaper h3 a0 ) fun h4 => some h4)) else (bd (ck h2 a0 13) fun _ => bd (fX13_readMark h2 a0 ) fun h3 => some h3)) else (bd (ck h1 a0 13) fun _ => bd (fX13_readOffice h1 a0 ) fun h2 => some h2)
set_option maxRecDepth 20000 in
theorem tX13_readLine {h' : MH} {h : MH} {a0 : Nat} (hf : fX13_readLine h a0 = some h') : VM mX13_readLine 10 none h' h [.ref a0] := by
  show V TT mX13_readLine 10 _ h' h 0 [.ref a0] []
  unfold fX13_readLine at hf
  refine V.aload_n (q := 1) rfl dX13_readLine_0 rfl rfl ?_
  refine V.ldcS (q := 3) (i := 5) rfl dX13_readLine_1 rfl ?_
  obtain ⟨_, e1, hf⟩ := bd_ex hf
  obtain ⟨v2, h1, eh1, hf⟩ := bd2_ex hf
  refine V.callV (q := 6) (ci := 13) (vs := [.retAddr 5]) (st := []) (S2 := [.int v2]) okX13_isWord imX13_isWord seX13_isWord rfl lkX13_119 (tX13_isWord eh1) rfl (ck_is e1) (by decide) rfl (Nat.le_of_ble_eq_true rfl) (Nat.le_of_ble_eq_true rfl) rfl dX13_readLine_3 rfl rfl ?_
  refine V.if_eq (q := 9) (tgt := 16) dX13_readLine_6 rfl (by decide) (fun c => ?_) (fun c => ?_)
  · rw [if_pos c] at hf
    refine V.aload_n (q := 17) rfl dX13_readLine_16 rfl rfl ?_
    refine V.ldcS (q := 19) (i := 7) rfl dX13_readLine_17 rfl ?_
    obtain ⟨_, e3, hf⟩ := bd_ex hf
    obtain ⟨v4, h2, eh2, hf⟩ := bd2_ex hf
    refine V.callV (q := 22) (ci := 13) (vs := [.retAddr 7]) (st := []) (S2 := [.int v4]) okX13_isWord imX13_isWord seX13_isWord rfl lkX13_119 (tX13_isWord eh2) rfl (ck_is e3) (by decide) rfl (Nat.le_of_ble_eq_true rfl) (Nat.le_of_ble_eq_true rfl) rfl dX13_readLine_19 rfl rfl ?_
    refine V.if_eq (q := 25) (tgt := 32) dX13_readLine_22 rfl (by decide) (fun c => ?_) (fun c => ?_)
    · rw [if_pos c] at hf
      refine V.aload_n (q := 33) rfl dX13_readLine_32 rfl rfl ?_
      refine V.ldcS (q := 35) (i := 8) rfl dX13_readLine_33 rfl ?_
      obtain ⟨_, e5, hf⟩ := bd_ex hf
      obtain ⟨v6, h3, eh3, hf⟩ := bd2_ex hf
      refine V.callV (q := 38) (ci := 13) (vs := [.retAddr 8]) (st := []) (S2 := [.int v6]) okX13_isWord imX13_isWord seX13_isWord rfl lkX13_119 (tX13_isWord eh3) rfl (ck_is e5) (by decide) rfl (Nat.le_of_ble_eq_true rfl) (Nat.le_of_ble_eq_true rfl) rfl dX13_readLine_35 rfl rfl ?_
      refine V.if_eq (q := 41) (tgt := 48) dX13_readLine_38 rfl (by decide) (fun c => ?_) (fun c => ?_)
      · rw [if_pos c] at hf
        refine V.aload_n (q := 49) rfl dX13_readLine_48 rfl rfl ?_
        refine V.ldcS (q := 51) (i := 9) rfl dX13_readLine_49 rfl ?_
        obtain ⟨_, e7, hf⟩ := bd_ex hf
        obtain ⟨v8, h4, eh4, hf⟩ := bd2_ex hf
        refine V.callV (q := 54) (ci := 13) (vs := [.retAddr 9]) (st := []) (S2 := [.int v8]) okX13_isWord imX13_isWord seX13_isWord rfl lkX13_119 (tX13_isWord eh4) rfl (ck_is e7) (by decide) rfl (Nat.le_of_ble_eq_true rfl) (Nat.le_of_ble_eq_true rfl) rfl dX13_readLine_51 rfl rfl ?_
        refine V.if_eq (q := 57) (tgt := 64) dX13_readLine_54 rfl (by decide) (fun c => ?_) (fun c => ?_)
        · rw [if_pos c] at hf
          refine V.aload_n (q := 65) rfl dX13_readLine_64 rfl rfl ?_
          refine V.ldcS (q := 67) (i := 10) rfl dX13_readLine_65 rfl ?_
          obtain ⟨_, e9, hf⟩ := bd_ex hf
          obtain ⟨v10, h5, eh5, hf⟩ := bd2_ex hf
          refine V.callV (q := 70) (ci := 13) (vs := [.retAddr 10]) (st := []) (S2 := [.int v10]) okX13_isWord imX13_isWord seX13_isWord rfl lkX13_119 (tX13_isWord eh5) rfl (ck_is e9) (by decide) rfl (Nat.le_of_ble_eq_true rfl) (Nat.le_of_ble_eq_true rfl) rfl dX13_readLine_67 rfl rfl ?_
          refine V.if_eq (q := 73) (tgt := 80) dX13_readLine_70 rfl (by decide) (fun c => ?_) (fun c => ?_)
          · rw [if_pos c] at hf
            refine V.aload_n (q := 81) rfl dX13_readLine_80 rfl rfl ?_
            refine V.ldcS (q := 83) (i := 11) rfl dX13_readLine_81 rfl ?_
            obtain ⟨_, e11, hf⟩ := bd_ex hf
            obtain ⟨v12, h6, eh6, hf⟩ := bd2_ex hf
            refine V.callV (q := 86) (ci := 13) (vs := [.retAddr 11]) (st := []) (S2 := [.int v12]) okX13_isWord imX13_isWord seX13_isWord rfl lkX13_119 (tX13_isWord eh6) rfl (ck_is e11) (by decide) rfl (Nat.le_of_ble_eq_true rfl) (Nat.le_of_ble_eq_true rfl) rfl dX13_readLine_83 rfl rfl ?_
            refine V.if_eq (q := 89) (tgt := 96) dX13_readLine_86 rfl (by decide) (fun c => ?_) (fun c => ?_)
            · rw [if_pos c] at hf
              refine V.aload_n (q := 97) rfl dX13_readLine_96 rfl rfl ?_
              refine V.ldcS (q := 99) (i := 12) rfl dX13_readLine_97 rfl ?_
              obtain ⟨_, e13, hf⟩ := bd_ex hf
              obtain ⟨v14, h7, eh7, hf⟩ := bd2_ex hf
              refine V.callV (q := 102) (ci := 13) (vs := [.retAddr 12]) (st := []) (S2 := [.int v14]) okX13_isWord imX13_isWord seX13_isWord rfl lkX13_119 (tX13_isWord eh7) rfl (ck_is e13) (by decide) rfl (Nat.le_of_ble_eq_true rfl) (Nat.le_of_ble_eq_true rfl) rfl dX13_readLine_99 rfl rfl ?_
              refine V.if_eq (q := 105) (tgt := 112) dX13_readLine_102 rfl (by decide) (fun c => ?_) (fun c => ?_)
              · rw [if_pos c] at hf
                refine V.aload_n (q := 113) rfl dX13_readLine_112 rfl rfl ?_
                refine V.ldcS (q := 115) (i := 13) rfl dX13_readLine_113 rfl ?_
                obtain ⟨_, e15, hf⟩ := bd_ex hf
                obtain ⟨v16, h8, eh8, hf⟩ := bd2_ex hf
                refine V.callV (q := 118) (ci := 13) (vs := [.retAddr 13]) (st := []) (S2 := [.int v16]) okX13_isWord imX13_isWord seX13_isWord rfl lkX13_119 (tX13_isWord eh8) rfl (ck_is e15) (by decide) rfl (Nat.le_of_ble_eq_true rfl) (Nat.le_of_ble_eq_true rfl) rfl dX13_readLine_115 rfl rfl ?_
                refine V.if_eq (q := 121) (tgt := 128) dX13_readLine_118 rfl (by decide) (fun c => ?_) (fun c => ?_)
                · rw [if_pos c] at hf
                  refine V.aload_n (q := 129) rfl dX13_readLine_128 rfl rfl ?_
                  refine V.iconst (q := 130) (v := 1) (by decide) dX13_readLine_129 rfl ?_
                  obtain ⟨_, e17, hf⟩ := bd_ex hf
                  obtain ⟨h9, eh9, hf⟩ := bd_ex hf
                  refine V.callV (q := 133) (ci := 13) (vs := [.int 1]) (st := []) (S2 := []) okX13_flaw imX13_flaw seX13_flaw rfl lkX13_123 (tX13_flaw eh9) rfl (ck_is e17) (by decide) rfl (Nat.le_of_ble_eq_true rfl) (Nat.le_of_ble_eq_true rfl) rfl dX13_readLine_130 rfl rfl ?_
                  cases hf
                  exact V.ret (r := none) trivial dX13_readLine_133
                · rw [if_neg c] at hf
                  refine V.aload_n (q := 122) rfl dX13_readLine_121 rfl rfl ?_
                  obtain ⟨_, e17, hf⟩ := bd_ex hf
                  obtain ⟨h9, eh9, hf⟩ := bd_ex hf
                  refine V.callV (q := 125) (ci := 13) (vs := []) (st := []) (S2 := []) okX13_readPrint imX13_readPrint seX13_readPrint rfl lkX13_230 (tX13_readPrint eh9) rfl (ck_is e17) (by decide) rfl (Nat.le_of_ble_eq_true rfl) (Nat.le_of_ble_eq_true rfl) rfl dX13_readLine_122 rfl rfl ?_
                  refine V.goto (q := 133) dX13_readLine_125 (by decide) ?_
                  cases hf
                  exact V.ret (r := none) trivial dX13_readLine_133
              · rw [if_neg c] at hf
                refine V.aload_n (q := 106) rfl dX13_readLine_105 rfl rfl ?_
                obtain ⟨_, e15, hf⟩ := bd_ex hf
                obtain ⟨h8, eh8, hf⟩ := bd_ex hf
                refine V.callV (q := 109) (ci := 13) (vs := []) (st := []) (S2 := []) okX13_readWant imX13_readWant seX13_readWant rfl lkX13_227 (tX13_readWant eh8) rfl (ck_is e15) (by decide) rfl (Nat.le_of_ble_eq_true rfl) (Nat.le_of_ble_eq_true rfl) rfl dX13_readLine_106 rfl rfl ?_
                refine V.goto (q := 133) dX13_readLine_109 (by decide) ?_
                cases hf
                exact V.ret (r := none) trivial dX13_readLine_133
            · rw [if_neg c] at hf
              refine V.aload_n (q := 90) rfl dX13_readLine_89 rfl rfl ?_
              obtain ⟨_, e13, hf⟩ := bd_ex hf
              obtain ⟨h7, eh7, hf⟩ := bd_ex hf
              refine V.callV (q := 93) (ci := 13) (vs := []) (st := []) (S2 := []) okX13_readHand imX13_readHand seX13_readHand rfl lkX13_224 (tX13_readHand eh7) rfl (ck_is e13) (by decide) rfl (Nat.le_of_ble_eq_true rfl) (Nat.le_of_ble_eq_true rfl) rfl dX13_readLine_90 rfl rfl ?_
              refine V.goto (q := 133) dX13_readLine_93 (by decide) ?_
              cases hf
              exact V.ret (r := none) trivial dX13_readLine_133
          · rw [if_neg c] at hf
            refine V.aload_n (q := 74) rfl dX13_readLine_73 rfl rfl ?_
            obtain ⟨_, e11, hf⟩ := bd_ex hf
            obtain ⟨h6, eh6, hf⟩ := bd_ex hf
            refine V.callV (q := 77) (ci := 13) (vs := []) (st := []) (S2 := []) okX13_readRule imX13_readRule seX13_readRule rfl lkX13_221 (tX13_readRule eh6) rfl (ck_is e11) (by decide) rfl (Nat.le_of_ble_eq_true rfl) (Nat.le_of_ble_eq_true rfl) rfl dX13_readLine_74 rfl rfl ?_
            refine V.goto (q := 133) dX13_readLine_77 (by decide) ?_
            cases hf
            exact V.ret (r := none) trivial dX13_readLine_133
        · rw [if_neg c] at hf
          refine V.aload_n (q := 58) rfl dX13_readLine_57 rfl rfl ?_
          obtain ⟨_, e9, hf⟩ := bd_ex hf
          obtain ⟨h5, eh5, hf⟩ := bd_ex hf
          refine V.callV (q := 61) (ci := 13) (vs := []) (st := []) (S2 := []) okX13_readStamp imX13_readStamp seX13_readStamp rfl lkX13_218 (tX13_readStamp eh5) rfl (ck_is e9) (by decide) rfl (Nat.le_of_ble_eq_true rfl) (Nat.le_of_ble_eq_true rfl) rfl dX13_readLine_58 rfl rfl ?_
          refine V.goto (q := 133) dX13_readLine_61 (by decide) ?_
          cases hf
          exact V.ret (r := none) trivial dX13_readLine_133
      · rw [if_neg c] at hf
        refine V.aload_n (q := 42) rfl dX13_readLine_41 rfl rfl ?_
        obtain ⟨_, e7, hf⟩ := bd_ex hf
        obtain ⟨h4, eh4, hf⟩ := bd_ex hf
        refine V.callV (q := 45) (ci := 13) (vs := []) (st := []) (S2 := []) okX13_readPaper imX13_readPaper seX13_readPaper rfl lkX13_215 (tX13_readPaper eh4) rfl (ck_is e7) (by decide) rfl (Nat.le_of_ble_eq_true rfl) (Nat.le_of_ble_eq_true rfl) rfl dX13_readLine_42 rfl rfl ?_
        refine V.goto (q := 133) dX13_readLine_45 (by decide) ?_
        cases hf
        exact V.ret (r := none) trivial dX13_readLine_133
    · rw [if_neg c] at hf
      refine V.aload_n (q := 26) rfl dX13_readLine_25 rfl rfl ?_
      obtain ⟨_, e5, hf⟩ := bd_ex hf
      obtain ⟨h3, eh3, hf⟩ := bd_ex hf
      refine V.callV (q := 29) (ci := 13) (vs := []) (st := []) (S2 := []) okX13_readMark imX13_readMark seX13_readMark rfl lkX13_212 (tX13_readMark eh3) rfl (ck_is e5) (by decide) rfl (Nat.le_of_ble_eq_true rfl) (Nat.le_of_ble_eq_true rfl) rfl dX13_readLine_26 rfl rfl ?_
      refine V.goto (q := 133) dX13_readLine_29 (by decide) ?_
      cases hf
      exact V.ret (r := none) trivial dX13_readLine_133
  · rw [if_neg c] at hf
    refine V.aload_n (q := 10) rfl dX13_readLine_9 rfl rfl ?_
    obtain ⟨_, e3, hf⟩ := bd_ex hf
    obtain ⟨h2, eh2, hf⟩ := bd_ex hf
    refine V.callV (q := 13) (ci := 13) (vs := []) (st := []) (S2 := []) okX13_readOffice imX13_readOffice seX13_readOffice rfl lkX13_209 (tX13_readOffice eh2) rfl (ck_is e3) (by decide) rfl (Nat.le_of_ble_eq_true rfl) (Nat.le_of_ble_eq_true rfl) rfl dX13_readLine_10 rfl rfl ?_
    refine V.goto (q := 133) dX13_readLine_13 (by decide) ?_
    cases hf
    exact V.ret (r := none) trivial dX13_readLine_133
def bX13_readAll_32  (h : MH) (a0 : Nat) : Option (MH) := bd (gR h a0 13 4) fun b1 => bd (gI h b1 12 2) fun v2 => if v2 = 0 then (bd (ck h a0 13) fun _ => bd (fX13_flaw h a0 6) fun h1 => some h1) else (some h)
set_option maxRecDepth 20000 in
theorem tX13_readAll_32 {h' : MH}   {h : MH} {a0 : Nat} (hf : bX13_readAll_32  h a0 = some h') : V TT mX13_readAll 11 none h' h 32 [.ref a0, Jk] [] := by
  unfold bX13_readAll_32 at hf
  refine V.aload_n (q := 33) rfl dX13_readAll_32 rfl rfl ?_
  obtain ⟨b1, eb1, hf⟩ := bd_ex hf
  refine V.getR (q := 36) flX13_157 rfl eb1 dX13_readAll_33 rfl ?_
  obtain ⟨v2, ev2, hf⟩ := bd_ex hf
  refine V.getI (q := 39) flX13_206 rfl ev2 dX13_readAll_36 rfl ?_
  refine V.if_ne (q := 42) (tgt := 48) dX13_readAll_39 rfl (by decide) (fun c => ?_) (fun c => ?_)
  · rw [if_neg c] at hf
    cases hf
    exact V.ret (r := none) trivial dX13_readAll_48
  · rw [if_pos c] at hf
    refine V.aload_n (q := 43) rfl dX13_readAll_42 rfl rfl ?_
    refine V.bipush (q := 45) (v := 6) (by decide) dX13_readAll_43 rfl ?_
    obtain ⟨_, e3, hf⟩ := bd_ex hf
    obtain ⟨h1, eh1, hf⟩ := bd_ex hf
    refine V.callV (q := 48) (ci := 13) (vs := [.int 6]) (st := []) (S2 := []) okX13_flaw imX13_flaw seX13_flaw rfl lkX13_123 (tX13_flaw eh1) rfl (ck_is e3) (by decide) rfl (Nat.le_of_ble_eq_true rfl) (Nat.le_of_ble_eq_true rfl) rfl dX13_readAll_45 rfl rfl ?_
    cases hf
    exact V.ret (r := none) trivial dX13_readAll_48
def bX13_readAll_2 (k2 : MH → Nat → Int32 → Option (MH)) (h : MH) (a0 : Nat) (x1 : Int32) : Option (MH) := if x1 = 0 then (bd (gI h a0 13 9) fun v1 => if v1 = 1 then (bX13_readAll_32 h a0) else (bd (ck h a0 13) fun _ => bd (fX13_flaw h a0 1) fun h1 => bX13_readAll_32 h1 a0)) else (bd (ck h a0 13) fun _ => bd (fX13_readLine h a0 ) fun h1 => bd (ck h1 a0 13) fun _ => bd2 (fX13_eats h1 a0 4) fun v3 h2 => k2 h2 a0 v3)
set_option maxRecDepth 20000 in
theorem tX13_readAll_2 {h' : MH} (k2 : MH → Nat → Int32 → Option (MH)) (hk2 : ∀ (h : MH) (a0 : Nat) (x1 : Int32), k2 h a0 x1 = some h' → V TT mX13_readAll 11 none h' h 2 [.ref a0, .int x1] [])  {h : MH} {a0 : Nat} {x1 : Int32} (hf : bX13_readAll_2 k2 h a0 x1 = some h') : V TT mX13_readAll 11 none h' h 2 [.ref a0, .int x1] [] := by
  unfold bX13_readAll_2 at hf
  refine V.iload_n (q := 3) rfl dX13_readAll_2 rfl rfl ?_
  refine V.if_eq (q := 6) (tgt := 19) dX13_readAll_3 rfl (by decide) (fun c => ?_) (fun c => ?_)
  · rw [if_pos c] at hf
    refine V.aload_n (q := 20) rfl dX13_readAll_19 rfl rfl ?_
    obtain ⟨v1, ev1, hf⟩ := bd_ex hf
    refine V.getI (q := 23) flX13_80 rfl ev1 dX13_readAll_20 rfl ?_
    refine V.iconst (q := 24) (v := 1) (by decide) dX13_readAll_23 rfl ?_
    refine V.icmp_eq (q := 27) (tgt := 32) dX13_readAll_24 rfl (by decide) (fun c => ?_) (fun c => ?_)
    · rw [if_pos c] at hf
      refine V.forget (L' := [.ref a0, Jk]) ⟨Or.inr rfl, Or.inl rfl, trivial⟩ ?_
      exact tX13_readAll_32  hf
    · rw [if_neg c] at hf
      refine V.aload_n (q := 28) rfl dX13_readAll_27 rfl rfl ?_
      refine V.iconst (q := 29) (v := 1) (by decide) dX13_readAll_28 rfl ?_
      obtain ⟨_, e2, hf⟩ := bd_ex hf
      obtain ⟨h1, eh1, hf⟩ := bd_ex hf
      refine V.callV (q := 32) (ci := 13) (vs := [.int 1]) (st := []) (S2 := []) okX13_flaw imX13_flaw seX13_flaw rfl lkX13_123 (tX13_flaw eh1) rfl (ck_is e2) (by decide) rfl (Nat.le_of_ble_eq_true rfl) (Nat.le_of_ble_eq_true rfl) rfl dX13_readAll_29 rfl rfl ?_
      refine V.forget (L' := [.ref a0, Jk]) ⟨Or.inr rfl, Or.inl rfl, trivial⟩ ?_
      exact tX13_readAll_32  hf
  · rw [if_neg c] at hf
    refine V.aload_n (q := 7) rfl dX13_readAll_6 rfl rfl ?_
    obtain ⟨_, e1, hf⟩ := bd_ex hf
    obtain ⟨h1, eh1, hf⟩ := bd_ex hf
    refine V.callV (q := 10) (ci := 13) (vs := []) (st := []) (S2 := []) okX13_readLine imX13_readLine seX13_readLine rfl lkX13_203 (tX13_readLine eh1) rfl (ck_is e1) (by decide) rfl (Nat.le_of_ble_eq_true rfl) (Nat.le_of_ble_eq_true rfl) rfl dX13_readAll_7 rfl rfl ?_
    refine V.aload_n (q := 11) rfl dX13_readAll_10 rfl rfl ?_
    refine V.iconst (q := 12) (v := 4) (by decide) dX13_readAll_11 rfl ?_
    obtain ⟨_, e2, hf⟩ := bd_ex hf
    obtain ⟨v3, h2, eh2, hf⟩ := bd2_ex hf
    refine V.callV (q := 15) (ci := 13) (vs := [.int 4]) (st := []) (S2 := [.int v3]) okX13_eats imX13_eats seX13_eats rfl lkX13_196 (tX13_eats eh2) rfl (ck_is e2) (by decide) rfl (Nat.le_of_ble_eq_true rfl) (Nat.le_of_ble_eq_true rfl) rfl dX13_readAll_12 rfl rfl ?_
    refine V.istore_n (q := 16) (L' := [.ref a0, .int v3]) rfl dX13_readAll_15 rfl (by decide) rfl rfl ?_
    refine V.goto (q := 2) dX13_readAll_16 (by decide) ?_
    exact hk2 _ _ _ hf
def fX13_readAll_2  : Nat → MH → Nat → Int32 → Option (MH)
  | 0 => fun _ _ _ => none
  | n + 1 => bX13_readAll_2  (fX13_readAll_2  n)
theorem tlX13_readAll_2 {h' : MH}   : ∀ (n : Nat) (h : MH) (a0 : Nat) (x1 : Int32), fX13_readAll_2  n h a0 x1 = some h' → V TT mX13_readAll 11 none h' h 2 [.ref a0, .int x1] [] := by
  intro n
  induction n with
  | zero => intro h a0 x1 hf; exact nomatch (show (none : Option (MH)) = some h' from hf)
  | succ n ih => intro h a0 x1 hf; exact tX13_readAll_2  (fX13_readAll_2  n) ih hf
def fX13_readAll (h : MH) (a0 : Nat) : Option (MH) := fX13_readAll_2 FU h a0 1
set_option maxRecDepth 20000 in
theorem tX13_readAll {h' : MH} {h : MH} {a0 : Nat} (hf : fX13_readAll h a0 = some h') : VM mX13_readAll 11 none h' h [.ref a0] := by
  show V TT mX13_readAll 11 _ h' h 0 [.ref a0, Jk] []
  unfold fX13_readAll at hf
  refine V.iconst (q := 1) (v := 1) (by decide) dX13_readAll_0 rfl ?_
  refine V.istore_n (q := 2) (L' := [.ref a0, .int 1]) rfl dX13_readAll_1 rfl (by decide) rfl rfl ?_
  exact tlX13_readAll_2  FU _ _ _ hf
def bX13_office_192 (k192 : MH → Nat → Int32 → Option (Int32 × MH)) (h : MH) (a0 : Nat) (x2 : Int32) : Option (Int32 × MH) := if 10 ≤ x2 then (bd (pI h a0 13 18 0) fun h1 => bd (pI h1 a0 13 19 0) fun h2 => bd (gR h2 a0 13 3) fun b1 => bd (gI h2 b1 12 2) fun v2 => bd (ck h2 a0 13) fun _ => bd2 (fX13_good1 h2 a0 v2) fun v4 h3 => some (v4, h3)) else (bd (gR h a0 13 15) fun b1 => bd (gR h a0 13 3) fun b2 => bd (gR h b2 12 18) fun b3 => bd (lI h b3 x2) fun v4 => bd (tI h b1 (21 + x2) v4) fun h1 => bd (some (x2 + 1)) fun v5 => k192 h1 a0 v5)
set_option maxRecDepth 20000 in
theorem tX13_office_192 {r : Int32} {h' : MH} (k192 : MH → Nat → Int32 → Option (Int32 × MH)) (hk192 : ∀ (h : MH) (a0 : Nat) (x2 : Int32), k192 h a0 x2 = some (r, h') → V TT mX13_office 12 (some (.int r)) h' h 192 [.ref a0, Jk, .int x2] [])  {h : MH} {a0 : Nat} {x2 : Int32} (hf : bX13_office_192 k192 h a0 x2 = some (r, h')) : V TT mX13_office 12 (some (.int r)) h' h 192 [.ref a0, Jk, .int x2] [] := by
  unfold bX13_office_192 at hf
  refine V.iload_n (q := 193) rfl dX13_office_192 rfl rfl ?_
  refine V.bipush (q := 195) (v := 10) (by decide) dX13_office_193 rfl ?_
  refine V.icmp_ge (q := 198) (tgt := 222) dX13_office_195 rfl (by decide) (fun c => ?_) (fun c => ?_)
  · rw [if_pos c] at hf
    refine V.aload_n (q := 223) rfl dX13_office_222 rfl rfl ?_
    refine V.iconst (q := 224) (v := 0) (by decide) dX13_office_223 rfl ?_
    obtain ⟨h1, eh1, hf⟩ := bd_ex hf
    refine V.putI (q := 227) (fpX13_340 rfl) rfl eh1 dX13_office_224 rfl ?_
    refine V.aload_n (q := 228) rfl dX13_office_227 rfl rfl ?_
    refine V.iconst (q := 229) (v := 0) (by decide) dX13_office_228 rfl ?_
    obtain ⟨h2, eh2, hf⟩ := bd_ex hf
    refine V.putI (q := 232) (fpX13_343 rfl) rfl eh2 dX13_office_229 rfl ?_
    refine V.aload_n (q := 233) rfl dX13_office_232 rfl rfl ?_
    refine V.aload_n (q := 234) rfl dX13_office_233 rfl rfl ?_
    obtain ⟨b1, eb1, hf⟩ := bd_ex hf
    refine V.getR (q := 237) flX13_338 rfl eb1 dX13_office_234 rfl ?_
    obtain ⟨v2, ev2, hf⟩ := bd_ex hf
    refine V.getI (q := 240) flX13_206 rfl ev2 dX13_office_237 rfl ?_
    obtain ⟨_, e3, hf⟩ := bd_ex hf
    obtain ⟨v4, h3, eh3, hf⟩ := bd2_ex hf
    refine V.callV (q := 243) (ci := 13) (vs := [.int v2]) (st := []) (S2 := [.int v4]) okX13_good1 imX13_good1 seX13_good1 rfl lkX13_58 (tX13_good1 eh3) rfl (ck_is e3) (by decide) rfl (Nat.le_of_ble_eq_true rfl) (Nat.le_of_ble_eq_true rfl) rfl dX13_office_240 rfl rfl ?_
    obtain ⟨rfl, rfl⟩ := ret_inj hf
    exact V.ret (r := some (.int v4)) trivial dX13_office_243
  · rw [if_neg c] at hf
    refine V.aload_n (q := 199) rfl dX13_office_198 rfl rfl ?_
    obtain ⟨b1, eb1, hf⟩ := bd_ex hf
    refine V.getR (q := 202) flX13_17 rfl eb1 dX13_office_199 rfl ?_
    refine V.bipush (q := 204) (v := 21) (by decide) dX13_office_202 rfl ?_
    refine V.iload_n (q := 205) rfl dX13_office_204 rfl rfl ?_
    refine V.iadd (q := 206) dX13_office_205 rfl ?_
    refine V.aload_n (q := 207) rfl dX13_office_206 rfl rfl ?_
    obtain ⟨b2, eb2, hf⟩ := bd_ex hf
    refine V.getR (q := 210) flX13_338 rfl eb2 dX13_office_207 rfl ?_
    obtain ⟨b3, eb3, hf⟩ := bd_ex hf
    refine V.getR (q := 213) flX13_295 rfl eb3 dX13_office_210 rfl ?_
    refine V.iload_n (q := 214) rfl dX13_office_213 rfl rfl ?_
    obtain ⟨v4, ev4, hf⟩ := bd_ex hf
    refine V.iald (q := 215) ev4 dX13_office_214 rfl ?_
    obtain ⟨h1, eh1, hf⟩ := bd_ex hf
    refine V.iast (q := 216) eh1 dX13_office_215 rfl ?_
    obtain ⟨v5, ev5, hf⟩ := bd_ex hf
    refine V.iinc (q := 219) (v := v5) (L' := [.ref a0, Jk, .int v5]) dX13_office_216 rfl rfl (Option.some.inj ev5) (by decide) rfl rfl ?_
    refine V.goto (q := 192) dX13_office_219 (by decide) ?_
    exact hk192 _ _ _ hf
def fX13_office_192  : Nat → MH → Nat → Int32 → Option (Int32 × MH)
  | 0 => fun _ _ _ => none
  | n + 1 => bX13_office_192  (fX13_office_192  n)
theorem tlX13_office_192 {r : Int32} {h' : MH}   : ∀ (n : Nat) (h : MH) (a0 : Nat) (x2 : Int32), fX13_office_192  n h a0 x2 = some (r, h') → V TT mX13_office 12 (some (.int r)) h' h 192 [.ref a0, Jk, .int x2] [] := by
  intro n
  induction n with
  | zero => intro h a0 x2 hf; exact nomatch (show (none : Option (Int32 × MH)) = some (r, h') from hf)
  | succ n ih => intro h a0 x2 hf; exact tX13_office_192  (fX13_office_192  n) ih hf
def bX13_office_150 (k150 : MH → Nat → Int32 → Option (Int32 × MH)) (h : MH) (a0 : Nat) (x2 : Int32) : Option (Int32 × MH) := if 5 ≤ x2 then (fX13_office_192 FU h a0 0) else (bd (gR h a0 13 15) fun b1 => bd (gR h a0 13 3) fun b2 => bd (gR h b2 12 10) fun b3 => bd (lI h b3 x2) fun v4 => bd (tI h b1 (11 + x2) v4) fun h1 => bd (gR h1 a0 13 15) fun b5 => bd (tI h1 b5 (16 + x2) (-2)) fun h2 => bd (some (x2 + 1)) fun v6 => k150 h2 a0 v6)
set_option maxRecDepth 20000 in
theorem tX13_office_150 {r : Int32} {h' : MH} (k150 : MH → Nat → Int32 → Option (Int32 × MH)) (hk150 : ∀ (h : MH) (a0 : Nat) (x2 : Int32), k150 h a0 x2 = some (r, h') → V TT mX13_office 12 (some (.int r)) h' h 150 [.ref a0, Jk, .int x2] [])  {h : MH} {a0 : Nat} {x2 : Int32} (hf : bX13_office_150 k150 h a0 x2 = some (r, h')) : V TT mX13_office 12 (some (.int r)) h' h 150 [.ref a0, Jk, .int x2] [] := by
  unfold bX13_office_150 at hf
  refine V.iload_n (q := 151) rfl dX13_office_150 rfl rfl ?_
  refine V.iconst (q := 152) (v := 5) (by decide) dX13_office_151 rfl ?_
  refine V.icmp_ge (q := 155) (tgt := 190) dX13_office_152 rfl (by decide) (fun c => ?_) (fun c => ?_)
  · rw [if_pos c] at hf
    refine V.iconst (q := 191) (v := 0) (by decide) dX13_office_190 rfl ?_
    refine V.istore_n (q := 192) (L' := [.ref a0, Jk, .int 0]) rfl dX13_office_191 rfl (by decide) rfl rfl ?_
    exact tlX13_office_192  FU _ _ _ hf
  · rw [if_neg c] at hf
    refine V.aload_n (q := 156) rfl dX13_office_155 rfl rfl ?_
    obtain ⟨b1, eb1, hf⟩ := bd_ex hf
    refine V.getR (q := 159) flX13_17 rfl eb1 dX13_office_156 rfl ?_
    refine V.bipush (q := 161) (v := 11) (by decide) dX13_office_159 rfl ?_
    refine V.iload_n (q := 162) rfl dX13_office_161 rfl rfl ?_
    refine V.iadd (q := 163) dX13_office_162 rfl ?_
    refine V.aload_n (q := 164) rfl dX13_office_163 rfl rfl ?_
    obtain ⟨b2, eb2, hf⟩ := bd_ex hf
    refine V.getR (q := 167) flX13_338 rfl eb2 dX13_office_164 rfl ?_
    obtain ⟨b3, eb3, hf⟩ := bd_ex hf
    refine V.getR (q := 170) flX13_259 rfl eb3 dX13_office_167 rfl ?_
    refine V.iload_n (q := 171) rfl dX13_office_170 rfl rfl ?_
    obtain ⟨v4, ev4, hf⟩ := bd_ex hf
    refine V.iald (q := 172) ev4 dX13_office_171 rfl ?_
    obtain ⟨h1, eh1, hf⟩ := bd_ex hf
    refine V.iast (q := 173) eh1 dX13_office_172 rfl ?_
    refine V.aload_n (q := 174) rfl dX13_office_173 rfl rfl ?_
    obtain ⟨b5, eb5, hf⟩ := bd_ex hf
    refine V.getR (q := 177) flX13_17 rfl eb5 dX13_office_174 rfl ?_
    refine V.bipush (q := 179) (v := 16) (by decide) dX13_office_177 rfl ?_
    refine V.iload_n (q := 180) rfl dX13_office_179 rfl rfl ?_
    refine V.iadd (q := 181) dX13_office_180 rfl ?_
    refine V.bipush (q := 183) (v := (-2)) (by decide) dX13_office_181 rfl ?_
    obtain ⟨h2, eh2, hf⟩ := bd_ex hf
    refine V.iast (q := 184) eh2 dX13_office_183 rfl ?_
    obtain ⟨v6, ev6, hf⟩ := bd_ex hf
    refine V.iinc (q := 187) (v := v6) (L' := [.ref a0, Jk, .int v6]) dX13_office_184 rfl rfl (Option.some.inj ev6) (by decide) rfl rfl ?_
    refine V.goto (q := 150) dX13_office_187 (by decide) ?_
    exact hk150 _ _ _ hf
def fX13_office_150  : Nat → MH → Nat → Int32 → Option (Int32 × MH)
  | 0 => fun _ _ _ => none
  | n + 1 => bX13_office_150  (fX13_office_150  n)
theorem tlX13_office_150 {r : Int32} {h' : MH}   : ∀ (n : Nat) (h : MH) (a0 : Nat) (x2 : Int32), fX13_office_150  n h a0 x2 = some (r, h') → V TT mX13_office 12 (some (.int r)) h' h 150 [.ref a0, Jk, .int x2] [] := by
  intro n
  induction n with
  | zero => intro h a0 x2 hf; exact nomatch (show (none : Option (Int32 × MH)) = some (r, h') from hf)
  | succ n ih => intro h a0 x2 hf; exact tX13_office_150  (fX13_office_150  n) ih hf
def bX13_office_120 (k120 : MH → Nat → Int32 → Option (Int32 × MH)) (h : MH) (a0 : Nat) (x2 : Int32) : Option (Int32 × MH) := if 4 ≤ x2 then (fX13_office_150 FU h a0 0) else (bd (gR h a0 13 15) fun b1 => bd (gR h a0 13 3) fun b2 => bd (gR h b2 12 12) fun b3 => bd (lI h b3 x2) fun v4 => bd (tI h b1 (0 + x2) v4) fun h1 => bd (some (x2 + 1)) fun v5 => k120 h1 a0 v5)
set_option maxRecDepth 20000 in
theorem tX13_office_120 {r : Int32} {h' : MH} (k120 : MH → Nat → Int32 → Option (Int32 × MH)) (hk120 : ∀ (h : MH) (a0 : Nat) (x2 : Int32), k120 h a0 x2 = some (r, h') → V TT mX13_office 12 (some (.int r)) h' h 120 [.ref a0, Jk, .int x2] [])  {h : MH} {a0 : Nat} {x2 : Int32} (hf : bX13_office_120 k120 h a0 x2 = some (r, h')) : V TT mX13_office 12 (some (.int r)) h' h 120 [.ref a0, Jk, .int x2] [] := by
  unfold bX13_office_120 at hf
  refine V.iload_n (q := 121) rfl dX13_office_120 rfl rfl ?_
  refine V.iconst (q := 122) (v := 4) (by decide) dX13_office_121 rfl ?_
  refine V.icmp_ge (q := 125) (tgt := 148) dX13_office_122 rfl (by decide) (fun c => ?_) (fun c => ?_)
  · rw [if_pos c] at hf
    refine V.iconst (q := 149) (v := 0) (by decide) dX13_office_148 rfl ?_
    refine V.istore_n (q := 150) (L' := [.ref a0, Jk, .int 0]) rfl dX13_office_149 rfl (by decide) rfl rfl ?_
    exact tlX13_office_150  FU _ _ _ hf
  · rw [if_neg c] at hf
    refine V.aload_n (q := 126) rfl dX13_office_125 rfl rfl ?_
    obtain ⟨b1, eb1, hf⟩ := bd_ex hf
    refine V.getR (q := 129) flX13_17 rfl eb1 dX13_office_126 rfl ?_
    refine V.iconst (q := 130) (v := 0) (by decide) dX13_office_129 rfl ?_
    refine V.iload_n (q := 131) rfl dX13_office_130 rfl rfl ?_
    refine V.iadd (q := 132) dX13_office_131 rfl ?_
    refine V.aload_n (q := 133) rfl dX13_office_132 rfl rfl ?_
    obtain ⟨b2, eb2, hf⟩ := bd_ex hf
    refine V.getR (q := 136) flX13_338 rfl eb2 dX13_office_133 rfl ?_
    obtain ⟨b3, eb3, hf⟩ := bd_ex hf
    refine V.getR (q := 139) flX13_272 rfl eb3 dX13_office_136 rfl ?_
    refine V.iload_n (q := 140) rfl dX13_office_139 rfl rfl ?_
    obtain ⟨v4, ev4, hf⟩ := bd_ex hf
    refine V.iald (q := 141) ev4 dX13_office_140 rfl ?_
    obtain ⟨h1, eh1, hf⟩ := bd_ex hf
    refine V.iast (q := 142) eh1 dX13_office_141 rfl ?_
    obtain ⟨v5, ev5, hf⟩ := bd_ex hf
    refine V.iinc (q := 145) (v := v5) (L' := [.ref a0, Jk, .int v5]) dX13_office_142 rfl rfl (Option.some.inj ev5) (by decide) rfl rfl ?_
    refine V.goto (q := 120) dX13_office_145 (by decide) ?_
    exact hk120 _ _ _ hf
def fX13_office_120  : Nat → MH → Nat → Int32 → Option (Int32 × MH)
  | 0 => fun _ _ _ => none
  | n + 1 => bX13_office_120  (fX13_office_120  n)
theorem tlX13_office_120 {r : Int32} {h' : MH}   : ∀ (n : Nat) (h : MH) (a0 : Nat) (x2 : Int32), fX13_office_120  n h a0 x2 = some (r, h') → V TT mX13_office 12 (some (.int r)) h' h 120 [.ref a0, Jk, .int x2] [] := by
  intro n
  induction n with
  | zero => intro h a0 x2 hf; exact nomatch (show (none : Option (Int32 × MH)) = some (r, h') from hf)
  | succ n ih => intro h a0 x2 hf; exact tX13_office_120  (fX13_office_120  n) ih hf
def bX13_office_99 (k99 : MH → Nat → Int32 → Option (Int32 × MH)) (h : MH) (a0 : Nat) (x2 : Int32) : Option (Int32 × MH) := if 31 ≤ x2 then (fX13_office_120 FU h a0 0) else (bd (gR h a0 13 15) fun b1 => bd (tI h b1 x2 0) fun h1 => bd (some (x2 + 1)) fun v2 => k99 h1 a0 v2)
set_option maxRecDepth 20000 in
theorem tX13_office_99 {r : Int32} {h' : MH} (k99 : MH → Nat → Int32 → Option (Int32 × MH)) (hk99 : ∀ (h : MH) (a0 : Nat) (x2 : Int32), k99 h a0 x2 = some (r, h') → V TT mX13_office 12 (some (.int r)) h' h 99 [.ref a0, Jk, .int x2] [])  {h : MH} {a0 : Nat} {x2 : Int32} (hf : bX13_office_99 k99 h a0 x2 = some (r, h')) : V TT mX13_office 12 (some (.int r)) h' h 99 [.ref a0, Jk, .int x2] [] := by
  unfold bX13_office_99 at hf
  refine V.iload_n (q := 100) rfl dX13_office_99 rfl rfl ?_
  refine V.bipush (q := 102) (v := 31) (by decide) dX13_office_100 rfl ?_
  refine V.icmp_ge (q := 105) (tgt := 118) dX13_office_102 rfl (by decide) (fun c => ?_) (fun c => ?_)
  · rw [if_pos c] at hf
    refine V.iconst (q := 119) (v := 0) (by decide) dX13_office_118 rfl ?_
    refine V.istore_n (q := 120) (L' := [.ref a0, Jk, .int 0]) rfl dX13_office_119 rfl (by decide) rfl rfl ?_
    exact tlX13_office_120  FU _ _ _ hf
  · rw [if_neg c] at hf
    refine V.aload_n (q := 106) rfl dX13_office_105 rfl rfl ?_
    obtain ⟨b1, eb1, hf⟩ := bd_ex hf
    refine V.getR (q := 109) flX13_17 rfl eb1 dX13_office_106 rfl ?_
    refine V.iload_n (q := 110) rfl dX13_office_109 rfl rfl ?_
    refine V.iconst (q := 111) (v := 0) (by decide) dX13_office_110 rfl ?_
    obtain ⟨h1, eh1, hf⟩ := bd_ex hf
    refine V.iast (q := 112) eh1 dX13_office_111 rfl ?_
    obtain ⟨v2, ev2, hf⟩ := bd_ex hf
    refine V.iinc (q := 115) (v := v2) (L' := [.ref a0, Jk, .int v2]) dX13_office_112 rfl rfl (Option.some.inj ev2) (by decide) rfl rfl ?_
    refine V.goto (q := 99) dX13_office_115 (by decide) ?_
    exact hk99 _ _ _ hf
def fX13_office_99  : Nat → MH → Nat → Int32 → Option (Int32 × MH)
  | 0 => fun _ _ _ => none
  | n + 1 => bX13_office_99  (fX13_office_99  n)
theorem tlX13_office_99 {r : Int32} {h' : MH}   : ∀ (n : Nat) (h : MH) (a0 : Nat) (x2 : Int32), fX13_office_99  n h a0 x2 = some (r, h') → V TT mX13_office 12 (some (.int r)) h' h 99 [.ref a0, Jk, .int x2] [] := by
  intro n
  induction n with
  | zero => intro h a0 x2 hf; exact nomatch (show (none : Option (Int32 × MH)) = some (r, h') from hf)
  | succ n ih => intro h a0 x2 hf; exact tX13_office_99  (fX13_office_99  n) ih hf
def fX13_office (h : MH) (a0 : Nat) (x1 : Int32) : Option (Int32 × MH) := bd (pI h a0 13 0 0) fun h1 => if x1 < 0 then (bd (ck h1 a0 13) fun _ => bd2 (fX13_refused h1 a0 2) fun v2 h2 => some (v2, h2)) else (bd (gI h1 a0 13 6) fun v1 => if x1 ≤ v1 then (bd (pI h1 a0 13 7 x1) fun h2 => bd (pI h2 a0 13 6 0) fun h3 => bd (pI h3 a0 13 8 0) fun h4 => bd (pI h4 a0 13 12 0) fun h5 => bd2 (nO h5 12) fun b2 h6 => bd (fX12_init h6 b2 ) fun h7 => bd (pR h7 a0 13 4 b2) fun h8 => bd (pI h8 a0 13 9 0) fun h9 => bd (ck h9 a0 13) fun _ => bd (fX13_goesOn h9 a0 ) fun h10 => bd (ck h10 a0 13) fun _ => bd (fX13_readAll h10 a0 ) fun h11 => bd (gI h11 a0 13 12) fun v5 => if v5 ≤ 0 then (bd (gR h11 a0 13 4) fun b6 => bd (pR h11 a0 13 3 b6) fun h12 => fX13_office_99 FU h12 a0 0) else (bd (pI h11 a0 13 1 4) fun h12 => bd (gI h12 a0 13 13) fun v6 => bd (pI h12 a0 13 2 v6) fun h13 => some ((-1), h13))) else (bd (ck h1 a0 13) fun _ => bd2 (fX13_refused h1 a0 2) fun v3 h2 => some (v3, h2)))
set_option maxRecDepth 20000 in
theorem tX13_office {r : Int32} {h' : MH} {h : MH} {a0 : Nat} {x1 : Int32} (hf : fX13_office h a0 x1 = some (r, h')) : VM mX13_office 12 (some (.int r)) h' h [.ref a0, .int x1] := by
  show V TT mX13_office 12 _ h' h 0 [.ref a0, .int x1, Jk] []
  unfold fX13_office at hf
  refine V.aload_n (q := 1) rfl dX13_office_0 rfl rfl ?_
  refine V.iconst (q := 2) (v := 0) (by decide) dX13_office_1 rfl ?_
  obtain ⟨h1, eh1, hf⟩ := bd_ex hf
  refine V.putI (q := 5) (fpX13_48 rfl) rfl eh1 dX13_office_2 rfl ?_
  refine V.iload_n (q := 6) rfl dX13_office_5 rfl rfl ?_
  refine V.if_lt (q := 9) (tgt := 17) dX13_office_6 rfl (by decide) (fun c => ?_) (fun c => ?_)
  · rw [if_pos c] at hf
    refine V.aload_n (q := 18) rfl dX13_office_17 rfl rfl ?_
    refine V.iconst (q := 19) (v := 2) (by decide) dX13_office_18 rfl ?_
    obtain ⟨_, e1, hf⟩ := bd_ex hf
    obtain ⟨v2, h2, eh2, hf⟩ := bd2_ex hf
    refine V.callV (q := 22) (ci := 13) (vs := [.int 2]) (st := []) (S2 := [.int v2]) okX13_refused imX13_refused seX13_refused rfl lkX13_54 (tX13_refused eh2) rfl (ck_is e1) (by decide) rfl (Nat.le_of_ble_eq_true rfl) (Nat.le_of_ble_eq_true rfl) rfl dX13_office_19 rfl rfl ?_
    obtain ⟨rfl, rfl⟩ := ret_inj hf
    exact V.ret (r := some (.int v2)) trivial dX13_office_22
  · rw [if_neg c] at hf
    refine V.iload_n (q := 10) rfl dX13_office_9 rfl rfl ?_
    refine V.aload_n (q := 11) rfl dX13_office_10 rfl rfl ?_
    obtain ⟨v1, ev1, hf⟩ := bd_ex hf
    refine V.getI (q := 14) flX13_331 rfl ev1 dX13_office_11 rfl ?_
    refine V.icmp_le (q := 17) (tgt := 23) dX13_office_14 rfl (by decide) (fun c => ?_) (fun c => ?_)
    · rw [if_pos c] at hf
      refine V.aload_n (q := 24) rfl dX13_office_23 rfl rfl ?_
      refine V.iload_n (q := 25) rfl dX13_office_24 rfl rfl ?_
      obtain ⟨h2, eh2, hf⟩ := bd_ex hf
      refine V.putI (q := 28) (fpX13_65 rfl) rfl eh2 dX13_office_25 rfl ?_
      refine V.aload_n (q := 29) rfl dX13_office_28 rfl rfl ?_
      refine V.iconst (q := 30) (v := 0) (by decide) dX13_office_29 rfl ?_
      obtain ⟨h3, eh3, hf⟩ := bd_ex hf
      refine V.putI (q := 33) (fpX13_331 rfl) rfl eh3 dX13_office_30 rfl ?_
      refine V.aload_n (q := 34) rfl dX13_office_33 rfl rfl ?_
      refine V.iconst (q := 35) (v := 0) (by decide) dX13_office_34 rfl ?_
      obtain ⟨h4, eh4, hf⟩ := bd_ex hf
      refine V.putI (q := 38) (fpX13_83 rfl) rfl eh4 dX13_office_35 rfl ?_
      refine V.aload_n (q := 39) rfl dX13_office_38 rfl rfl ?_
      refine V.iconst (q := 40) (v := 0) (by decide) dX13_office_39 rfl ?_
      obtain ⟨h5, eh5, hf⟩ := bd_ex hf
      refine V.putI (q := 43) (fpX13_106 rfl) rfl eh5 dX13_office_40 rfl ?_
      refine V.aload_n (q := 44) rfl dX13_office_43 rfl rfl ?_
      obtain ⟨b2, h6, eh6, hf⟩ := bd2_ex hf
      obtain ⟨rfl, rfl⟩ := ret_inj eh6
      refine V.new (q := 47) nlX13_162 dX13_office_44 rfl ?_
      generalize hqh6 : nC h5 12 0 = h6 at hf ⊢
      generalize hph6 : h5.2.2.2.length = b2 at hf ⊢
      refine V.dupR (q := 48) dX13_office_47 rfl ?_
      obtain ⟨h7, eh7, hf⟩ := bd_ex hf
      refine V.callI (q := 51) (vs := []) (st := [.ref b2, .ref a0]) (S2 := [.ref b2, .ref a0]) okX12_init imX12_init ⟨rfl, rfl⟩ lkX13_334 (tX12_init eh7) rfl (by decide) rfl (Nat.le_of_ble_eq_true rfl) (Nat.le_of_ble_eq_true rfl) rfl dX13_office_48 rfl rfl ?_
      obtain ⟨h8, eh8, hf⟩ := bd_ex hf
      refine V.putR (q := 54) (fpX13_157 rfl) rfl eh8 dX13_office_51 rfl ?_
      refine V.aload_n (q := 55) rfl dX13_office_54 rfl rfl ?_
      refine V.iconst (q := 56) (v := 0) (by decide) dX13_office_55 rfl ?_
      obtain ⟨h9, eh9, hf⟩ := bd_ex hf
      refine V.putI (q := 59) (fpX13_80 rfl) rfl eh9 dX13_office_56 rfl ?_
      refine V.aload_n (q := 60) rfl dX13_office_59 rfl rfl ?_
      obtain ⟨_, e3, hf⟩ := bd_ex hf
      obtain ⟨h10, eh10, hf⟩ := bd_ex hf
      refine V.callV (q := 63) (ci := 13) (vs := []) (st := []) (S2 := []) okX13_goesOn imX13_goesOn seX13_goesOn rfl lkX13_116 (tX13_goesOn eh10) rfl (ck_is e3) (by decide) rfl (Nat.le_of_ble_eq_true rfl) (Nat.le_of_ble_eq_true rfl) rfl dX13_office_60 rfl rfl ?_
      refine V.aload_n (q := 64) rfl dX13_office_63 rfl rfl ?_
      obtain ⟨_, e4, hf⟩ := bd_ex hf
      obtain ⟨h11, eh11, hf⟩ := bd_ex hf
      refine V.callV (q := 67) (ci := 13) (vs := []) (st := []) (S2 := []) okX13_readAll imX13_readAll seX13_readAll rfl lkX13_335 (tX13_readAll eh11) rfl (ck_is e4) (by decide) rfl (Nat.le_of_ble_eq_true rfl) (Nat.le_of_ble_eq_true rfl) rfl dX13_office_64 rfl rfl ?_
      refine V.aload_n (q := 68) rfl dX13_office_67 rfl rfl ?_
      obtain ⟨v5, ev5, hf⟩ := bd_ex hf
      refine V.getI (q := 71) flX13_106 rfl ev5 dX13_office_68 rfl ?_
      refine V.if_le (q := 74) (tgt := 89) dX13_office_71 rfl (by decide) (fun c => ?_) (fun c => ?_)
      · rw [if_pos c] at hf
        refine V.aload_n (q := 90) rfl dX13_office_89 rfl rfl ?_
        refine V.aload_n (q := 91) rfl dX13_office_90 rfl rfl ?_
        obtain ⟨b6, eb6, hf⟩ := bd_ex hf
        refine V.getR (q := 94) flX13_157 rfl eb6 dX13_office_91 rfl ?_
        obtain ⟨h12, eh12, hf⟩ := bd_ex hf
        refine V.putR (q := 97) (fpX13_338 rfl) rfl eh12 dX13_office_94 rfl ?_
        refine V.iconst (q := 98) (v := 0) (by decide) dX13_office_97 rfl ?_
        refine V.istore_n (q := 99) (L' := [.ref a0, .int x1, .int 0]) rfl dX13_office_98 rfl (by decide) rfl rfl ?_
        refine V.forget (L' := [.ref a0, Jk, .int 0]) ⟨Or.inr rfl, Or.inl rfl, Or.inr rfl, trivial⟩ ?_
        exact tlX13_office_99  FU _ _ _ hf
      · rw [if_neg c] at hf
        refine V.aload_n (q := 75) rfl dX13_office_74 rfl rfl ?_
        refine V.iconst (q := 76) (v := 4) (by decide) dX13_office_75 rfl ?_
        obtain ⟨h12, eh12, hf⟩ := bd_ex hf
        refine V.putI (q := 79) (fpX13_51 rfl) rfl eh12 dX13_office_76 rfl ?_
        refine V.aload_n (q := 80) rfl dX13_office_79 rfl rfl ?_
        refine V.aload_n (q := 81) rfl dX13_office_80 rfl rfl ?_
        obtain ⟨v6, ev6, hf⟩ := bd_ex hf
        refine V.getI (q := 84) flX13_109 rfl ev6 dX13_office_81 rfl ?_
        obtain ⟨h13, eh13, hf⟩ := bd_ex hf
        refine V.putI (q := 87) (fpX13_9 rfl) rfl eh13 dX13_office_84 rfl ?_
        refine V.iconst (q := 88) (v := (-1)) (by decide) dX13_office_87 rfl ?_
        obtain ⟨rfl, rfl⟩ := ret_inj hf
        exact V.ret (r := some (.int (-1))) trivial dX13_office_88
    · rw [if_neg c] at hf
      refine V.aload_n (q := 18) rfl dX13_office_17 rfl rfl ?_
      refine V.iconst (q := 19) (v := 2) (by decide) dX13_office_18 rfl ?_
      obtain ⟨_, e2, hf⟩ := bd_ex hf
      obtain ⟨v3, h2, eh2, hf⟩ := bd2_ex hf
      refine V.callV (q := 22) (ci := 13) (vs := [.int 2]) (st := []) (S2 := [.int v3]) okX13_refused imX13_refused seX13_refused rfl lkX13_54 (tX13_refused eh2) rfl (ck_is e2) (by decide) rfl (Nat.le_of_ble_eq_true rfl) (Nat.le_of_ble_eq_true rfl) rfl dX13_office_19 rfl rfl ?_
      obtain ⟨rfl, rfl⟩ := ret_inj hf
      exact V.ret (r := some (.int v3)) trivial dX13_office_22
def fX13_paper (h : MH) (a0 : Nat) (x1 : Int32) (x2 : Int32) : Option (Int32 × MH) := bd (pI h a0 13 0 0) fun h1 => bd (ck h1 a0 13) fun _ => bd2 (fX13_isPaper h1 a0 x1) fun v2 h2 => if v2 = 0 then (bd (ck h2 a0 13) fun _ => bd2 (fX13_refused h2 a0 1) fun v4 h3 => some (v4, h3)) else (bd2 (fX13_in h2 x2 0 3) fun v3 h3 => if v3 = 0 then (bd (ck h3 a0 13) fun _ => bd2 (fX13_refused h3 a0 1) fun v5 h4 => some (v5, h4)) else (if x2 = 0 then (bd (gR h3 a0 13 3) fun b4 => bd (gR h3 b4 12 9) fun b5 => bd (lI h3 b5 x1) fun v6 => bd (ck h3 a0 13) fun _ => bd2 (fX13_good1 h3 a0 v6) fun v8 h4 => some (v8, h4)) else (if x2 = 1 then (bd (gR h3 a0 13 15) fun b4 => bd (lI h3 b4 (11 + x1)) fun v5 => bd (ck h3 a0 13) fun _ => bd2 (fX13_good1 h3 a0 v5) fun v7 h4 => some (v7, h4)) else (if x2 = 2 then (bd (gR h3 a0 13 3) fun b4 => bd (gR h3 b4 12 11) fun b5 => bd (lI h3 b5 x1) fun v6 => bd (ck h3 a0 13) fun _ => bd2 (fX13_good1 h3 a0 v6) fun v8 h4 => some (v8, h4)) else (bd (gR h3 a0 13 15) fun b4 => bd (lI h3 b4 (16 + x1)) fun v5 => bd (ck h3 a0 13) fun _ => bd2 (fX13_good1 h3 a0 v5) fun v7 h4 => some (v7, h4))))))
set_option maxRecDepth 20000 in
theorem tX13_paper {r : Int32} {h' : MH} {h : MH} {a0 : Nat} {x1 : Int32} {x2 : Int32} (hf : fX13_paper h a0 x1 x2 = some (r, h')) : VM mX13_paper 1 (some (.int r)) h' h [.ref a0, .int x1, .int x2] := by
  show V TT mX13_paper 1 _ h' h 0 [.ref a0, .int x1, .int x2] []
  unfold fX13_paper at hf
  refine V.aload_n (q := 1) rfl dX13_paper_0 rfl rfl ?_
  refine V.iconst (q := 2) (v := 0) (by decide) dX13_paper_1 rfl ?_
  obtain ⟨h1, eh1, hf⟩ := bd_ex hf
  refine V.putI (q := 5) (fpX13_48 rfl) rfl eh1 dX13_paper_2 rfl ?_
  refine V.aload_n (q := 6) rfl dX13_paper_5 rfl rfl ?_
  refine V.iload_n (q := 7) rfl dX13_paper_6 rfl rfl ?_
  obtain ⟨_, e1, hf⟩ := bd_ex hf
  obtain ⟨v2, h2, eh2, hf⟩ := bd2_ex hf
  refine V.callV (q := 10) (ci := 13) (vs := [.int x1]) (st := []) (S2 := [.int v2]) okX13_isPaper imX13_isPaper seX13_isPaper rfl lkX13_355 (tX13_isPaper eh2) rfl (ck_is e1) (by decide) rfl (Nat.le_of_ble_eq_true rfl) (Nat.le_of_ble_eq_true rfl) rfl dX13_paper_7 rfl rfl ?_
  refine V.if_eq (q := 13) (tgt := 22) dX13_paper_10 rfl (by decide) (fun c => ?_) (fun c => ?_)
  · rw [if_pos c] at hf
    refine V.aload_n (q := 23) rfl dX13_paper_22 rfl rfl ?_
    refine V.iconst (q := 24) (v := 1) (by decide) dX13_paper_23 rfl ?_
    obtain ⟨_, e3, hf⟩ := bd_ex hf
    obtain ⟨v4, h3, eh3, hf⟩ := bd2_ex hf
    refine V.callV (q := 27) (ci := 13) (vs := [.int 1]) (st := []) (S2 := [.int v4]) okX13_refused imX13_refused seX13_refused rfl lkX13_54 (tX13_refused eh3) rfl (ck_is e3) (by decide) rfl (Nat.le_of_ble_eq_true rfl) (Nat.le_of_ble_eq_true rfl) rfl dX13_paper_24 rfl rfl ?_
    obtain ⟨rfl, rfl⟩ := ret_inj hf
    exact V.ret (r := some (.int v4)) trivial dX13_paper_27
  · rw [if_neg c] at hf
    refine V.iload_n (q := 14) rfl dX13_paper_13 rfl rfl ?_
    refine V.iconst (q := 15) (v := 0) (by decide) dX13_paper_14 rfl ?_
    refine V.iconst (q := 16) (v := 3) (by decide) dX13_paper_15 rfl ?_
    obtain ⟨v3, h3, eh3, hf⟩ := bd2_ex hf
    refine V.callS (q := 19) (vs := [.int x2, .int 0, .int 3]) (st := []) (S2 := [.int v3]) okX13_in stX13_in lkX13_127 (tX13_in eh3) rfl (by decide) rfl (Nat.le_of_ble_eq_true rfl) (Nat.le_of_ble_eq_true rfl) rfl dX13_paper_16 rfl rfl ?_
    refine V.if_ne (q := 22) (tgt := 28) dX13_paper_19 rfl (by decide) (fun c => ?_) (fun c => ?_)
    · rw [if_neg c] at hf
      refine V.aload_n (q := 29) rfl dX13_paper_28 rfl rfl ?_
      refine V.iload_n (q := 30) rfl dX13_paper_29 rfl rfl ?_
      refine V.if_ne (q := 33) (tgt := 45) dX13_paper_30 rfl (by decide) (fun c => ?_) (fun c => ?_)
      · rw [if_neg c] at hf
        refine V.iload_n (q := 46) rfl dX13_paper_45 rfl rfl ?_
        refine V.iconst (q := 47) (v := 1) (by decide) dX13_paper_46 rfl ?_
        refine V.icmp_ne (q := 50) (tgt := 62) dX13_paper_47 rfl (by decide) (fun c => ?_) (fun c => ?_)
        · rw [if_neg c] at hf
          refine V.iload_n (q := 63) rfl dX13_paper_62 rfl rfl ?_
          refine V.iconst (q := 64) (v := 2) (by decide) dX13_paper_63 rfl ?_
          refine V.icmp_ne (q := 67) (tgt := 79) dX13_paper_64 rfl (by decide) (fun c => ?_) (fun c => ?_)
          · rw [if_neg c] at hf
            refine V.aload_n (q := 80) rfl dX13_paper_79 rfl rfl ?_
            obtain ⟨b4, eb4, hf⟩ := bd_ex hf
            refine V.getR (q := 83) flX13_17 rfl eb4 dX13_paper_80 rfl ?_
            refine V.bipush (q := 85) (v := 16) (by decide) dX13_paper_83 rfl ?_
            refine V.iload_n (q := 86) rfl dX13_paper_85 rfl rfl ?_
            refine V.iadd (q := 87) dX13_paper_86 rfl ?_
            obtain ⟨v5, ev5, hf⟩ := bd_ex hf
            refine V.iald (q := 88) ev5 dX13_paper_87 rfl ?_
            obtain ⟨_, e6, hf⟩ := bd_ex hf
            obtain ⟨v7, h4, eh4, hf⟩ := bd2_ex hf
            refine V.callV (q := 91) (ci := 13) (vs := [.int v5]) (st := []) (S2 := [.int v7]) okX13_good1 imX13_good1 seX13_good1 rfl lkX13_58 (tX13_good1 eh4) rfl (ck_is e6) (by decide) rfl (Nat.le_of_ble_eq_true rfl) (Nat.le_of_ble_eq_true rfl) rfl dX13_paper_88 rfl rfl ?_
            obtain ⟨rfl, rfl⟩ := ret_inj hf
            exact V.ret (r := some (.int v7)) trivial dX13_paper_91
          · rw [if_pos c] at hf
            refine V.aload_n (q := 68) rfl dX13_paper_67 rfl rfl ?_
            obtain ⟨b4, eb4, hf⟩ := bd_ex hf
            refine V.getR (q := 71) flX13_338 rfl eb4 dX13_paper_68 rfl ?_
            obtain ⟨b5, eb5, hf⟩ := bd_ex hf
            refine V.getR (q := 74) flX13_315 rfl eb5 dX13_paper_71 rfl ?_
            refine V.iload_n (q := 75) rfl dX13_paper_74 rfl rfl ?_
            obtain ⟨v6, ev6, hf⟩ := bd_ex hf
            refine V.iald (q := 76) ev6 dX13_paper_75 rfl ?_
            refine V.goto (q := 88) dX13_paper_76 (by decide) ?_
            obtain ⟨_, e7, hf⟩ := bd_ex hf
            obtain ⟨v8, h4, eh4, hf⟩ := bd2_ex hf
            refine V.callV (q := 91) (ci := 13) (vs := [.int v6]) (st := []) (S2 := [.int v8]) okX13_good1 imX13_good1 seX13_good1 rfl lkX13_58 (tX13_good1 eh4) rfl (ck_is e7) (by decide) rfl (Nat.le_of_ble_eq_true rfl) (Nat.le_of_ble_eq_true rfl) rfl dX13_paper_88 rfl rfl ?_
            obtain ⟨rfl, rfl⟩ := ret_inj hf
            exact V.ret (r := some (.int v8)) trivial dX13_paper_91
        · rw [if_pos c] at hf
          refine V.aload_n (q := 51) rfl dX13_paper_50 rfl rfl ?_
          obtain ⟨b4, eb4, hf⟩ := bd_ex hf
          refine V.getR (q := 54) flX13_17 rfl eb4 dX13_paper_51 rfl ?_
          refine V.bipush (q := 56) (v := 11) (by decide) dX13_paper_54 rfl ?_
          refine V.iload_n (q := 57) rfl dX13_paper_56 rfl rfl ?_
          refine V.iadd (q := 58) dX13_paper_57 rfl ?_
          obtain ⟨v5, ev5, hf⟩ := bd_ex hf
          refine V.iald (q := 59) ev5 dX13_paper_58 rfl ?_
          refine V.goto (q := 88) dX13_paper_59 (by decide) ?_
          obtain ⟨_, e6, hf⟩ := bd_ex hf
          obtain ⟨v7, h4, eh4, hf⟩ := bd2_ex hf
          refine V.callV (q := 91) (ci := 13) (vs := [.int v5]) (st := []) (S2 := [.int v7]) okX13_good1 imX13_good1 seX13_good1 rfl lkX13_58 (tX13_good1 eh4) rfl (ck_is e6) (by decide) rfl (Nat.le_of_ble_eq_true rfl) (Nat.le_of_ble_eq_true rfl) rfl dX13_paper_88 rfl rfl ?_
          obtain ⟨rfl, rfl⟩ := ret_inj hf
          exact V.ret (r := some (.int v7)) trivial dX13_paper_91
      · rw [if_pos c] at hf
        refine V.aload_n (q := 34) rfl dX13_paper_33 rfl rfl ?_
        obtain ⟨b4, eb4, hf⟩ := bd_ex hf
        refine V.getR (q := 37) flX13_338 rfl eb4 dX13_paper_34 rfl ?_
        obtain ⟨b5, eb5, hf⟩ := bd_ex hf
        refine V.getR (q := 40) flX13_257 rfl eb5 dX13_paper_37 rfl ?_
        refine V.iload_n (q := 41) rfl dX13_paper_40 rfl rfl ?_
        obtain ⟨v6, ev6, hf⟩ := bd_ex hf
        refine V.iald (q := 42) ev6 dX13_paper_41 rfl ?_
        refine V.goto (q := 88) dX13_paper_42 (by decide) ?_
        obtain ⟨_, e7, hf⟩ := bd_ex hf
        obtain ⟨v8, h4, eh4, hf⟩ := bd2_ex hf
        refine V.callV (q := 91) (ci := 13) (vs := [.int v6]) (st := []) (S2 := [.int v8]) okX13_good1 imX13_good1 seX13_good1 rfl lkX13_58 (tX13_good1 eh4) rfl (ck_is e7) (by decide) rfl (Nat.le_of_ble_eq_true rfl) (Nat.le_of_ble_eq_true rfl) rfl dX13_paper_88 rfl rfl ?_
        obtain ⟨rfl, rfl⟩ := ret_inj hf
        exact V.ret (r := some (.int v8)) trivial dX13_paper_91
    · rw [if_pos c] at hf
      refine V.aload_n (q := 23) rfl dX13_paper_22 rfl rfl ?_
      refine V.iconst (q := 24) (v := 1) (by decide) dX13_paper_23 rfl ?_
      obtain ⟨_, e4, hf⟩ := bd_ex hf
      obtain ⟨v5, h4, eh4, hf⟩ := bd2_ex hf
      refine V.callV (q := 27) (ci := 13) (vs := [.int 1]) (st := []) (S2 := [.int v5]) okX13_refused imX13_refused seX13_refused rfl lkX13_54 (tX13_refused eh4) rfl (ck_is e4) (by decide) rfl (Nat.le_of_ble_eq_true rfl) (Nat.le_of_ble_eq_true rfl) rfl dX13_paper_24 rfl rfl ?_
      obtain ⟨rfl, rfl⟩ := ret_inj hf
      exact V.ret (r := some (.int v5)) trivial dX13_paper_27
