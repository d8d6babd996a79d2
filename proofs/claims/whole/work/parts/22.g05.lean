def fX11_says (h : MH) (a0 : Nat) (x1 : Int32) (x2 : Int32) : Option (Int32 × MH) := bd (gR h a0 11 2) fun b1 => bd (ck h b1 5) fun _ => bd2 (fX5_hasStamp h b1 x1) fun v3 h1 => if v3 = 0 then (bd (ck h1 a0 11) fun _ => bd2 (fX11_refuse h1 a0 1) fun v5 h2 => some (v5, h2)) else (bd (gR h1 a0 11 2) fun b4 => bd (ck h1 b4 5) fun _ => bd2 (fX5_hasPaper h1 b4 x2) fun v6 h2 => if v6 = 0 then (bd (ck h2 a0 11) fun _ => bd2 (fX11_refuse h2 a0 1) fun v8 h3 => some (v8, h3)) else (bd (gR h2 a0 11 2) fun b7 => bd (ck h2 b7 5) fun _ => bd2 (fX5_sayOn h2 b7 x1 x2) fun v9 h3 => bd (ck h3 a0 11) fun _ => bd2 (fX11_answer h3 a0 v9) fun v11 h4 => some (v11, h4)))
set_option maxRecDepth 20000 in
theorem tX11_says {r : Int32} {h' : MH} {h : MH} {a0 : Nat} {x1 : Int32} {x2 : Int32} (hf : fX11_says h a0 x1 x2 = some (r, h')) : VM mX11_says 3 (some (.int r)) h' h [.ref a0, .int x1, .int x2] := by
  show V TT mX11_says 3 _ h' h 0 [.ref a0, .int x1, .int x2] []
  unfold fX11_says at hf
  refine V.aload_n (q := 1) rfl dX11_says_0 rfl rfl ?_
  obtain ⟨b1, eb1, hf⟩ := bd_ex hf
  refine V.getR (q := 4) flX11_28 rfl eb1 dX11_says_1 rfl ?_
  refine V.iload_n (q := 5) rfl dX11_says_4 rfl rfl ?_
  obtain ⟨_, e2, hf⟩ := bd_ex hf
  obtain ⟨v3, h1, eh1, hf⟩ := bd2_ex hf
  refine V.callV (q := 8) (ci := 5) (vs := [.int x1]) (st := []) (S2 := [.int v3]) okX5_hasStamp imX5_hasStamp seX5_hasStamp rfl lkX11_152 (tX5_hasStamp eh1) rfl (ck_is e2) (by decide) rfl (Nat.le_of_ble_eq_true rfl) (Nat.le_of_ble_eq_true rfl) rfl dX11_says_5 rfl rfl ?_
  refine V.if_eq (q := 11) (tgt := 22) dX11_says_8 rfl (by decide) (fun c => ?_) (fun c => ?_)
  · rw [if_pos c] at hf
    refine V.aload_n (q := 23) rfl dX11_says_22 rfl rfl ?_
    refine V.iconst (q := 24) (v := 1) (by decide) dX11_says_23 rfl ?_
    obtain ⟨_, e4, hf⟩ := bd_ex hf
    obtain ⟨v5, h2, eh2, hf⟩ := bd2_ex hf
    refine V.callV (q := 27) (ci := 11) (vs := [.int 1]) (st := []) (S2 := [.int v5]) okX11_refuse imX11_refuse seX11_refuse rfl lkX11_101 (tX11_refuse eh2) rfl (ck_is e4) (by decide) rfl (Nat.le_of_ble_eq_true rfl) (Nat.le_of_ble_eq_true rfl) rfl dX11_says_24 rfl rfl ?_
    obtain ⟨rfl, rfl⟩ := ret_inj hf
    exact V.ret (r := some (.int v5)) trivial dX11_says_27
  · rw [if_neg c] at hf
    refine V.aload_n (q := 12) rfl dX11_says_11 rfl rfl ?_
    obtain ⟨b4, eb4, hf⟩ := bd_ex hf
    refine V.getR (q := 15) flX11_28 rfl eb4 dX11_says_12 rfl ?_
    refine V.iload_n (q := 16) rfl dX11_says_15 rfl rfl ?_
    obtain ⟨_, e5, hf⟩ := bd_ex hf
    obtain ⟨v6, h2, eh2, hf⟩ := bd2_ex hf
    refine V.callV (q := 19) (ci := 5) (vs := [.int x2]) (st := []) (S2 := [.int v6]) okX5_hasPaper imX5_hasPaper seX5_hasPaper rfl lkX11_130 (tX5_hasPaper eh2) rfl (ck_is e5) (by decide) rfl (Nat.le_of_ble_eq_true rfl) (Nat.le_of_ble_eq_true rfl) rfl dX11_says_16 rfl rfl ?_
    refine V.if_ne (q := 22) (tgt := 28) dX11_says_19 rfl (by decide) (fun c => ?_) (fun c => ?_)
    · rw [if_neg c] at hf
      refine V.aload_n (q := 29) rfl dX11_says_28 rfl rfl ?_
      refine V.aload_n (q := 30) rfl dX11_says_29 rfl rfl ?_
      obtain ⟨b7, eb7, hf⟩ := bd_ex hf
      refine V.getR (q := 33) flX11_28 rfl eb7 dX11_says_30 rfl ?_
      refine V.iload_n (q := 34) rfl dX11_says_33 rfl rfl ?_
      refine V.iload_n (q := 35) rfl dX11_says_34 rfl rfl ?_
      obtain ⟨_, e8, hf⟩ := bd_ex hf
      obtain ⟨v9, h3, eh3, hf⟩ := bd2_ex hf
      refine V.callV (q := 38) (ci := 5) (vs := [.int x1, .int x2]) (st := [.ref a0]) (S2 := [.int v9, .ref a0]) okX5_sayOn imX5_sayOn seX5_sayOn rfl lkX11_197 (tX5_sayOn eh3) rfl (ck_is e8) (by decide) rfl (Nat.le_of_ble_eq_true rfl) (Nat.le_of_ble_eq_true rfl) rfl dX11_says_35 rfl rfl ?_
      obtain ⟨_, e10, hf⟩ := bd_ex hf
      obtain ⟨v11, h4, eh4, hf⟩ := bd2_ex hf
      refine V.callV (q := 41) (ci := 11) (vs := [.int v9]) (st := []) (S2 := [.int v11]) okX11_answer imX11_answer seX11_answer rfl lkX11_127 (tX11_answer eh4) rfl (ck_is e10) (by decide) rfl (Nat.le_of_ble_eq_true rfl) (Nat.le_of_ble_eq_true rfl) rfl dX11_says_38 rfl rfl ?_
      obtain ⟨rfl, rfl⟩ := ret_inj hf
      exact V.ret (r := some (.int v11)) trivial dX11_says_41
    · rw [if_pos c] at hf
      refine V.aload_n (q := 23) rfl dX11_says_22 rfl rfl ?_
      refine V.iconst (q := 24) (v := 1) (by decide) dX11_says_23 rfl ?_
      obtain ⟨_, e7, hf⟩ := bd_ex hf
      obtain ⟨v8, h3, eh3, hf⟩ := bd2_ex hf
      refine V.callV (q := 27) (ci := 11) (vs := [.int 1]) (st := []) (S2 := [.int v8]) okX11_refuse imX11_refuse seX11_refuse rfl lkX11_101 (tX11_refuse eh3) rfl (ck_is e7) (by decide) rfl (Nat.le_of_ble_eq_true rfl) (Nat.le_of_ble_eq_true rfl) rfl dX11_says_24 rfl rfl ?_
      obtain ⟨rfl, rfl⟩ := ret_inj hf
      exact V.ret (r := some (.int v8)) trivial dX11_says_27
def fX11_saysOf (h : MH) (a0 : Nat) (x1 : Int32) (x2 : Int32) : Option (Int32 × MH) := bd (gR h a0 11 2) fun b1 => bd (ck h b1 5) fun _ => bd2 (fX5_hasStamp h b1 x1) fun v3 h1 => if v3 = 0 then (bd (ck h1 a0 11) fun _ => bd2 (fX11_refuse h1 a0 1) fun v5 h2 => some (v5, h2)) else (if x2 < 0 then (bd (ck h1 a0 11) fun _ => bd2 (fX11_refuse h1 a0 1) fun v5 h2 => some (v5, h2)) else (bd (gR h1 a0 11 2) fun b4 => bd (gR h1 b4 5 1) fun b5 => bd (ck h1 b5 7) fun _ => bd2 (fX7_markSets h1 b5 ) fun v7 h2 => if x2 < v7 then (bd (gR h2 a0 11 2) fun b8 => bd (ck h2 b8 5) fun _ => bd2 (fX5_sayOf h2 b8 x1 x2) fun v10 h3 => bd (ck h3 a0 11) fun _ => bd2 (fX11_answer h3 a0 v10) fun v12 h4 => some (v12, h4)) else (bd (ck h2 a0 11) fun _ => bd2 (fX11_refuse h2 a0 1) fun v9 h3 => some (v9, h3))))
set_option maxRecDepth 20000 in
theorem tX11_saysOf {r : Int32} {h' : MH} {h : MH} {a0 : Nat} {x1 : Int32} {x2 : Int32} (hf : fX11_saysOf h a0 x1 x2 = some (r, h')) : VM mX11_saysOf 2 (some (.int r)) h' h [.ref a0, .int x1, .int x2] := by
  show V TT mX11_saysOf 2 _ h' h 0 [.ref a0, .int x1, .int x2] []
  unfold fX11_saysOf at hf
  refine V.aload_n (q := 1) rfl dX11_saysOf_0 rfl rfl ?_
  obtain ⟨b1, eb1, hf⟩ := bd_ex hf
  refine V.getR (q := 4) flX11_28 rfl eb1 dX11_saysOf_1 rfl ?_
  refine V.iload_n (q := 5) rfl dX11_saysOf_4 rfl rfl ?_
  obtain ⟨_, e2, hf⟩ := bd_ex hf
  obtain ⟨v3, h1, eh1, hf⟩ := bd2_ex hf
  refine V.callV (q := 8) (ci := 5) (vs := [.int x1]) (st := []) (S2 := [.int v3]) okX5_hasStamp imX5_hasStamp seX5_hasStamp rfl lkX11_152 (tX5_hasStamp eh1) rfl (ck_is e2) (by decide) rfl (Nat.le_of_ble_eq_true rfl) (Nat.le_of_ble_eq_true rfl) rfl dX11_saysOf_5 rfl rfl ?_
  refine V.if_eq (q := 11) (tgt := 29) dX11_saysOf_8 rfl (by decide) (fun c => ?_) (fun c => ?_)
  · rw [if_pos c] at hf
    refine V.aload_n (q := 30) rfl dX11_saysOf_29 rfl rfl ?_
    refine V.iconst (q := 31) (v := 1) (by decide) dX11_saysOf_30 rfl ?_
    obtain ⟨_, e4, hf⟩ := bd_ex hf
    obtain ⟨v5, h2, eh2, hf⟩ := bd2_ex hf
    refine V.callV (q := 34) (ci := 11) (vs := [.int 1]) (st := []) (S2 := [.int v5]) okX11_refuse imX11_refuse seX11_refuse rfl lkX11_101 (tX11_refuse eh2) rfl (ck_is e4) (by decide) rfl (Nat.le_of_ble_eq_true rfl) (Nat.le_of_ble_eq_true rfl) rfl dX11_saysOf_31 rfl rfl ?_
    obtain ⟨rfl, rfl⟩ := ret_inj hf
    exact V.ret (r := some (.int v5)) trivial dX11_saysOf_34
  · rw [if_neg c] at hf
    refine V.iload_n (q := 12) rfl dX11_saysOf_11 rfl rfl ?_
    refine V.if_lt (q := 15) (tgt := 29) dX11_saysOf_12 rfl (by decide) (fun c => ?_) (fun c => ?_)
    · rw [if_pos c] at hf
      refine V.aload_n (q := 30) rfl dX11_saysOf_29 rfl rfl ?_
      refine V.iconst (q := 31) (v := 1) (by decide) dX11_saysOf_30 rfl ?_
      obtain ⟨_, e4, hf⟩ := bd_ex hf
      obtain ⟨v5, h2, eh2, hf⟩ := bd2_ex hf
      refine V.callV (q := 34) (ci := 11) (vs := [.int 1]) (st := []) (S2 := [.int v5]) okX11_refuse imX11_refuse seX11_refuse rfl lkX11_101 (tX11_refuse eh2) rfl (ck_is e4) (by decide) rfl (Nat.le_of_ble_eq_true rfl) (Nat.le_of_ble_eq_true rfl) rfl dX11_saysOf_31 rfl rfl ?_
      obtain ⟨rfl, rfl⟩ := ret_inj hf
      exact V.ret (r := some (.int v5)) trivial dX11_saysOf_34
    · rw [if_neg c] at hf
      refine V.iload_n (q := 16) rfl dX11_saysOf_15 rfl rfl ?_
      refine V.aload_n (q := 17) rfl dX11_saysOf_16 rfl rfl ?_
      obtain ⟨b4, eb4, hf⟩ := bd_ex hf
      refine V.getR (q := 20) flX11_28 rfl eb4 dX11_saysOf_17 rfl ?_
      obtain ⟨b5, eb5, hf⟩ := bd_ex hf
      refine V.getR (q := 23) flX11_118 rfl eb5 dX11_saysOf_20 rfl ?_
      obtain ⟨_, e6, hf⟩ := bd_ex hf
      obtain ⟨v7, h2, eh2, hf⟩ := bd2_ex hf
      refine V.callV (q := 26) (ci := 7) (vs := []) (st := [.int x2]) (S2 := [.int v7, .int x2]) okX7_markSets imX7_markSets seX7_markSets rfl lkX11_204 (tX7_markSets eh2) rfl (ck_is e6) (by decide) rfl (Nat.le_of_ble_eq_true rfl) (Nat.le_of_ble_eq_true rfl) rfl dX11_saysOf_23 rfl rfl ?_
      refine V.icmp_lt (q := 29) (tgt := 35) dX11_saysOf_26 rfl (by decide) (fun c => ?_) (fun c => ?_)
      · rw [if_pos c] at hf
        refine V.aload_n (q := 36) rfl dX11_saysOf_35 rfl rfl ?_
        refine V.aload_n (q := 37) rfl dX11_saysOf_36 rfl rfl ?_
        obtain ⟨b8, eb8, hf⟩ := bd_ex hf
        refine V.getR (q := 40) flX11_28 rfl eb8 dX11_saysOf_37 rfl ?_
        refine V.iload_n (q := 41) rfl dX11_saysOf_40 rfl rfl ?_
        refine V.iload_n (q := 42) rfl dX11_saysOf_41 rfl rfl ?_
        obtain ⟨_, e9, hf⟩ := bd_ex hf
        obtain ⟨v10, h3, eh3, hf⟩ := bd2_ex hf
        refine V.callV (q := 45) (ci := 5) (vs := [.int x1, .int x2]) (st := [.ref a0]) (S2 := [.int v10, .ref a0]) okX5_sayOf imX5_sayOf seX5_sayOf rfl lkX11_208 (tX5_sayOf eh3) rfl (ck_is e9) (by decide) rfl (Nat.le_of_ble_eq_true rfl) (Nat.le_of_ble_eq_true rfl) rfl dX11_saysOf_42 rfl rfl ?_
        obtain ⟨_, e11, hf⟩ := bd_ex hf
        obtain ⟨v12, h4, eh4, hf⟩ := bd2_ex hf
        refine V.callV (q := 48) (ci := 11) (vs := [.int v10]) (st := []) (S2 := [.int v12]) okX11_answer imX11_answer seX11_answer rfl lkX11_127 (tX11_answer eh4) rfl (ck_is e11) (by decide) rfl (Nat.le_of_ble_eq_true rfl) (Nat.le_of_ble_eq_true rfl) rfl dX11_saysOf_45 rfl rfl ?_
        obtain ⟨rfl, rfl⟩ := ret_inj hf
        exact V.ret (r := some (.int v12)) trivial dX11_saysOf_48
      · rw [if_neg c] at hf
        refine V.aload_n (q := 30) rfl dX11_saysOf_29 rfl rfl ?_
        refine V.iconst (q := 31) (v := 1) (by decide) dX11_saysOf_30 rfl ?_
        obtain ⟨_, e8, hf⟩ := bd_ex hf
        obtain ⟨v9, h3, eh3, hf⟩ := bd2_ex hf
        refine V.callV (q := 34) (ci := 11) (vs := [.int 1]) (st := []) (S2 := [.int v9]) okX11_refuse imX11_refuse seX11_refuse rfl lkX11_101 (tX11_refuse eh3) rfl (ck_is e8) (by decide) rfl (Nat.le_of_ble_eq_true rfl) (Nat.le_of_ble_eq_true rfl) rfl dX11_saysOf_31 rfl rfl ?_
        obtain ⟨rfl, rfl⟩ := ret_inj hf
        exact V.ret (r := some (.int v9)) trivial dX11_saysOf_34
def fX11_settled (h : MH) (a0 : Nat) : Option (Int32 × MH) := bd (gI h a0 11 9) fun v1 => if v1 = 0 then (bd (ck h a0 11) fun _ => bd2 (fX11_refuse h a0 1) fun v3 h1 => some (v3, h1)) else (bd (gR h a0 11 6) fun b2 => bd (ck h b2 0) fun _ => bd2 (fX0_monthsToSettle h b2 ) fun v4 h1 => bd (ck h1 a0 11) fun _ => bd2 (fX11_answer h1 a0 v4) fun v6 h2 => some (v6, h2))
set_option maxRecDepth 20000 in
theorem tX11_settled {r : Int32} {h' : MH} {h : MH} {a0 : Nat} (hf : fX11_settled h a0 = some (r, h')) : VM mX11_settled 5 (some (.int r)) h' h [.ref a0] := by
  show V TT mX11_settled 5 _ h' h 0 [.ref a0] []
  unfold fX11_settled at hf
  refine V.aload_n (q := 1) rfl dX11_settled_0 rfl rfl ?_
  obtain ⟨v1, ev1, hf⟩ := bd_ex hf
  refine V.getI (q := 4) flX11_76 rfl ev1 dX11_settled_1 rfl ?_
  refine V.if_ne (q := 7) (tgt := 13) dX11_settled_4 rfl (by decide) (fun c => ?_) (fun c => ?_)
  · rw [if_neg c] at hf
    refine V.aload_n (q := 14) rfl dX11_settled_13 rfl rfl ?_
    refine V.aload_n (q := 15) rfl dX11_settled_14 rfl rfl ?_
    obtain ⟨b2, eb2, hf⟩ := bd_ex hf
    refine V.getR (q := 18) flX11_58 rfl eb2 dX11_settled_15 rfl ?_
    obtain ⟨_, e3, hf⟩ := bd_ex hf
    obtain ⟨v4, h1, eh1, hf⟩ := bd2_ex hf
    refine V.callV (q := 21) (ci := 0) (vs := []) (st := [.ref a0]) (S2 := [.int v4, .ref a0]) okX0_monthsToSettle imX0_monthsToSettle seX0_monthsToSettle rfl lkX11_291 (tX0_monthsToSettle eh1) rfl (ck_is e3) (by decide) rfl (Nat.le_of_ble_eq_true rfl) (Nat.le_of_ble_eq_true rfl) rfl dX11_settled_18 rfl rfl ?_
    obtain ⟨_, e5, hf⟩ := bd_ex hf
    obtain ⟨v6, h2, eh2, hf⟩ := bd2_ex hf
    refine V.callV (q := 24) (ci := 11) (vs := [.int v4]) (st := []) (S2 := [.int v6]) okX11_answer imX11_answer seX11_answer rfl lkX11_127 (tX11_answer eh2) rfl (ck_is e5) (by decide) rfl (Nat.le_of_ble_eq_true rfl) (Nat.le_of_ble_eq_true rfl) rfl dX11_settled_21 rfl rfl ?_
    obtain ⟨rfl, rfl⟩ := ret_inj hf
    exact V.ret (r := some (.int v6)) trivial dX11_settled_24
  · rw [if_pos c] at hf
    refine V.aload_n (q := 8) rfl dX11_settled_7 rfl rfl ?_
    refine V.iconst (q := 9) (v := 1) (by decide) dX11_settled_8 rfl ?_
    obtain ⟨_, e2, hf⟩ := bd_ex hf
    obtain ⟨v3, h1, eh1, hf⟩ := bd2_ex hf
    refine V.callV (q := 12) (ci := 11) (vs := [.int 1]) (st := []) (S2 := [.int v3]) okX11_refuse imX11_refuse seX11_refuse rfl lkX11_101 (tX11_refuse eh1) rfl (ck_is e2) (by decide) rfl (Nat.le_of_ble_eq_true rfl) (Nat.le_of_ble_eq_true rfl) rfl dX11_settled_9 rfl rfl ?_
    obtain ⟨rfl, rfl⟩ := ret_inj hf
    exact V.ret (r := some (.int v3)) trivial dX11_settled_12
def bX4_pressesSoFar_4 (k4 : MH → Nat → Int32 → Int32 → Option (Int32 × MH)) (h : MH) (a0 : Nat) (x1 : Int32) (x2 : Int32) : Option (Int32 × MH) := if 3 ≤ x2 then (some (x1, h)) else (bd (ck h a0 4) fun _ => bd2 (fX4_pressesOfHand h a0 x2) fun v2 h1 => bd (some (x1 + v2)) fun v3 => bd (some (x2 + 1)) fun v4 => k4 h1 a0 v3 v4)
set_option maxRecDepth 20000 in
theorem tX4_pressesSoFar_4 {r : Int32} {h' : MH} (k4 : MH → Nat → Int32 → Int32 → Option (Int32 × MH)) (hk4 : ∀ (h : MH) (a0 : Nat) (x1 : Int32) (x2 : Int32), k4 h a0 x1 x2 = some (r, h') → V TT mX4_pressesSoFar 1 (some (.int r)) h' h 4 [.ref a0, .int x1, .int x2] [])  {h : MH} {a0 : Nat} {x1 : Int32} {x2 : Int32} (hf : bX4_pressesSoFar_4 k4 h a0 x1 x2 = some (r, h')) : V TT mX4_pressesSoFar 1 (some (.int r)) h' h 4 [.ref a0, .int x1, .int x2] [] := by
  unfold bX4_pressesSoFar_4 at hf
  refine V.iload_n (q := 5) rfl dX4_pressesSoFar_4 rfl rfl ?_
  refine V.iconst (q := 6) (v := 3) (by decide) dX4_pressesSoFar_5 rfl ?_
  refine V.icmp_ge (q := 9) (tgt := 23) dX4_pressesSoFar_6 rfl (by decide) (fun c => ?_) (fun c => ?_)
  · rw [if_pos c] at hf
    refine V.iload_n (q := 24) rfl dX4_pressesSoFar_23 rfl rfl ?_
    obtain ⟨rfl, rfl⟩ := ret_inj hf
    exact V.ret (r := some (.int x1)) trivial dX4_pressesSoFar_24
  · rw [if_neg c] at hf
    refine V.iload_n (q := 10) rfl dX4_pressesSoFar_9 rfl rfl ?_
    refine V.aload_n (q := 11) rfl dX4_pressesSoFar_10 rfl rfl ?_
    refine V.iload_n (q := 12) rfl dX4_pressesSoFar_11 rfl rfl ?_
    obtain ⟨_, e1, hf⟩ := bd_ex hf
    obtain ⟨v2, h1, eh1, hf⟩ := bd2_ex hf
    refine V.callV (q := 15) (ci := 4) (vs := [.int x2]) (st := [.int x1]) (S2 := [.int v2, .int x1]) okX4_pressesOfHand imX4_pressesOfHand seX4_pressesOfHand rfl lkX4_15 (tX4_pressesOfHand eh1) rfl (ck_is e1) (by decide) rfl (Nat.le_of_ble_eq_true rfl) (Nat.le_of_ble_eq_true rfl) rfl dX4_pressesSoFar_12 rfl rfl ?_
    refine V.iadd (q := 16) dX4_pressesSoFar_15 rfl ?_
    obtain ⟨v3, ev3, hf⟩ := bd_ex hf
    refine V.topI (Option.some.inj ev3) ?_
    refine V.istore_n (q := 17) (L' := [.ref a0, .int v3, .int x2]) rfl dX4_pressesSoFar_16 rfl (by decide) rfl rfl ?_
    obtain ⟨v4, ev4, hf⟩ := bd_ex hf
    refine V.iinc (q := 20) (v := v4) (L' := [.ref a0, .int v3, .int v4]) dX4_pressesSoFar_17 rfl rfl (Option.some.inj ev4) (by decide) rfl rfl ?_
    refine V.goto (q := 4) dX4_pressesSoFar_20 (by decide) ?_
    exact hk4 _ _ _ _ hf
def fX4_pressesSoFar_4  : Nat → MH → Nat → Int32 → Int32 → Option (Int32 × MH)
  | 0 => fun _ _ _ _ => none
  | n + 1 => bX4_pressesSoFar_4  (fX4_pressesSoFar_4  n)
theorem tlX4_pressesSoFar_4 {r : Int32} {h' : MH}   : ∀ (n : Nat) (h : MH) (a0 : Nat) (x1 : Int32) (x2 : Int32), fX4_pressesSoFar_4  n h a0 x1 x2 = some (r, h') → V TT mX4_pressesSoFar 1 (some (.int r)) h' h 4 [.ref a0, .int x1, .int x2] [] := by
  intro n
  induction n with
  | zero => intro h a0 x1 x2 hf; exact nomatch (show (none : Option (Int32 × MH)) = some (r, h') from hf)
  | succ n ih => intro h a0 x1 x2 hf; exact tX4_pressesSoFar_4  (fX4_pressesSoFar_4  n) ih hf
def fX4_pressesSoFar (h : MH) (a0 : Nat) : Option (Int32 × MH) := fX4_pressesSoFar_4 FU h a0 0 0
set_option maxRecDepth 20000 in
theorem tX4_pressesSoFar {r : Int32} {h' : MH} {h : MH} {a0 : Nat} (hf : fX4_pressesSoFar h a0 = some (r, h')) : VM mX4_pressesSoFar 1 (some (.int r)) h' h [.ref a0] := by
  show V TT mX4_pressesSoFar 1 _ h' h 0 [.ref a0, Jk, Jk] []
  unfold fX4_pressesSoFar at hf
  refine V.iconst (q := 1) (v := 0) (by decide) dX4_pressesSoFar_0 rfl ?_
  refine V.istore_n (q := 2) (L' := [.ref a0, .int 0, Jk]) rfl dX4_pressesSoFar_1 rfl (by decide) rfl rfl ?_
  refine V.iconst (q := 3) (v := 0) (by decide) dX4_pressesSoFar_2 rfl ?_
  refine V.istore_n (q := 4) (L' := [.ref a0, .int 0, .int 0]) rfl dX4_pressesSoFar_3 rfl (by decide) rfl rfl ?_
  exact tlX4_pressesSoFar_4  FU _ _ _ _ hf
def fX11_size (h : MH) (a0 : Nat) (x1 : Int32) : Option (Int32 × MH) := if x1 = 0 then (bd (gR h a0 11 2) fun b1 => bd (gR h b1 5 1) fun b2 => bd (gI h b2 7 12) fun v3 => some (v3, h)) else (if x1 = 1 then (bd (gR h a0 11 2) fun b1 => bd (gR h b1 5 1) fun b2 => bd (gI h b2 7 13) fun v3 => some (v3, h)) else (if x1 = 2 then (bd (gR h a0 11 2) fun b1 => bd (gR h b1 5 1) fun b2 => bd (gI h b2 7 14) fun v3 => some (v3, h)) else (if x1 = 3 then (bd (gR h a0 11 2) fun b1 => bd (gR h b1 5 1) fun b2 => bd (gI h b2 7 15) fun v3 => some (v3, h)) else (if x1 = 4 then (bd (gR h a0 11 2) fun b1 => bd (gR h b1 5 1) fun b2 => bd (gI h b2 7 16) fun v3 => some (v3, h)) else (if x1 = 5 then (bd (gR h a0 11 2) fun b1 => bd (gR h b1 5 1) fun b2 => bd (gI h b2 7 17) fun v3 => some (v3, h)) else (if x1 = 6 then (bd (gR h a0 11 2) fun b1 => bd (gR h b1 5 1) fun b2 => bd (gI h b2 7 18) fun v3 => some (v3, h)) else (if x1 = 7 then (bd (gR h a0 11 2) fun b1 => bd (gR h b1 5 1) fun b2 => bd (gI h b2 7 19) fun v3 => some (v3, h)) else (if x1 = 8 then (bd (gR h a0 11 2) fun b1 => bd (gR h b1 5 0) fun b2 => bd (ck h b2 4) fun _ => bd2 (fX4_pressesSoFar h b2 ) fun v4 h1 => some (v4, h1)) else (if x1 = 9 then (bd (gR h a0 11 3) fun b1 => bd (gI h b1 6 3) fun v2 => some (v2, h)) else (if x1 = 10 then (bd (gR h a0 11 3) fun b1 => bd (gI h b1 6 4) fun v2 => some (v2, h)) else (if x1 = 11 then (bd (gR h a0 11 0) fun b1 => bd (gI h b1 10 1) fun v2 => some (v2, h)) else (some ((-1), h)))))))))))))
set_option maxRecDepth 20000 in
theorem tX11_size {r : Int32} {h' : MH} {h : MH} {a0 : Nat} {x1 : Int32} (hf : fX11_size h a0 x1 = some (r, h')) : VM mX11_size 2 (some (.int r)) h' h [.ref a0, .int x1] := by
  show V TT mX11_size 2 _ h' h 0 [.ref a0, .int x1] []
  unfold fX11_size at hf
  refine V.iload_n (q := 1) rfl dX11_size_0 rfl rfl ?_
  by_cases c0 : x1 = 0
  · rw [if_pos c0] at hf
    refine V.topI c0 ?_
    refine V.tableIn (q := 64) (off := 63) dX11_size_1 (by decide) (by decide) (by decide) (by decide) ?_
    refine V.aload_n (q := 65) rfl dX11_size_64 rfl rfl ?_
    obtain ⟨b1, eb1, hf⟩ := bd_ex hf
    refine V.getR (q := 68) flX11_28 rfl eb1 dX11_size_65 rfl ?_
    obtain ⟨b2, eb2, hf⟩ := bd_ex hf
    refine V.getR (q := 71) flX11_118 rfl eb2 dX11_size_68 rfl ?_
    obtain ⟨v3, ev3, hf⟩ := bd_ex hf
    refine V.getI (q := 74) flX11_396 rfl ev3 dX11_size_71 rfl ?_
    obtain ⟨rfl, rfl⟩ := ret_inj hf
    exact V.ret (r := some (.int v3)) trivial dX11_size_74
  rw [if_neg c0] at hf
  by_cases c1 : x1 = 1
  · rw [if_pos c1] at hf
    refine V.topI c1 ?_
    refine V.tableIn (q := 75) (off := 74) dX11_size_1 (by decide) (by decide) (by decide) (by decide) ?_
    refine V.aload_n (q := 76) rfl dX11_size_75 rfl rfl ?_
    obtain ⟨b1, eb1, hf⟩ := bd_ex hf
    refine V.getR (q := 79) flX11_28 rfl eb1 dX11_size_76 rfl ?_
    obtain ⟨b2, eb2, hf⟩ := bd_ex hf
    refine V.getR (q := 82) flX11_118 rfl eb2 dX11_size_79 rfl ?_
    obtain ⟨v3, ev3, hf⟩ := bd_ex hf
    refine V.getI (q := 85) flX11_399 rfl ev3 dX11_size_82 rfl ?_
    obtain ⟨rfl, rfl⟩ := ret_inj hf
    exact V.ret (r := some (.int v3)) trivial dX11_size_85
  rw [if_neg c1] at hf
  by_cases c2 : x1 = 2
  · rw [if_pos c2] at hf
    refine V.topI c2 ?_
    refine V.tableIn (q := 86) (off := 85) dX11_size_1 (by decide) (by decide) (by decide) (by decide) ?_
    refine V.aload_n (q := 87) rfl dX11_size_86 rfl rfl ?_
    obtain ⟨b1, eb1, hf⟩ := bd_ex hf
    refine V.getR (q := 90) flX11_28 rfl eb1 dX11_size_87 rfl ?_
    obtain ⟨b2, eb2, hf⟩ := bd_ex hf
    refine V.getR (q := 93) flX11_118 rfl eb2 dX11_size_90 rfl ?_
    obtain ⟨v3, ev3, hf⟩ := bd_ex hf
    refine V.getI (q := 96) flX11_122 rfl ev3 dX11_size_93 rfl ?_
    obtain ⟨rfl, rfl⟩ := ret_inj hf
    exact V.ret (r := some (.int v3)) trivial dX11_size_96
  rw [if_neg c2] at hf
  by_cases c3 : x1 = 3
  · rw [if_pos c3] at hf
    refine V.topI c3 ?_
    refine V.tableIn (q := 97) (off := 96) dX11_size_1 (by decide) (by decide) (by decide) (by decide) ?_
    refine V.aload_n (q := 98) rfl dX11_size_97 rfl rfl ?_
    obtain ⟨b1, eb1, hf⟩ := bd_ex hf
    refine V.getR (q := 101) flX11_28 rfl eb1 dX11_size_98 rfl ?_
    obtain ⟨b2, eb2, hf⟩ := bd_ex hf
    refine V.getR (q := 104) flX11_118 rfl eb2 dX11_size_101 rfl ?_
    obtain ⟨v3, ev3, hf⟩ := bd_ex hf
    refine V.getI (q := 107) flX11_402 rfl ev3 dX11_size_104 rfl ?_
    obtain ⟨rfl, rfl⟩ := ret_inj hf
    exact V.ret (r := some (.int v3)) trivial dX11_size_107
  rw [if_neg c3] at hf
  by_cases c4 : x1 = 4
  · rw [if_pos c4] at hf
    refine V.topI c4 ?_
    refine V.tableIn (q := 108) (off := 107) dX11_size_1 (by decide) (by decide) (by decide) (by decide) ?_
    refine V.aload_n (q := 109) rfl dX11_size_108 rfl rfl ?_
    obtain ⟨b1, eb1, hf⟩ := bd_ex hf
    refine V.getR (q := 112) flX11_28 rfl eb1 dX11_size_109 rfl ?_
    obtain ⟨b2, eb2, hf⟩ := bd_ex hf
    refine V.getR (q := 115) flX11_118 rfl eb2 dX11_size_112 rfl ?_
    obtain ⟨v3, ev3, hf⟩ := bd_ex hf
    refine V.getI (q := 118) flX11_405 rfl ev3 dX11_size_115 rfl ?_
    obtain ⟨rfl, rfl⟩ := ret_inj hf
    exact V.ret (r := some (.int v3)) trivial dX11_size_118
  rw [if_neg c4] at hf
  by_cases c5 : x1 = 5
  · rw [if_pos c5] at hf
    refine V.topI c5 ?_
    refine V.tableIn (q := 119) (off := 118) dX11_size_1 (by decide) (by decide) (by decide) (by decide) ?_
    refine V.aload_n (q := 120) rfl dX11_size_119 rfl rfl ?_
    obtain ⟨b1, eb1, hf⟩ := bd_ex hf
    refine V.getR (q := 123) flX11_28 rfl eb1 dX11_size_120 rfl ?_
    obtain ⟨b2, eb2, hf⟩ := bd_ex hf
    refine V.getR (q := 126) flX11_118 rfl eb2 dX11_size_123 rfl ?_
    obtain ⟨v3, ev3, hf⟩ := bd_ex hf
    refine V.getI (q := 129) flX11_408 rfl ev3 dX11_size_126 rfl ?_
    obtain ⟨rfl, rfl⟩ := ret_inj hf
    exact V.ret (r := some (.int v3)) trivial dX11_size_129
  rw [if_neg c5] at hf
  by_cases c6 : x1 = 6
  · rw [if_pos c6] at hf
    refine V.topI c6 ?_
    refine V.tableIn (q := 130) (off := 129) dX11_size_1 (by decide) (by decide) (by decide) (by decide) ?_
    refine V.aload_n (q := 131) rfl dX11_size_130 rfl rfl ?_
    obtain ⟨b1, eb1, hf⟩ := bd_ex hf
    refine V.getR (q := 134) flX11_28 rfl eb1 dX11_size_131 rfl ?_
    obtain ⟨b2, eb2, hf⟩ := bd_ex hf
    refine V.getR (q := 137) flX11_118 rfl eb2 dX11_size_134 rfl ?_
    obtain ⟨v3, ev3, hf⟩ := bd_ex hf
    refine V.getI (q := 140) flX11_411 rfl ev3 dX11_size_137 rfl ?_
    obtain ⟨rfl, rfl⟩ := ret_inj hf
    exact V.ret (r := some (.int v3)) trivial dX11_size_140
  rw [if_neg c6] at hf
  by_cases c7 : x1 = 7
  · rw [if_pos c7] at hf
    refine V.topI c7 ?_
    refine V.tableIn (q := 141) (off := 140) dX11_size_1 (by decide) (by decide) (by decide) (by decide) ?_
    refine V.aload_n (q := 142) rfl dX11_size_141 rfl rfl ?_
    obtain ⟨b1, eb1, hf⟩ := bd_ex hf
    refine V.getR (q := 145) flX11_28 rfl eb1 dX11_size_142 rfl ?_
    obtain ⟨b2, eb2, hf⟩ := bd_ex hf
    refine V.getR (q := 148) flX11_118 rfl eb2 dX11_size_145 rfl ?_
    obtain ⟨v3, ev3, hf⟩ := bd_ex hf
    refine V.getI (q := 151) flX11_414 rfl ev3 dX11_size_148 rfl ?_
    obtain ⟨rfl, rfl⟩ := ret_inj hf
    exact V.ret (r := some (.int v3)) trivial dX11_size_151
  rw [if_neg c7] at hf
  by_cases c8 : x1 = 8
  · rw [if_pos c8] at hf
    refine V.topI c8 ?_
    refine V.tableIn (q := 152) (off := 151) dX11_size_1 (by decide) (by decide) (by decide) (by decide) ?_
    refine V.aload_n (q := 153) rfl dX11_size_152 rfl rfl ?_
    obtain ⟨b1, eb1, hf⟩ := bd_ex hf
    refine V.getR (q := 156) flX11_28 rfl eb1 dX11_size_153 rfl ?_
    obtain ⟨b2, eb2, hf⟩ := bd_ex hf
    refine V.getR (q := 159) flX11_137 rfl eb2 dX11_size_156 rfl ?_
    obtain ⟨_, e3, hf⟩ := bd_ex hf
    obtain ⟨v4, h1, eh1, hf⟩ := bd2_ex hf
    refine V.callV (q := 162) (ci := 4) (vs := []) (st := []) (S2 := [.int v4]) okX4_pressesSoFar imX4_pressesSoFar seX4_pressesSoFar rfl lkX11_417 (tX4_pressesSoFar eh1) rfl (ck_is e3) (by decide) rfl (Nat.le_of_ble_eq_true rfl) (Nat.le_of_ble_eq_true rfl) rfl dX11_size_159 rfl rfl ?_
    obtain ⟨rfl, rfl⟩ := ret_inj hf
    exact V.ret (r := some (.int v4)) trivial dX11_size_162
  rw [if_neg c8] at hf
  by_cases c9 : x1 = 9
  · rw [if_pos c9] at hf
    refine V.topI c9 ?_
    refine V.tableIn (q := 163) (off := 162) dX11_size_1 (by decide) (by decide) (by decide) (by decide) ?_
    refine V.aload_n (q := 164) rfl dX11_size_163 rfl rfl ?_
    obtain ⟨b1, eb1, hf⟩ := bd_ex hf
    refine V.getR (q := 167) flX11_35 rfl eb1 dX11_size_164 rfl ?_
    obtain ⟨v2, ev2, hf⟩ := bd_ex hf
    refine V.getI (q := 170) flX11_369 rfl ev2 dX11_size_167 rfl ?_
    obtain ⟨rfl, rfl⟩ := ret_inj hf
    exact V.ret (r := some (.int v2)) trivial dX11_size_170
  rw [if_neg c9] at hf
  by_cases c10 : x1 = 10
  · rw [if_pos c10] at hf
    refine V.topI c10 ?_
    refine V.tableIn (q := 171) (off := 170) dX11_size_1 (by decide) (by decide) (by decide) (by decide) ?_
    refine V.aload_n (q := 172) rfl dX11_size_171 rfl rfl ?_
    obtain ⟨b1, eb1, hf⟩ := bd_ex hf
    refine V.getR (q := 175) flX11_35 rfl eb1 dX11_size_172 rfl ?_
    obtain ⟨v2, ev2, hf⟩ := bd_ex hf
    refine V.getI (q := 178) flX11_382 rfl ev2 dX11_size_175 rfl ?_
    obtain ⟨rfl, rfl⟩ := ret_inj hf
    exact V.ret (r := some (.int v2)) trivial dX11_size_178
  rw [if_neg c10] at hf
  by_cases c11 : x1 = 11
  · rw [if_pos c11] at hf
    refine V.topI c11 ?_
    refine V.tableIn (q := 179) (off := 178) dX11_size_1 (by decide) (by decide) (by decide) (by decide) ?_
    refine V.aload_n (q := 180) rfl dX11_size_179 rfl rfl ?_
    obtain ⟨b1, eb1, hf⟩ := bd_ex hf
    refine V.getR (q := 183) flX11_10 rfl eb1 dX11_size_180 rfl ?_
    obtain ⟨v2, ev2, hf⟩ := bd_ex hf
    refine V.getI (q := 186) flX11_98 rfl ev2 dX11_size_183 rfl ?_
    obtain ⟨rfl, rfl⟩ := ret_inj hf
    exact V.ret (r := some (.int v2)) trivial dX11_size_186
  rw [if_neg c11] at hf
  have hout : x1.toInt < 0 ∨ 11 < x1.toInt := tsw_out (lo := 0) (n := 11) (fun k h1 h2 => by
  have : k = 0 ∨ k = 1 ∨ k = 2 ∨ k = 3 ∨ k = 4 ∨ k = 5 ∨ k = 6 ∨ k = 7 ∨ k = 8 ∨ k = 9 ∨ k = 10 ∨ k = 11 := by omega
  rcases this with rfl | rfl | rfl | rfl | rfl | rfl | rfl | rfl | rfl | rfl | rfl | rfl
  · exact c0
  · exact c1
  · exact c2
  · exact c3
  · exact c4
  · exact c5
  · exact c6
  · exact c7
  · exact c8
  · exact c9
  · exact c10
  · exact c11) (by decide)
  refine V.tableOut (q := 187) dX11_size_1 hout (by decide) ?_
  refine V.iconst (q := 188) (v := (-1)) (by decide) dX11_size_187 rfl ?_
  obtain ⟨rfl, rfl⟩ := ret_inj hf
  exact V.ret (r := some (.int (-1))) trivial dX11_size_188
def fX4_pressesOfStamp (h : MH) (a0 : Nat) (x1 : Int32) : Option (Int32 × MH) := bd (gR h a0 4 0) fun b1 => bd (lI h b1 (14 + x1)) fun v2 => some (v2, h)
set_option maxRecDepth 20000 in
theorem tX4_pressesOfStamp {r : Int32} {h' : MH} {h : MH} {a0 : Nat} {x1 : Int32} (hf : fX4_pressesOfStamp h a0 x1 = some (r, h')) : VM mX4_pressesOfStamp 0 (some (.int r)) h' h [.ref a0, .int x1] := by
  show V TT mX4_pressesOfStamp 0 _ h' h 0 [.ref a0, .int x1] []
  unfold fX4_pressesOfStamp at hf
  refine V.aload_n (q := 1) rfl dX4_pressesOfStamp_0 rfl rfl ?_
  obtain ⟨b1, eb1, hf⟩ := bd_ex hf
  refine V.getR (q := 4) flX4_11 rfl eb1 dX4_pressesOfStamp_1 rfl ?_
  refine V.bipush (q := 6) (v := 14) (by decide) dX4_pressesOfStamp_4 rfl ?_
  refine V.iload_n (q := 7) rfl dX4_pressesOfStamp_6 rfl rfl ?_
  refine V.iadd (q := 8) dX4_pressesOfStamp_7 rfl ?_
  obtain ⟨v2, ev2, hf⟩ := bd_ex hf
  refine V.iald (q := 9) ev2 dX4_pressesOfStamp_8 rfl ?_
  obtain ⟨rfl, rfl⟩ := ret_inj hf
  exact V.ret (r := some (.int v2)) trivial dX4_pressesOfStamp_9
def bX7_rulesOf_4 (k4 : MH → Nat → Int32 → Int32 → Int32 → Option (Int32 × MH)) (h : MH) (a0 : Nat) (x1 : Int32) (x2 : Int32) (x3 : Int32) : Option (Int32 × MH) := bd (gI h a0 7 16) fun v1 => if v1 ≤ x3 then (some (x2, h)) else (bd (gR h a0 7 4) fun b2 => bd (lI h b2 x3) fun v3 => if v3 = x1 then (bd (some (x2 + 1)) fun v4 => bd (some (x3 + 1)) fun v5 => k4 h a0 x1 v4 v5) else (bd (some (x3 + 1)) fun v4 => k4 h a0 x1 x2 v4))
set_option maxRecDepth 20000 in
theorem tX7_rulesOf_4 {r : Int32} {h' : MH} (k4 : MH → Nat → Int32 → Int32 → Int32 → Option (Int32 × MH)) (hk4 : ∀ (h : MH) (a0 : Nat) (x1 : Int32) (x2 : Int32) (x3 : Int32), k4 h a0 x1 x2 x3 = some (r, h') → V TT mX7_rulesOf 0 (some (.int r)) h' h 4 [.ref a0, .int x1, .int x2, .int x3] [])  {h : MH} {a0 : Nat} {x1 : Int32} {x2 : Int32} {x3 : Int32} (hf : bX7_rulesOf_4 k4 h a0 x1 x2 x3 = some (r, h')) : V TT mX7_rulesOf 0 (some (.int r)) h' h 4 [.ref a0, .int x1, .int x2, .int x3] [] := by
  unfold bX7_rulesOf_4 at hf
  refine V.iload_n (q := 5) rfl dX7_rulesOf_4 rfl rfl ?_
  refine V.aload_n (q := 6) rfl dX7_rulesOf_5 rfl rfl ?_
  obtain ⟨v1, ev1, hf⟩ := bd_ex hf
  refine V.getI (q := 9) flX7_61 rfl ev1 dX7_rulesOf_6 rfl ?_
  refine V.icmp_ge (q := 12) (tgt := 31) dX7_rulesOf_9 rfl (by decide) (fun c => ?_) (fun c => ?_)
  · rw [if_pos c] at hf
    refine V.iload_n (q := 32) rfl dX7_rulesOf_31 rfl rfl ?_
    obtain ⟨rfl, rfl⟩ := ret_inj hf
    exact V.ret (r := some (.int x2)) trivial dX7_rulesOf_32
  · rw [if_neg c] at hf
    refine V.aload_n (q := 13) rfl dX7_rulesOf_12 rfl rfl ?_
    obtain ⟨b2, eb2, hf⟩ := bd_ex hf
    refine V.getR (q := 16) flX7_24 rfl eb2 dX7_rulesOf_13 rfl ?_
    refine V.iload_n (q := 17) rfl dX7_rulesOf_16 rfl rfl ?_
    obtain ⟨v3, ev3, hf⟩ := bd_ex hf
    refine V.iald (q := 18) ev3 dX7_rulesOf_17 rfl ?_
    refine V.iload_n (q := 19) rfl dX7_rulesOf_18 rfl rfl ?_
    refine V.icmp_ne (q := 22) (tgt := 25) dX7_rulesOf_19 rfl (by decide) (fun c => ?_) (fun c => ?_)
    · rw [if_neg c] at hf
      obtain ⟨v4, ev4, hf⟩ := bd_ex hf
      refine V.iinc (q := 28) (v := v4) (L' := [.ref a0, .int x1, .int x2, .int v4]) dX7_rulesOf_25 rfl rfl (Option.some.inj ev4) (by decide) rfl rfl ?_
      refine V.goto (q := 4) dX7_rulesOf_28 (by decide) ?_
      exact hk4 _ _ _ _ _ hf
    · rw [if_pos c] at hf
      obtain ⟨v4, ev4, hf⟩ := bd_ex hf
      refine V.iinc (q := 25) (v := v4) (L' := [.ref a0, .int x1, .int v4, .int x3]) dX7_rulesOf_22 rfl rfl (Option.some.inj ev4) (by decide) rfl rfl ?_
      obtain ⟨v5, ev5, hf⟩ := bd_ex hf
      refine V.iinc (q := 28) (v := v5) (L' := [.ref a0, .int x1, .int v4, .int v5]) dX7_rulesOf_25 rfl rfl (Option.some.inj ev5) (by decide) rfl rfl ?_
      refine V.goto (q := 4) dX7_rulesOf_28 (by decide) ?_
      exact hk4 _ _ _ _ _ hf
def fX7_rulesOf_4  : Nat → MH → Nat → Int32 → Int32 → Int32 → Option (Int32 × MH)
  | 0 => fun _ _ _ _ _ => none
  | n + 1 => bX7_rulesOf_4  (fX7_rulesOf_4  n)
theorem tlX7_rulesOf_4 {r : Int32} {h' : MH}   : ∀ (n : Nat) (h : MH) (a0 : Nat) (x1 : Int32) (x2 : Int32) (x3 : Int32), fX7_rulesOf_4  n h a0 x1 x2 x3 = some (r, h') → V TT mX7_rulesOf 0 (some (.int r)) h' h 4 [.ref a0, .int x1, .int x2, .int x3] [] := by
  intro n
  induction n with
  | zero => intro h a0 x1 x2 x3 hf; exact nomatch (show (none : Option (Int32 × MH)) = some (r, h') from hf)
  | succ n ih => intro h a0 x1 x2 x3 hf; exact tX7_rulesOf_4  (fX7_rulesOf_4  n) ih hf
def fX7_rulesOf (h : MH) (a0 : Nat) (x1 : Int32) : Option (Int32 × MH) := fX7_rulesOf_4 FU h a0 x1 0 0
set_option maxRecDepth 20000 in
theorem tX7_rulesOf {r : Int32} {h' : MH} {h : MH} {a0 : Nat} {x1 : Int32} (hf : fX7_rulesOf h a0 x1 = some (r, h')) : VM mX7_rulesOf 0 (some (.int r)) h' h [.ref a0, .int x1] := by
  show V TT mX7_rulesOf 0 _ h' h 0 [.ref a0, .int x1, Jk, Jk] []
  unfold fX7_rulesOf at hf
  refine V.iconst (q := 1) (v := 0) (by decide) dX7_rulesOf_0 rfl ?_
  refine V.istore_n (q := 2) (L' := [.ref a0, .int x1, .int 0, Jk]) rfl dX7_rulesOf_1 rfl (by decide) rfl rfl ?_
  refine V.iconst (q := 3) (v := 0) (by decide) dX7_rulesOf_2 rfl ?_
  refine V.istore_n (q := 4) (L' := [.ref a0, .int x1, .int 0, .int 0]) rfl dX7_rulesOf_3 rfl (by decide) rfl rfl ?_
  exact tlX7_rulesOf_4  FU _ _ _ _ _ hf
def fX11_stamp (h : MH) (a0 : Nat) (x1 : Int32) (x2 : Int32) : Option (Int32 × MH) := bd (gR h a0 11 2) fun b1 => bd (ck h b1 5) fun _ => bd2 (fX5_hasStamp h b1 x1) fun v3 h1 => if v3 = 0 then (bd (ck h1 a0 11) fun _ => bd2 (fX11_refuse h1 a0 1) fun v5 h2 => some (v5, h2)) else (if x2 < 0 then (bd (ck h1 a0 11) fun _ => bd2 (fX11_refuse h1 a0 1) fun v5 h2 => some (v5, h2)) else (if x2 ≤ 4 then (if x2 = 0 then (bd (gR h1 a0 11 2) fun b4 => bd (gR h1 b4 5 0) fun b5 => bd (ck h1 b5 4) fun _ => bd2 (fX4_inkOf h1 b5 x1) fun v7 h2 => bd (ck h2 a0 11) fun _ => bd2 (fX11_answer h2 a0 v7) fun v9 h3 => some (v9, h3)) else (if x2 = 1 then (bd (gR h1 a0 11 2) fun b4 => bd (gR h1 b4 5 1) fun b5 => bd (gR h1 b5 7 2) fun b6 => bd (lI h1 b6 x1) fun v7 => bd (ck h1 a0 11) fun _ => bd2 (fX11_answer h1 a0 v7) fun v9 h2 => some (v9, h2)) else (if x2 = 2 then (bd (gR h1 a0 11 2) fun b4 => bd (gR h1 b4 5 1) fun b5 => bd (gR h1 b5 7 3) fun b6 => bd (lI h1 b6 x1) fun v7 => bd (ck h1 a0 11) fun _ => bd2 (fX11_answer h1 a0 v7) fun v9 h2 => some (v9, h2)) else (if x2 = 3 then (bd (gR h1 a0 11 2) fun b4 => bd (gR h1 b4 5 1) fun b5 => bd (ck h1 b5 7) fun _ => bd2 (fX7_rulesOf h1 b5 x1) fun v7 h2 => bd (ck h2 a0 11) fun _ => bd2 (fX11_answer h2 a0 v7) fun v9 h3 => some (v9, h3)) else (bd (gR h1 a0 11 2) fun b4 => bd (gR h1 b4 5 0) fun b5 => bd (ck h1 b5 4) fun _ => bd2 (fX4_pressesOfStamp h1 b5 x1) fun v7 h2 => bd (ck h2 a0 11) fun _ => bd2 (fX11_answer h2 a0 v7) fun v9 h3 => some (v9, h3)))))) else (bd (ck h1 a0 11) fun _ => bd2 (fX11_refuse h1 a0 1) fun v5 h2 => some (v5, h2))))
set_option maxRecDepth 20000 in
theorem tX11_stamp {r : Int32} {h' : MH} {h : MH} {a0 : Nat} {x1 : Int32} {x2 : Int32} (hf : fX11_stamp h a0 x1 x2 = some (r, h')) : VM mX11_stamp 1 (some (.int r)) h' h [.ref a0, .int x1, .int x2] := by
  show V TT mX11_stamp 1 _ h' h 0 [.ref a0, .int x1, .int x2] []
  unfold fX11_stamp at hf
  refine V.aload_n (q := 1) rfl dX11_stamp_0 rfl rfl ?_
  obtain ⟨b1, eb1, hf⟩ := bd_ex hf
  refine V.getR (q := 4) flX11_28 rfl eb1 dX11_stamp_1 rfl ?_
  refine V.iload_n (q := 5) rfl dX11_stamp_4 rfl rfl ?_
  obtain ⟨_, e2, hf⟩ := bd_ex hf
  obtain ⟨v3, h1, eh1, hf⟩ := bd2_ex hf
  refine V.callV (q := 8) (ci := 5) (vs := [.int x1]) (st := []) (S2 := [.int v3]) okX5_hasStamp imX5_hasStamp seX5_hasStamp rfl lkX11_152 (tX5_hasStamp eh1) rfl (ck_is e2) (by decide) rfl (Nat.le_of_ble_eq_true rfl) (Nat.le_of_ble_eq_true rfl) rfl dX11_stamp_5 rfl rfl ?_
  refine V.if_eq (q := 11) (tgt := 20) dX11_stamp_8 rfl (by decide) (fun c => ?_) (fun c => ?_)
  · rw [if_pos c] at hf
    refine V.aload_n (q := 21) rfl dX11_stamp_20 rfl rfl ?_
    refine V.iconst (q := 22) (v := 1) (by decide) dX11_stamp_21 rfl ?_
    obtain ⟨_, e4, hf⟩ := bd_ex hf
    obtain ⟨v5, h2, eh2, hf⟩ := bd2_ex hf
    refine V.callV (q := 25) (ci := 11) (vs := [.int 1]) (st := []) (S2 := [.int v5]) okX11_refuse imX11_refuse seX11_refuse rfl lkX11_101 (tX11_refuse eh2) rfl (ck_is e4) (by decide) rfl (Nat.le_of_ble_eq_true rfl) (Nat.le_of_ble_eq_true rfl) rfl dX11_stamp_22 rfl rfl ?_
    obtain ⟨rfl, rfl⟩ := ret_inj hf
    exact V.ret (r := some (.int v5)) trivial dX11_stamp_25
  · rw [if_neg c] at hf
    refine V.iload_n (q := 12) rfl dX11_stamp_11 rfl rfl ?_
    refine V.if_lt (q := 15) (tgt := 20) dX11_stamp_12 rfl (by decide) (fun c => ?_) (fun c => ?_)
    · rw [if_pos c] at hf
      refine V.aload_n (q := 21) rfl dX11_stamp_20 rfl rfl ?_
      refine V.iconst (q := 22) (v := 1) (by decide) dX11_stamp_21 rfl ?_
      obtain ⟨_, e4, hf⟩ := bd_ex hf
      obtain ⟨v5, h2, eh2, hf⟩ := bd2_ex hf
      refine V.callV (q := 25) (ci := 11) (vs := [.int 1]) (st := []) (S2 := [.int v5]) okX11_refuse imX11_refuse seX11_refuse rfl lkX11_101 (tX11_refuse eh2) rfl (ck_is e4) (by decide) rfl (Nat.le_of_ble_eq_true rfl) (Nat.le_of_ble_eq_true rfl) rfl dX11_stamp_22 rfl rfl ?_
      obtain ⟨rfl, rfl⟩ := ret_inj hf
      exact V.ret (r := some (.int v5)) trivial dX11_stamp_25
    · rw [if_neg c] at hf
      refine V.iload_n (q := 16) rfl dX11_stamp_15 rfl rfl ?_
      refine V.iconst (q := 17) (v := 4) (by decide) dX11_stamp_16 rfl ?_
      refine V.icmp_le (q := 20) (tgt := 26) dX11_stamp_17 rfl (by decide) (fun c => ?_) (fun c => ?_)
      · rw [if_pos c] at hf
        refine V.iload_n (q := 27) rfl dX11_stamp_26 rfl rfl ?_
        by_cases c0 : x2 = 0
        · rw [if_pos c0] at hf
          refine V.topI c0 ?_
          refine V.tableIn (q := 56) (off := 29) dX11_stamp_27 (by decide) (by decide) (by decide) (by decide) ?_
          refine V.aload_n (q := 57) rfl dX11_stamp_56 rfl rfl ?_
          refine V.aload_n (q := 58) rfl dX11_stamp_57 rfl rfl ?_
          obtain ⟨b4, eb4, hf⟩ := bd_ex hf
          refine V.getR (q := 61) flX11_28 rfl eb4 dX11_stamp_58 rfl ?_
          obtain ⟨b5, eb5, hf⟩ := bd_ex hf
          refine V.getR (q := 64) flX11_137 rfl eb5 dX11_stamp_61 rfl ?_
          refine V.iload_n (q := 65) rfl dX11_stamp_64 rfl rfl ?_
          obtain ⟨_, e6, hf⟩ := bd_ex hf
          obtain ⟨v7, h2, eh2, hf⟩ := bd2_ex hf
          refine V.callV (q := 68) (ci := 4) (vs := [.int x1]) (st := [.ref a0]) (S2 := [.int v7, .ref a0]) okX4_inkOf imX4_inkOf seX4_inkOf rfl lkX11_155 (tX4_inkOf eh2) rfl (ck_is e6) (by decide) rfl (Nat.le_of_ble_eq_true rfl) (Nat.le_of_ble_eq_true rfl) rfl dX11_stamp_65 rfl rfl ?_
          obtain ⟨_, e8, hf⟩ := bd_ex hf
          obtain ⟨v9, h3, eh3, hf⟩ := bd2_ex hf
          refine V.callV (q := 71) (ci := 11) (vs := [.int v7]) (st := []) (S2 := [.int v9]) okX11_answer imX11_answer seX11_answer rfl lkX11_127 (tX11_answer eh3) rfl (ck_is e8) (by decide) rfl (Nat.le_of_ble_eq_true rfl) (Nat.le_of_ble_eq_true rfl) rfl dX11_stamp_68 rfl rfl ?_
          obtain ⟨rfl, rfl⟩ := ret_inj hf
          exact V.ret (r := some (.int v9)) trivial dX11_stamp_71
        rw [if_neg c0] at hf
        by_cases c1 : x2 = 1
        · rw [if_pos c1] at hf
          refine V.topI c1 ?_
          refine V.tableIn (q := 72) (off := 45) dX11_stamp_27 (by decide) (by decide) (by decide) (by decide) ?_
          refine V.aload_n (q := 73) rfl dX11_stamp_72 rfl rfl ?_
          refine V.aload_n (q := 74) rfl dX11_stamp_73 rfl rfl ?_
          obtain ⟨b4, eb4, hf⟩ := bd_ex hf
          refine V.getR (q := 77) flX11_28 rfl eb4 dX11_stamp_74 rfl ?_
          obtain ⟨b5, eb5, hf⟩ := bd_ex hf
          refine V.getR (q := 80) flX11_118 rfl eb5 dX11_stamp_77 rfl ?_
          obtain ⟨b6, eb6, hf⟩ := bd_ex hf
          refine V.getR (q := 83) flX11_158 rfl eb6 dX11_stamp_80 rfl ?_
          refine V.iload_n (q := 84) rfl dX11_stamp_83 rfl rfl ?_
          obtain ⟨v7, ev7, hf⟩ := bd_ex hf
          refine V.iald (q := 85) ev7 dX11_stamp_84 rfl ?_
          obtain ⟨_, e8, hf⟩ := bd_ex hf
          obtain ⟨v9, h2, eh2, hf⟩ := bd2_ex hf
          refine V.callV (q := 88) (ci := 11) (vs := [.int v7]) (st := []) (S2 := [.int v9]) okX11_answer imX11_answer seX11_answer rfl lkX11_127 (tX11_answer eh2) rfl (ck_is e8) (by decide) rfl (Nat.le_of_ble_eq_true rfl) (Nat.le_of_ble_eq_true rfl) rfl dX11_stamp_85 rfl rfl ?_
          obtain ⟨rfl, rfl⟩ := ret_inj hf
          exact V.ret (r := some (.int v9)) trivial dX11_stamp_88
        rw [if_neg c1] at hf
        by_cases c2 : x2 = 2
        · rw [if_pos c2] at hf
          refine V.topI c2 ?_
          refine V.tableIn (q := 89) (off := 62) dX11_stamp_27 (by decide) (by decide) (by decide) (by decide) ?_
          refine V.aload_n (q := 90) rfl dX11_stamp_89 rfl rfl ?_
          refine V.aload_n (q := 91) rfl dX11_stamp_90 rfl rfl ?_
          obtain ⟨b4, eb4, hf⟩ := bd_ex hf
          refine V.getR (q := 94) flX11_28 rfl eb4 dX11_stamp_91 rfl ?_
          obtain ⟨b5, eb5, hf⟩ := bd_ex hf
          refine V.getR (q := 97) flX11_118 rfl eb5 dX11_stamp_94 rfl ?_
          obtain ⟨b6, eb6, hf⟩ := bd_ex hf
          refine V.getR (q := 100) flX11_161 rfl eb6 dX11_stamp_97 rfl ?_
          refine V.iload_n (q := 101) rfl dX11_stamp_100 rfl rfl ?_
          obtain ⟨v7, ev7, hf⟩ := bd_ex hf
          refine V.iald (q := 102) ev7 dX11_stamp_101 rfl ?_
          obtain ⟨_, e8, hf⟩ := bd_ex hf
          obtain ⟨v9, h2, eh2, hf⟩ := bd2_ex hf
          refine V.callV (q := 105) (ci := 11) (vs := [.int v7]) (st := []) (S2 := [.int v9]) okX11_answer imX11_answer seX11_answer rfl lkX11_127 (tX11_answer eh2) rfl (ck_is e8) (by decide) rfl (Nat.le_of_ble_eq_true rfl) (Nat.le_of_ble_eq_true rfl) rfl dX11_stamp_102 rfl rfl ?_
          obtain ⟨rfl, rfl⟩ := ret_inj hf
          exact V.ret (r := some (.int v9)) trivial dX11_stamp_105
        rw [if_neg c2] at hf
        by_cases c3 : x2 = 3
        · rw [if_pos c3] at hf
          refine V.topI c3 ?_
          refine V.tableIn (q := 106) (off := 79) dX11_stamp_27 (by decide) (by decide) (by decide) (by decide) ?_
          refine V.aload_n (q := 107) rfl dX11_stamp_106 rfl rfl ?_
          refine V.aload_n (q := 108) rfl dX11_stamp_107 rfl rfl ?_
          obtain ⟨b4, eb4, hf⟩ := bd_ex hf
          refine V.getR (q := 111) flX11_28 rfl eb4 dX11_stamp_108 rfl ?_
          obtain ⟨b5, eb5, hf⟩ := bd_ex hf
          refine V.getR (q := 114) flX11_118 rfl eb5 dX11_stamp_111 rfl ?_
          refine V.iload_n (q := 115) rfl dX11_stamp_114 rfl rfl ?_
          obtain ⟨_, e6, hf⟩ := bd_ex hf
          obtain ⟨v7, h2, eh2, hf⟩ := bd2_ex hf
          refine V.callV (q := 118) (ci := 7) (vs := [.int x1]) (st := [.ref a0]) (S2 := [.int v7, .ref a0]) okX7_rulesOf imX7_rulesOf seX7_rulesOf rfl lkX11_164 (tX7_rulesOf eh2) rfl (ck_is e6) (by decide) rfl (Nat.le_of_ble_eq_true rfl) (Nat.le_of_ble_eq_true rfl) rfl dX11_stamp_115 rfl rfl ?_
          obtain ⟨_, e8, hf⟩ := bd_ex hf
          obtain ⟨v9, h3, eh3, hf⟩ := bd2_ex hf
          refine V.callV (q := 121) (ci := 11) (vs := [.int v7]) (st := []) (S2 := [.int v9]) okX11_answer imX11_answer seX11_answer rfl lkX11_127 (tX11_answer eh3) rfl (ck_is e8) (by decide) rfl (Nat.le_of_ble_eq_true rfl) (Nat.le_of_ble_eq_true rfl) rfl dX11_stamp_118 rfl rfl ?_
          obtain ⟨rfl, rfl⟩ := ret_inj hf
          exact V.ret (r := some (.int v9)) trivial dX11_stamp_121
        rw [if_neg c3] at hf
        have hout : x2.toInt < 0 ∨ 3 < x2.toInt := tsw_out (lo := 0) (n := 3) (fun k h1 h2 => by
          have : k = 0 ∨ k = 1 ∨ k = 2 ∨ k = 3 := by omega
          rcases this with rfl | rfl | rfl | rfl
          · exact c0
          · exact c1
          · exact c2
          · exact c3) (by decide)
        refine V.tableOut (q := 122) dX11_stamp_27 hout (by decide) ?_
        refine V.aload_n (q := 123) rfl dX11_stamp_122 rfl rfl ?_
        refine V.aload_n (q := 124) rfl dX11_stamp_123 rfl rfl ?_
        obtain ⟨b4, eb4, hf⟩ := bd_ex hf
        refine V.getR (q := 127) flX11_28 rfl eb4 dX11_stamp_124 rfl ?_
        obtain ⟨b5, eb5, hf⟩ := bd_ex hf
        refine V.getR (q := 130) flX11_137 rfl eb5 dX11_stamp_127 rfl ?_
        refine V.iload_n (q := 131) rfl dX11_stamp_130 rfl rfl ?_
        obtain ⟨_, e6, hf⟩ := bd_ex hf
        obtain ⟨v7, h2, eh2, hf⟩ := bd2_ex hf
        refine V.callV (q := 134) (ci := 4) (vs := [.int x1]) (st := [.ref a0]) (S2 := [.int v7, .ref a0]) okX4_pressesOfStamp imX4_pressesOfStamp seX4_pressesOfStamp rfl lkX11_167 (tX4_pressesOfStamp eh2) rfl (ck_is e6) (by decide) rfl (Nat.le_of_ble_eq_true rfl) (Nat.le_of_ble_eq_true rfl) rfl dX11_stamp_131 rfl rfl ?_
        obtain ⟨_, e8, hf⟩ := bd_ex hf
        obtain ⟨v9, h3, eh3, hf⟩ := bd2_ex hf
        refine V.callV (q := 137) (ci := 11) (vs := [.int v7]) (st := []) (S2 := [.int v9]) okX11_answer imX11_answer seX11_answer rfl lkX11_127 (tX11_answer eh3) rfl (ck_is e8) (by decide) rfl (Nat.le_of_ble_eq_true rfl) (Nat.le_of_ble_eq_true rfl) rfl dX11_stamp_134 rfl rfl ?_
        obtain ⟨rfl, rfl⟩ := ret_inj hf
        exact V.ret (r := some (.int v9)) trivial dX11_stamp_137
      · rw [if_neg c] at hf
        refine V.aload_n (q := 21) rfl dX11_stamp_20 rfl rfl ?_
        refine V.iconst (q := 22) (v := 1) (by decide) dX11_stamp_21 rfl ?_
        obtain ⟨_, e4, hf⟩ := bd_ex hf
        obtain ⟨v5, h2, eh2, hf⟩ := bd2_ex hf
        refine V.callV (q := 25) (ci := 11) (vs := [.int 1]) (st := []) (S2 := [.int v5]) okX11_refuse imX11_refuse seX11_refuse rfl lkX11_101 (tX11_refuse eh2) rfl (ck_is e4) (by decide) rfl (Nat.le_of_ble_eq_true rfl) (Nat.le_of_ble_eq_true rfl) rfl dX11_stamp_22 rfl rfl ?_
        obtain ⟨rfl, rfl⟩ := ret_inj hf
        exact V.ret (r := some (.int v5)) trivial dX11_stamp_25
def fX11_steady (h : MH) (a0 : Nat) : Option (Int32 × MH) := bd (gI h a0 11 9) fun v1 => if v1 = 0 then (bd (ck h a0 11) fun _ => bd2 (fX11_refuse h a0 1) fun v3 h1 => some (v3, h1)) else (bd (gR h a0 11 6) fun b2 => bd (ck h b2 0) fun _ => bd2 (fX0_unchangedSets h b2 ) fun v4 h1 => bd (ck h1 a0 11) fun _ => bd2 (fX11_answer h1 a0 v4) fun v6 h2 => some (v6, h2))
set_option maxRecDepth 20000 in
theorem tX11_steady {r : Int32} {h' : MH} {h : MH} {a0 : Nat} (hf : fX11_steady h a0 = some (r, h')) : VM mX11_steady 5 (some (.int r)) h' h [.ref a0] := by
  show V TT mX11_steady 5 _ h' h 0 [.ref a0] []
  unfold fX11_steady at hf
  refine V.aload_n (q := 1) rfl dX11_steady_0 rfl rfl ?_
  obtain ⟨v1, ev1, hf⟩ := bd_ex hf
  refine V.getI (q := 4) flX11_76 rfl ev1 dX11_steady_1 rfl ?_
  refine V.if_ne (q := 7) (tgt := 13) dX11_steady_4 rfl (by decide) (fun c => ?_) (fun c => ?_)
  · rw [if_neg c] at hf
    refine V.aload_n (q := 14) rfl dX11_steady_13 rfl rfl ?_
    refine V.aload_n (q := 15) rfl dX11_steady_14 rfl rfl ?_
    obtain ⟨b2, eb2, hf⟩ := bd_ex hf
    refine V.getR (q := 18) flX11_58 rfl eb2 dX11_steady_15 rfl ?_
    obtain ⟨_, e3, hf⟩ := bd_ex hf
    obtain ⟨v4, h1, eh1, hf⟩ := bd2_ex hf
    refine V.callV (q := 21) (ci := 0) (vs := []) (st := [.ref a0]) (S2 := [.int v4, .ref a0]) okX0_unchangedSets imX0_unchangedSets seX0_unchangedSets rfl lkX11_294 (tX0_unchangedSets eh1) rfl (ck_is e3) (by decide) rfl (Nat.le_of_ble_eq_true rfl) (Nat.le_of_ble_eq_true rfl) rfl dX11_steady_18 rfl rfl ?_
    obtain ⟨_, e5, hf⟩ := bd_ex hf
    obtain ⟨v6, h2, eh2, hf⟩ := bd2_ex hf
    refine V.callV (q := 24) (ci := 11) (vs := [.int v4]) (st := []) (S2 := [.int v6]) okX11_answer imX11_answer seX11_answer rfl lkX11_127 (tX11_answer eh2) rfl (ck_is e5) (by decide) rfl (Nat.le_of_ble_eq_true rfl) (Nat.le_of_ble_eq_true rfl) rfl dX11_steady_21 rfl rfl ?_
    obtain ⟨rfl, rfl⟩ := ret_inj hf
    exact V.ret (r := some (.int v6)) trivial dX11_steady_24
  · rw [if_pos c] at hf
    refine V.aload_n (q := 8) rfl dX11_steady_7 rfl rfl ?_
    refine V.iconst (q := 9) (v := 1) (by decide) dX11_steady_8 rfl ?_
    obtain ⟨_, e2, hf⟩ := bd_ex hf
    obtain ⟨v3, h1, eh1, hf⟩ := bd2_ex hf
    refine V.callV (q := 12) (ci := 11) (vs := [.int 1]) (st := []) (S2 := [.int v3]) okX11_refuse imX11_refuse seX11_refuse rfl lkX11_101 (tX11_refuse eh1) rfl (ck_is e2) (by decide) rfl (Nat.le_of_ble_eq_true rfl) (Nat.le_of_ble_eq_true rfl) rfl dX11_steady_9 rfl rfl ?_
    obtain ⟨rfl, rfl⟩ := ret_inj hf
    exact V.ret (r := some (.int v3)) trivial dX11_steady_12
def fX11_sure (h : MH) (a0 : Nat) (x1 : Int32) (x2 : Int32) (x3 : Int32) (x4 : Int32) (x5 : Int32) : Option (Int64 × MH) := bd (gR h a0 11 2) fun b1 => bd (ck h b1 5) fun _ => bd2 (fX5_hasAll h b1 x1 x2 x3) fun v3 h1 => if v3 = 0 then (bd (ck h1 a0 11) fun _ => bd2 (fX11_refuse h1 a0 1) fun v5 h2 => some ((Int32.toInt64 v5), h2)) else (bd2 (fX11_isVerdict h1 x4) fun v4 h2 => if v4 = 0 then (bd (ck h2 a0 11) fun _ => bd2 (fX11_refuse h2 a0 2) fun v6 h3 => some ((Int32.toInt64 v6), h3)) else (bd (gR h2 a0 11 2) fun b5 => bd (gR h2 a0 11 2) fun b6 => bd (ck h2 b6 5) fun _ => bd2 (fX5_sayOn h2 b6 x1 x3) fun v8 h3 => bd (ck h3 b5 5) fun _ => bd2 (fX5_hundredths h3 b5 x2 v8 x4) fun v10 h4 => bd (ck h4 a0 11) fun _ => bd2 (fX11_answerPart h4 a0 (Int32.toInt64 v10) 100 x5) fun w12 h5 => some (w12, h5)))
set_option maxRecDepth 20000 in
theorem tX11_sure {r : Int64} {h' : MH} {h : MH} {a0 : Nat} {x1 : Int32} {x2 : Int32} {x3 : Int32} {x4 : Int32} {x5 : Int32} (hf : fX11_sure h a0 x1 x2 x3 x4 x5 = some (r, h')) : VM mX11_sure 3 (some (.long r)) h' h [.ref a0, .int x1, .int x2, .int x3, .int x4, .int x5] := by
  show V TT mX11_sure 3 _ h' h 0 [.ref a0, .int x1, .int x2, .int x3, .int x4, .int x5] []
  unfold fX11_sure at hf
  refine V.aload_n (q := 1) rfl dX11_sure_0 rfl rfl ?_
  obtain ⟨b1, eb1, hf⟩ := bd_ex hf
  refine V.getR (q := 4) flX11_28 rfl eb1 dX11_sure_1 rfl ?_
  refine V.iload_n (q := 5) rfl dX11_sure_4 rfl rfl ?_
  refine V.iload_n (q := 6) rfl dX11_sure_5 rfl rfl ?_
  refine V.iload_n (q := 7) rfl dX11_sure_6 rfl rfl ?_
  obtain ⟨_, e2, hf⟩ := bd_ex hf
  obtain ⟨v3, h1, eh1, hf⟩ := bd2_ex hf
  refine V.callV (q := 10) (ci := 5) (vs := [.int x1, .int x2, .int x3]) (st := []) (S2 := [.int v3]) okX5_hasAll imX5_hasAll seX5_hasAll rfl lkX11_211 (tX5_hasAll eh1) rfl (ck_is e2) (by decide) rfl (Nat.le_of_ble_eq_true rfl) (Nat.le_of_ble_eq_true rfl) rfl dX11_sure_7 rfl rfl ?_
  refine V.if_ne (q := 13) (tgt := 20) dX11_sure_10 rfl (by decide) (fun c => ?_) (fun c => ?_)
  · rw [if_neg c] at hf
    refine V.iload (q := 22) dX11_sure_20 rfl rfl ?_
    obtain ⟨v4, h2, eh2, hf⟩ := bd2_ex hf
    refine V.callS (q := 25) (vs := [.int x4]) (st := []) (S2 := [.int v4]) okX11_isVerdict stX11_isVerdict lkX11_218 (tX11_isVerdict eh2) rfl (by decide) rfl (Nat.le_of_ble_eq_true rfl) (Nat.le_of_ble_eq_true rfl) rfl dX11_sure_22 rfl rfl ?_
    refine V.if_ne (q := 28) (tgt := 35) dX11_sure_25 rfl (by decide) (fun c => ?_) (fun c => ?_)
    · rw [if_neg c] at hf
      refine V.aload_n (q := 36) rfl dX11_sure_35 rfl rfl ?_
      refine V.aload_n (q := 37) rfl dX11_sure_36 rfl rfl ?_
      obtain ⟨b5, eb5, hf⟩ := bd_ex hf
      refine V.getR (q := 40) flX11_28 rfl eb5 dX11_sure_37 rfl ?_
      refine V.iload_n (q := 41) rfl dX11_sure_40 rfl rfl ?_
      refine V.aload_n (q := 42) rfl dX11_sure_41 rfl rfl ?_
      obtain ⟨b6, eb6, hf⟩ := bd_ex hf
      refine V.getR (q := 45) flX11_28 rfl eb6 dX11_sure_42 rfl ?_
      refine V.iload_n (q := 46) rfl dX11_sure_45 rfl rfl ?_
      refine V.iload_n (q := 47) rfl dX11_sure_46 rfl rfl ?_
      obtain ⟨_, e7, hf⟩ := bd_ex hf
      obtain ⟨v8, h3, eh3, hf⟩ := bd2_ex hf
      refine V.callV (q := 50) (ci := 5) (vs := [.int x1, .int x3]) (st := [.int x2, .ref b5, .ref a0]) (S2 := [.int v8, .int x2, .ref b5, .ref a0]) okX5_sayOn imX5_sayOn seX5_sayOn rfl lkX11_197 (tX5_sayOn eh3) rfl (ck_is e7) (by decide) rfl (Nat.le_of_ble_eq_true rfl) (Nat.le_of_ble_eq_true rfl) rfl dX11_sure_47 rfl rfl ?_
      refine V.iload (q := 52) dX11_sure_50 rfl rfl ?_
      obtain ⟨_, e9, hf⟩ := bd_ex hf
      obtain ⟨v10, h4, eh4, hf⟩ := bd2_ex hf
      refine V.callV (q := 55) (ci := 5) (vs := [.int x2, .int v8, .int x4]) (st := [.ref a0]) (S2 := [.int v10, .ref a0]) okX5_hundredths imX5_hundredths seX5_hundredths rfl lkX11_315 (tX5_hundredths eh4) rfl (ck_is e9) (by decide) rfl (Nat.le_of_ble_eq_true rfl) (Nat.le_of_ble_eq_true rfl) rfl dX11_sure_52 rfl rfl ?_
      refine V.i2l (q := 56) dX11_sure_55 rfl ?_
      refine V.ldc2 (q := 59) kcX11_268 dX11_sure_56 rfl ?_
      refine V.iload (q := 61) dX11_sure_59 rfl rfl ?_
      obtain ⟨_, e11, hf⟩ := bd_ex hf
      obtain ⟨w12, h5, eh5, hf⟩ := bd2_ex hf
      refine V.callV (q := 64) (ci := 11) (vs := [.long (Int32.toInt64 v10), .long 100, .int x5]) (st := []) (S2 := [.long w12]) okX11_answerPart imX11_answerPart seX11_answerPart rfl lkX11_257 (tX11_answerPart eh5) rfl (ck_is e11) (by decide) rfl (Nat.le_of_ble_eq_true rfl) (Nat.le_of_ble_eq_true rfl) rfl dX11_sure_61 rfl rfl ?_
      obtain ⟨rfl, rfl⟩ := ret_inj hf
      exact V.ret (r := some (.long w12)) trivial dX11_sure_64
    · rw [if_pos c] at hf
      refine V.aload_n (q := 29) rfl dX11_sure_28 rfl rfl ?_
      refine V.iconst (q := 30) (v := 2) (by decide) dX11_sure_29 rfl ?_
      obtain ⟨_, e5, hf⟩ := bd_ex hf
      obtain ⟨v6, h3, eh3, hf⟩ := bd2_ex hf
      refine V.callV (q := 33) (ci := 11) (vs := [.int 2]) (st := []) (S2 := [.int v6]) okX11_refuse imX11_refuse seX11_refuse rfl lkX11_101 (tX11_refuse eh3) rfl (ck_is e5) (by decide) rfl (Nat.le_of_ble_eq_true rfl) (Nat.le_of_ble_eq_true rfl) rfl dX11_sure_30 rfl rfl ?_
      refine V.i2l (q := 34) dX11_sure_33 rfl ?_
      obtain ⟨rfl, rfl⟩ := ret_inj hf
      exact V.ret (r := some (.long (Int32.toInt64 v6))) trivial dX11_sure_34
  · rw [if_pos c] at hf
    refine V.aload_n (q := 14) rfl dX11_sure_13 rfl rfl ?_
    refine V.iconst (q := 15) (v := 1) (by decide) dX11_sure_14 rfl ?_
    obtain ⟨_, e4, hf⟩ := bd_ex hf
    obtain ⟨v5, h2, eh2, hf⟩ := bd2_ex hf
    refine V.callV (q := 18) (ci := 11) (vs := [.int 1]) (st := []) (S2 := [.int v5]) okX11_refuse imX11_refuse seX11_refuse rfl lkX11_101 (tX11_refuse eh2) rfl (ck_is e4) (by decide) rfl (Nat.le_of_ble_eq_true rfl) (Nat.le_of_ble_eq_true rfl) rfl dX11_sure_15 rfl rfl ?_
    refine V.i2l (q := 19) dX11_sure_18 rfl ?_
    obtain ⟨rfl, rfl⟩ := ret_inj hf
    exact V.ret (r := some (.long (Int32.toInt64 v5))) trivial dX11_sure_19
def fX11_trouble (h : MH) (a0 : Nat) : Option (Int32 × MH) := bd (gI h a0 11 10) fun v1 => some (v1, h)
set_option maxRecDepth 20000 in
theorem tX11_trouble {r : Int32} {h' : MH} {h : MH} {a0 : Nat} (hf : fX11_trouble h a0 = some (r, h')) : VM mX11_trouble 0 (some (.int r)) h' h [.ref a0] := by
  show V TT mX11_trouble 0 _ h' h 0 [.ref a0] []
  unfold fX11_trouble at hf
  refine V.aload_n (q := 1) rfl dX11_trouble_0 rfl rfl ?_
  obtain ⟨v1, ev1, hf⟩ := bd_ex hf
  refine V.getI (q := 4) flX11_80 rfl ev1 dX11_trouble_1 rfl ?_
  obtain ⟨rfl, rfl⟩ := ret_inj hf
  exact V.ret (r := some (.int v1)) trivial dX11_trouble_4
def bX9_mostLeft_6 (k6 : MH → Nat → Int64 → Int32 → Int32 → Int32 → Option (Int32 × MH)) (h : MH) (a0 : Nat) (y1 : Int64) (x3 : Int32) (x4 : Int32) (x5 : Int32) : Option (Int32 × MH) := if 3 ≤ x5 then (some (x4, h)) else (bd (ck h a0 9) fun _ => bd2 (fX9_lawsThatSay h a0 y1 x3 x5) fun v2 h1 => bd (some (mMax x4 v2)) fun v3 => bd (some (x5 + 1)) fun v4 => k6 h1 a0 y1 x3 v3 v4)
set_option maxRecDepth 20000 in
theorem tX9_mostLeft_6 {r : Int32} {h' : MH} (k6 : MH → Nat → Int64 → Int32 → Int32 → Int32 → Option (Int32 × MH)) (hk6 : ∀ (h : MH) (a0 : Nat) (y1 : Int64) (x3 : Int32) (x4 : Int32) (x5 : Int32), k6 h a0 y1 x3 x4 x5 = some (r, h') → V TT mX9_mostLeft 3 (some (.int r)) h' h 6 [.ref a0, .long y1, Jk, .int x3, .int x4, .int x5] [])  {h : MH} {a0 : Nat} {y1 : Int64} {x3 : Int32} {x4 : Int32} {x5 : Int32} (hf : bX9_mostLeft_6 k6 h a0 y1 x3 x4 x5 = some (r, h')) : V TT mX9_mostLeft 3 (some (.int r)) h' h 6 [.ref a0, .long y1, Jk, .int x3, .int x4, .int x5] [] := by
  unfold bX9_mostLeft_6 at hf
  refine V.iload (q := 8) dX9_mostLeft_6 rfl rfl ?_
  refine V.iconst (q := 9) (v := 3) (by decide) dX9_mostLeft_8 rfl ?_
  refine V.icmp_ge (q := 12) (tgt := 33) dX9_mostLeft_9 rfl (by decide) (fun c => ?_) (fun c => ?_)
  · rw [if_pos c] at hf
    refine V.iload (q := 35) dX9_mostLeft_33 rfl rfl ?_
    obtain ⟨rfl, rfl⟩ := ret_inj hf
    exact V.ret (r := some (.int x4)) trivial dX9_mostLeft_35
  · rw [if_neg c] at hf
    refine V.iload (q := 14) dX9_mostLeft_12 rfl rfl ?_
    refine V.aload_n (q := 15) rfl dX9_mostLeft_14 rfl rfl ?_
    refine V.lload_n (q := 16) rfl dX9_mostLeft_15 rfl rfl ?_
    refine V.iload_n (q := 17) rfl dX9_mostLeft_16 rfl rfl ?_
    refine V.iload (q := 19) dX9_mostLeft_17 rfl rfl ?_
    obtain ⟨_, e1, hf⟩ := bd_ex hf
    obtain ⟨v2, h1, eh1, hf⟩ := bd2_ex hf
    refine V.callV (q := 22) (ci := 9) (vs := [.long y1, .int x3, .int x5]) (st := [.int x4]) (S2 := [.int v2, .int x4]) okX9_lawsThatSay imX9_lawsThatSay seX9_lawsThatSay rfl lkX9_87 (tX9_lawsThatSay eh1) rfl (ck_is e1) (by decide) rfl (Nat.le_of_ble_eq_true rfl) (Nat.le_of_ble_eq_true rfl) rfl dX9_mostLeft_19 rfl rfl ?_
    obtain ⟨v3, ev3, hf⟩ := bd_ex hf
    refine V.mMax (q := 25) lkX9_91 (by decide) (Nat.le_of_ble_eq_true rfl) dX9_mostLeft_22 rfl ?_
    refine V.topI (Option.some.inj ev3) ?_
    refine V.istore (q := 27) (L' := [.ref a0, .long y1, Jk, .int x3, .int v3, .int x5]) dX9_mostLeft_25 rfl (by decide) rfl rfl ?_
    obtain ⟨v4, ev4, hf⟩ := bd_ex hf
    refine V.iinc (q := 30) (v := v4) (L' := [.ref a0, .long y1, Jk, .int x3, .int v3, .int v4]) dX9_mostLeft_27 rfl rfl (Option.some.inj ev4) (by decide) rfl rfl ?_
    refine V.goto (q := 6) dX9_mostLeft_30 (by decide) ?_
    exact hk6 _ _ _ _ _ _ hf
def fX9_mostLeft_6  : Nat → MH → Nat → Int64 → Int32 → Int32 → Int32 → Option (Int32 × MH)
  | 0 => fun _ _ _ _ _ _ => none
  | n + 1 => bX9_mostLeft_6  (fX9_mostLeft_6  n)
theorem tlX9_mostLeft_6 {r : Int32} {h' : MH}   : ∀ (n : Nat) (h : MH) (a0 : Nat) (y1 : Int64) (x3 : Int32) (x4 : Int32) (x5 : Int32), fX9_mostLeft_6  n h a0 y1 x3 x4 x5 = some (r, h') → V TT mX9_mostLeft 3 (some (.int r)) h' h 6 [.ref a0, .long y1, Jk, .int x3, .int x4, .int x5] [] := by
  intro n
  induction n with
  | zero => intro h a0 y1 x3 x4 x5 hf; exact nomatch (show (none : Option (Int32 × MH)) = some (r, h') from hf)
  | succ n ih => intro h a0 y1 x3 x4 x5 hf; exact tX9_mostLeft_6  (fX9_mostLeft_6  n) ih hf
def fX9_mostLeft (h : MH) (a0 : Nat) (y1 : Int64) (x3 : Int32) : Option (Int32 × MH) := fX9_mostLeft_6 FU h a0 y1 x3 0 0
set_option maxRecDepth 20000 in
theorem tX9_mostLeft {r : Int32} {h' : MH} {h : MH} {a0 : Nat} {y1 : Int64} {x3 : Int32} (hf : fX9_mostLeft h a0 y1 x3 = some (r, h')) : VM mX9_mostLeft 3 (some (.int r)) h' h [.ref a0, .long y1, .int x3] := by
  show V TT mX9_mostLeft 3 _ h' h 0 [.ref a0, .long y1, Jk, .int x3, Jk, Jk] []
  unfold fX9_mostLeft at hf
  refine V.iconst (q := 1) (v := 0) (by decide) dX9_mostLeft_0 rfl ?_
  refine V.istore (q := 3) (L' := [.ref a0, .long y1, Jk, .int x3, .int 0, Jk]) dX9_mostLeft_1 rfl (by decide) rfl rfl ?_
  refine V.iconst (q := 4) (v := 0) (by decide) dX9_mostLeft_3 rfl ?_
  refine V.istore (q := 6) (L' := [.ref a0, .long y1, Jk, .int x3, .int 0, .int 0]) dX9_mostLeft_4 rfl (by decide) rfl rfl ?_
  exact tlX9_mostLeft_6  FU _ _ _ _ _ _ hf
def bX9_paperToTryOf_9 (k9 : MH → Nat → Int64 → Int32 → Int32 → Int32 → Option (Int32 × MH)) (h : MH) (a0 : Nat) (y1 : Int64) (x3 : Int32) (x4 : Int32) (x5 : Int32) : Option (Int32 × MH) := bd (gR h a0 9 0) fun b1 => bd (gR h b1 5 1) fun b2 => bd (gI h b2 7 14) fun v3 => if v3 ≤ x5 then (some (x3, h)) else (if (lg_cmp y1 0) = 0 then (some (x3, h)) else (bd (ck h a0 9) fun _ => bd2 (fX9_mostLeft h a0 y1 x5) fun v5 h1 => if x3 < 0 then (bd (some (x5 + 1)) fun v6 => k9 h1 a0 y1 x5 v5 v6) else (if x4 ≤ v5 then (bd (some (x5 + 1)) fun v6 => k9 h1 a0 y1 x3 x4 v6) else (bd (some (x5 + 1)) fun v6 => k9 h1 a0 y1 x5 v5 v6))))
set_option maxRecDepth 20000 in
theorem tX9_paperToTryOf_9 {r : Int32} {h' : MH} (k9 : MH → Nat → Int64 → Int32 → Int32 → Int32 → Option (Int32 × MH)) (hk9 : ∀ (h : MH) (a0 : Nat) (y1 : Int64) (x3 : Int32) (x4 : Int32) (x5 : Int32), k9 h a0 y1 x3 x4 x5 = some (r, h') → V TT mX9_paperToTryOf 4 (some (.int r)) h' h 9 [.ref a0, .long y1, Jk, .int x3, .int x4, .int x5, Jk] [])  {h : MH} {a0 : Nat} {y1 : Int64} {x3 : Int32} {x4 : Int32} {x5 : Int32} (hf : bX9_paperToTryOf_9 k9 h a0 y1 x3 x4 x5 = some (r, h')) : V TT mX9_paperToTryOf 4 (some (.int r)) h' h 9 [.ref a0, .long y1, Jk, .int x3, .int x4, .int x5, Jk] [] := by
  unfold bX9_paperToTryOf_9 at hf
  refine V.iload (q := 11) dX9_paperToTryOf_9 rfl rfl ?_
  refine V.aload_n (q := 12) rfl dX9_paperToTryOf_11 rfl rfl ?_
  obtain ⟨b1, eb1, hf⟩ := bd_ex hf
  refine V.getR (q := 15) flX9_9 rfl eb1 dX9_paperToTryOf_12 rfl ?_
  obtain ⟨b2, eb2, hf⟩ := bd_ex hf
  refine V.getR (q := 18) flX9_15 rfl eb2 dX9_paperToTryOf_15 rfl ?_
  obtain ⟨v3, ev3, hf⟩ := bd_ex hf
  refine V.getI (q := 21) flX9_96 rfl ev3 dX9_paperToTryOf_18 rfl ?_
  refine V.icmp_ge (q := 24) (tgt := 63) dX9_paperToTryOf_21 rfl (by decide) (fun c => ?_) (fun c => ?_)
  · rw [if_pos c] at hf
    refine V.iload_n (q := 64) rfl dX9_paperToTryOf_63 rfl rfl ?_
    obtain ⟨rfl, rfl⟩ := ret_inj hf
    exact V.ret (r := some (.int x3)) trivial dX9_paperToTryOf_64
  · rw [if_neg c] at hf
    refine V.lload_n (q := 25) rfl dX9_paperToTryOf_24 rfl rfl ?_
    refine V.lconst (q := 26) (v := 0) (by decide) dX9_paperToTryOf_25 rfl ?_
    refine V.lcmp (q := 27) dX9_paperToTryOf_26 rfl ?_
    refine V.if_eq (q := 30) (tgt := 63) dX9_paperToTryOf_27 rfl (by decide) (fun c => ?_) (fun c => ?_)
    · rw [if_pos c] at hf
      refine V.iload_n (q := 64) rfl dX9_paperToTryOf_63 rfl rfl ?_
      obtain ⟨rfl, rfl⟩ := ret_inj hf
      exact V.ret (r := some (.int x3)) trivial dX9_paperToTryOf_64
    · rw [if_neg c] at hf
      refine V.aload_n (q := 31) rfl dX9_paperToTryOf_30 rfl rfl ?_
      refine V.lload_n (q := 32) rfl dX9_paperToTryOf_31 rfl rfl ?_
      refine V.iload (q := 34) dX9_paperToTryOf_32 rfl rfl ?_
      obtain ⟨_, e4, hf⟩ := bd_ex hf
      obtain ⟨v5, h1, eh1, hf⟩ := bd2_ex hf
      refine V.callV (q := 37) (ci := 9) (vs := [.long y1, .int x5]) (st := []) (S2 := [.int v5]) okX9_mostLeft imX9_mostLeft seX9_mostLeft rfl lkX9_99 (tX9_mostLeft eh1) rfl (ck_is e4) (by decide) rfl (Nat.le_of_ble_eq_true rfl) (Nat.le_of_ble_eq_true rfl) rfl dX9_paperToTryOf_34 rfl rfl ?_
      refine V.istore (q := 39) (L' := [.ref a0, .long y1, Jk, .int x3, .int x4, .int x5, .int v5]) dX9_paperToTryOf_37 rfl (by decide) rfl rfl ?_
      refine V.iload_n (q := 40) rfl dX9_paperToTryOf_39 rfl rfl ?_
      refine V.if_lt (q := 43) (tgt := 50) dX9_paperToTryOf_40 rfl (by decide) (fun c => ?_) (fun c => ?_)
      · rw [if_pos c] at hf
        refine V.iload (q := 52) dX9_paperToTryOf_50 rfl rfl ?_
        refine V.istore (q := 54) (L' := [.ref a0, .long y1, Jk, .int x3, .int v5, .int x5, .int v5]) dX9_paperToTryOf_52 rfl (by decide) rfl rfl ?_
        refine V.iload (q := 56) dX9_paperToTryOf_54 rfl rfl ?_
        refine V.istore_n (q := 57) (L' := [.ref a0, .long y1, Jk, .int x5, .int v5, .int x5, .int v5]) rfl dX9_paperToTryOf_56 rfl (by decide) rfl rfl ?_
        obtain ⟨v6, ev6, hf⟩ := bd_ex hf
        refine V.iinc (q := 60) (v := v6) (L' := [.ref a0, .long y1, Jk, .int x5, .int v5, .int v6, .int v5]) dX9_paperToTryOf_57 rfl rfl (Option.some.inj ev6) (by decide) rfl rfl ?_
        refine V.goto (q := 9) dX9_paperToTryOf_60 (by decide) ?_
        refine V.forget (L' := [.ref a0, .long y1, Jk, .int x5, .int v5, .int v6, Jk]) ⟨Or.inr rfl, Or.inr rfl, Or.inl rfl, Or.inr rfl, Or.inr rfl, Or.inr rfl, Or.inl rfl, trivial⟩ ?_
        exact hk9 _ _ _ _ _ _ hf
      · rw [if_neg c] at hf
        refine V.iload (q := 45) dX9_paperToTryOf_43 rfl rfl ?_
        refine V.iload (q := 47) dX9_paperToTryOf_45 rfl rfl ?_
        refine V.icmp_ge (q := 50) (tgt := 57) dX9_paperToTryOf_47 rfl (by decide) (fun c => ?_) (fun c => ?_)
        · rw [if_pos c] at hf
          obtain ⟨v6, ev6, hf⟩ := bd_ex hf
          refine V.iinc (q := 60) (v := v6) (L' := [.ref a0, .long y1, Jk, .int x3, .int x4, .int v6, .int v5]) dX9_paperToTryOf_57 rfl rfl (Option.some.inj ev6) (by decide) rfl rfl ?_
          refine V.goto (q := 9) dX9_paperToTryOf_60 (by decide) ?_
          refine V.forget (L' := [.ref a0, .long y1, Jk, .int x3, .int x4, .int v6, Jk]) ⟨Or.inr rfl, Or.inr rfl, Or.inl rfl, Or.inr rfl, Or.inr rfl, Or.inr rfl, Or.inl rfl, trivial⟩ ?_
          exact hk9 _ _ _ _ _ _ hf
        · rw [if_neg c] at hf
          refine V.iload (q := 52) dX9_paperToTryOf_50 rfl rfl ?_
          refine V.istore (q := 54) (L' := [.ref a0, .long y1, Jk, .int x3, .int v5, .int x5, .int v5]) dX9_paperToTryOf_52 rfl (by decide) rfl rfl ?_
          refine V.iload (q := 56) dX9_paperToTryOf_54 rfl rfl ?_
          refine V.istore_n (q := 57) (L' := [.ref a0, .long y1, Jk, .int x5, .int v5, .int x5, .int v5]) rfl dX9_paperToTryOf_56 rfl (by decide) rfl rfl ?_
          obtain ⟨v6, ev6, hf⟩ := bd_ex hf
          refine V.iinc (q := 60) (v := v6) (L' := [.ref a0, .long y1, Jk, .int x5, .int v5, .int v6, .int v5]) dX9_paperToTryOf_57 rfl rfl (Option.some.inj ev6) (by decide) rfl rfl ?_
          refine V.goto (q := 9) dX9_paperToTryOf_60 (by decide) ?_
          refine V.forget (L' := [.ref a0, .long y1, Jk, .int x5, .int v5, .int v6, Jk]) ⟨Or.inr rfl, Or.inr rfl, Or.inl rfl, Or.inr rfl, Or.inr rfl, Or.inr rfl, Or.inl rfl, trivial⟩ ?_
          exact hk9 _ _ _ _ _ _ hf
def fX9_paperToTryOf_9  : Nat → MH → Nat → Int64 → Int32 → Int32 → Int32 → Option (Int32 × MH)
  | 0 => fun _ _ _ _ _ _ => none
  | n + 1 => bX9_paperToTryOf_9  (fX9_paperToTryOf_9  n)
theorem tlX9_paperToTryOf_9 {r : Int32} {h' : MH}   : ∀ (n : Nat) (h : MH) (a0 : Nat) (y1 : Int64) (x3 : Int32) (x4 : Int32) (x5 : Int32), fX9_paperToTryOf_9  n h a0 y1 x3 x4 x5 = some (r, h') → V TT mX9_paperToTryOf 4 (some (.int r)) h' h 9 [.ref a0, .long y1, Jk, .int x3, .int x4, .int x5, Jk] [] := by
  intro n
  induction n with
  | zero => intro h a0 y1 x3 x4 x5 hf; exact nomatch (show (none : Option (Int32 × MH)) = some (r, h') from hf)
  | succ n ih => intro h a0 y1 x3 x4 x5 hf; exact tX9_paperToTryOf_9  (fX9_paperToTryOf_9  n) ih hf
def fX9_paperToTryOf (h : MH) (a0 : Nat) (y1 : Int64) : Option (Int32 × MH) := fX9_paperToTryOf_9 FU h a0 y1 (-2) 0 0
set_option maxRecDepth 20000 in
theorem tX9_paperToTryOf {r : Int32} {h' : MH} {h : MH} {a0 : Nat} {y1 : Int64} (hf : fX9_paperToTryOf h a0 y1 = some (r, h')) : VM mX9_paperToTryOf 4 (some (.int r)) h' h [.ref a0, .long y1] := by
  show V TT mX9_paperToTryOf 4 _ h' h 0 [.ref a0, .long y1, Jk, Jk, Jk, Jk, Jk] []
  unfold fX9_paperToTryOf at hf
  refine V.bipush (q := 2) (v := (-2)) (by decide) dX9_paperToTryOf_0 rfl ?_
  refine V.istore_n (q := 3) (L' := [.ref a0, .long y1, Jk, .int (-2), Jk, Jk, Jk]) rfl dX9_paperToTryOf_2 rfl (by decide) rfl rfl ?_
  refine V.iconst (q := 4) (v := 0) (by decide) dX9_paperToTryOf_3 rfl ?_
  refine V.istore (q := 6) (L' := [.ref a0, .long y1, Jk, .int (-2), .int 0, Jk, Jk]) dX9_paperToTryOf_4 rfl (by decide) rfl rfl ?_
  refine V.iconst (q := 7) (v := 0) (by decide) dX9_paperToTryOf_6 rfl ?_
  refine V.istore (q := 9) (L' := [.ref a0, .long y1, Jk, .int (-2), .int 0, .int 0, Jk]) dX9_paperToTryOf_7 rfl (by decide) rfl rfl ?_
  exact tlX9_paperToTryOf_9  FU _ _ _ _ _ _ hf
def fX9_fewestLeft (h : MH) (a0 : Nat) : Option (Int32 × MH) := bd (ck h a0 9) fun _ => bd2 (fX9_fittingLaws h a0 ) fun w2 h1 => bd (ck h1 a0 9) fun _ => bd2 (fX9_paperToTryOf h1 a0 w2) fun v4 h2 => if v4 < 0 then (some ((-2), h2)) else (bd (ck h2 a0 9) fun _ => bd2 (fX9_mostLeft h2 a0 w2 v4) fun v6 h3 => some (v6, h3))
set_option maxRecDepth 20000 in
theorem tX9_fewestLeft {r : Int32} {h' : MH} {h : MH} {a0 : Nat} (hf : fX9_fewestLeft h a0 = some (r, h')) : VM mX9_fewestLeft 5 (some (.int r)) h' h [.ref a0] := by
  show V TT mX9_fewestLeft 5 _ h' h 0 [.ref a0, Jk, Jk, Jk] []
  unfold fX9_fewestLeft at hf
  refine V.aload_n (q := 1) rfl dX9_fewestLeft_0 rfl rfl ?_
  obtain ⟨_, e1, hf⟩ := bd_ex hf
  obtain ⟨w2, h1, eh1, hf⟩ := bd2_ex hf
  refine V.callV (q := 4) (ci := 9) (vs := []) (st := []) (S2 := [.long w2]) okX9_fittingLaws imX9_fittingLaws seX9_fittingLaws rfl lkX9_83 (tX9_fittingLaws eh1) rfl (ck_is e1) (by decide) rfl (Nat.le_of_ble_eq_true rfl) (Nat.le_of_ble_eq_true rfl) rfl dX9_fewestLeft_1 rfl rfl ?_
  refine V.lstore_n (q := 5) (L' := [.ref a0, .long w2, Jk, Jk]) rfl dX9_fewestLeft_4 rfl (by decide) rfl rfl ?_
  refine V.aload_n (q := 6) rfl dX9_fewestLeft_5 rfl rfl ?_
  refine V.lload_n (q := 7) rfl dX9_fewestLeft_6 rfl rfl ?_
  obtain ⟨_, e3, hf⟩ := bd_ex hf
  obtain ⟨v4, h2, eh2, hf⟩ := bd2_ex hf
  refine V.callV (q := 10) (ci := 9) (vs := [.long w2]) (st := []) (S2 := [.int v4]) okX9_paperToTryOf imX9_paperToTryOf seX9_paperToTryOf rfl lkX9_103 (tX9_paperToTryOf eh2) rfl (ck_is e3) (by decide) rfl (Nat.le_of_ble_eq_true rfl) (Nat.le_of_ble_eq_true rfl) rfl dX9_fewestLeft_7 rfl rfl ?_
  refine V.istore_n (q := 11) (L' := [.ref a0, .long w2, Jk, .int v4]) rfl dX9_fewestLeft_10 rfl (by decide) rfl rfl ?_
  refine V.iload_n (q := 12) rfl dX9_fewestLeft_11 rfl rfl ?_
  refine V.if_lt (q := 15) (tgt := 24) dX9_fewestLeft_12 rfl (by decide) (fun c => ?_) (fun c => ?_)
  · rw [if_pos c] at hf
    refine V.bipush (q := 26) (v := (-2)) (by decide) dX9_fewestLeft_24 rfl ?_
    obtain ⟨rfl, rfl⟩ := ret_inj hf
    exact V.ret (r := some (.int (-2))) trivial dX9_fewestLeft_26
  · rw [if_neg c] at hf
    refine V.aload_n (q := 16) rfl dX9_fewestLeft_15 rfl rfl ?_
    refine V.lload_n (q := 17) rfl dX9_fewestLeft_16 rfl rfl ?_
    refine V.iload_n (q := 18) rfl dX9_fewestLeft_17 rfl rfl ?_
    obtain ⟨_, e5, hf⟩ := bd_ex hf
    obtain ⟨v6, h3, eh3, hf⟩ := bd2_ex hf
    refine V.callV (q := 21) (ci := 9) (vs := [.long w2, .int v4]) (st := []) (S2 := [.int v6]) okX9_mostLeft imX9_mostLeft seX9_mostLeft rfl lkX9_99 (tX9_mostLeft eh3) rfl (ck_is e5) (by decide) rfl (Nat.le_of_ble_eq_true rfl) (Nat.le_of_ble_eq_true rfl) rfl dX9_fewestLeft_18 rfl rfl ?_
    refine V.goto (q := 26) dX9_fewestLeft_21 (by decide) ?_
    obtain ⟨rfl, rfl⟩ := ret_inj hf
    exact V.ret (r := some (.int v6)) trivial dX9_fewestLeft_26
def fX11_tryLeaves (h : MH) (a0 : Nat) : Option (Int32 × MH) := bd (gI h a0 11 9) fun v1 => if v1 = 0 then (bd (ck h a0 11) fun _ => bd2 (fX11_refuse h a0 1) fun v3 h1 => some (v3, h1)) else (bd (gR h a0 11 5) fun b2 => bd (ck h b2 9) fun _ => bd2 (fX9_fewestLeft h b2 ) fun v4 h1 => bd (ck h1 a0 11) fun _ => bd2 (fX11_answer h1 a0 v4) fun v6 h2 => some (v6, h2))
set_option maxRecDepth 20000 in
theorem tX11_tryLeaves {r : Int32} {h' : MH} {h : MH} {a0 : Nat} (hf : fX11_tryLeaves h a0 = some (r, h')) : VM mX11_tryLeaves 6 (some (.int r)) h' h [.ref a0] := by
  show V TT mX11_tryLeaves 6 _ h' h 0 [.ref a0] []
  unfold fX11_tryLeaves at hf
  refine V.aload_n (q := 1) rfl dX11_tryLeaves_0 rfl rfl ?_
  obtain ⟨v1, ev1, hf⟩ := bd_ex hf
  refine V.getI (q := 4) flX11_76 rfl ev1 dX11_tryLeaves_1 rfl ?_
  refine V.if_ne (q := 7) (tgt := 13) dX11_tryLeaves_4 rfl (by decide) (fun c => ?_) (fun c => ?_)
  · rw [if_neg c] at hf
    refine V.aload_n (q := 14) rfl dX11_tryLeaves_13 rfl rfl ?_
    refine V.aload_n (q := 15) rfl dX11_tryLeaves_14 rfl rfl ?_
    obtain ⟨b2, eb2, hf⟩ := bd_ex hf
    refine V.getR (q := 18) flX11_51 rfl eb2 dX11_tryLeaves_15 rfl ?_
    obtain ⟨_, e3, hf⟩ := bd_ex hf
    obtain ⟨v4, h1, eh1, hf⟩ := bd2_ex hf
    refine V.callV (q := 21) (ci := 9) (vs := []) (st := [.ref a0]) (S2 := [.int v4, .ref a0]) okX9_fewestLeft imX9_fewestLeft seX9_fewestLeft rfl lkX11_285 (tX9_fewestLeft eh1) rfl (ck_is e3) (by decide) rfl (Nat.le_of_ble_eq_true rfl) (Nat.le_of_ble_eq_true rfl) rfl dX11_tryLeaves_18 rfl rfl ?_
    obtain ⟨_, e5, hf⟩ := bd_ex hf
    obtain ⟨v6, h2, eh2, hf⟩ := bd2_ex hf
    refine V.callV (q := 24) (ci := 11) (vs := [.int v4]) (st := []) (S2 := [.int v6]) okX11_answer imX11_answer seX11_answer rfl lkX11_127 (tX11_answer eh2) rfl (ck_is e5) (by decide) rfl (Nat.le_of_ble_eq_true rfl) (Nat.le_of_ble_eq_true rfl) rfl dX11_tryLeaves_21 rfl rfl ?_
    obtain ⟨rfl, rfl⟩ := ret_inj hf
    exact V.ret (r := some (.int v6)) trivial dX11_tryLeaves_24
  · rw [if_pos c] at hf
    refine V.aload_n (q := 8) rfl dX11_tryLeaves_7 rfl rfl ?_
    refine V.iconst (q := 9) (v := 1) (by decide) dX11_tryLeaves_8 rfl ?_
    obtain ⟨_, e2, hf⟩ := bd_ex hf
    obtain ⟨v3, h1, eh1, hf⟩ := bd2_ex hf
    refine V.callV (q := 12) (ci := 11) (vs := [.int 1]) (st := []) (S2 := [.int v3]) okX11_refuse imX11_refuse seX11_refuse rfl lkX11_101 (tX11_refuse eh1) rfl (ck_is e2) (by decide) rfl (Nat.le_of_ble_eq_true rfl) (Nat.le_of_ble_eq_true rfl) rfl dX11_tryLeaves_9 rfl rfl ?_
    obtain ⟨rfl, rfl⟩ := ret_inj hf
    exact V.ret (r := some (.int v3)) trivial dX11_tryLeaves_12
def fX9_paperToTry (h : MH) (a0 : Nat) : Option (Int32 × MH) := bd (ck h a0 9) fun _ => bd2 (fX9_fittingLaws h a0 ) fun w2 h1 => bd (ck h1 a0 9) fun _ => bd2 (fX9_paperToTryOf h1 a0 w2) fun v4 h2 => some (v4, h2)
set_option maxRecDepth 20000 in
theorem tX9_paperToTry {r : Int32} {h' : MH} {h : MH} {a0 : Nat} (hf : fX9_paperToTry h a0 = some (r, h')) : VM mX9_paperToTry 5 (some (.int r)) h' h [.ref a0] := by
  show V TT mX9_paperToTry 5 _ h' h 0 [.ref a0] []
  unfold fX9_paperToTry at hf
  refine V.aload_n (q := 1) rfl dX9_paperToTry_0 rfl rfl ?_
  refine V.aload_n (q := 2) rfl dX9_paperToTry_1 rfl rfl ?_
  obtain ⟨_, e1, hf⟩ := bd_ex hf
  obtain ⟨w2, h1, eh1, hf⟩ := bd2_ex hf
  refine V.callV (q := 5) (ci := 9) (vs := []) (st := [.ref a0]) (S2 := [.long w2, .ref a0]) okX9_fittingLaws imX9_fittingLaws seX9_fittingLaws rfl lkX9_83 (tX9_fittingLaws eh1) rfl (ck_is e1) (by decide) rfl (Nat.le_of_ble_eq_true rfl) (Nat.le_of_ble_eq_true rfl) rfl dX9_paperToTry_2 rfl rfl ?_
  obtain ⟨_, e3, hf⟩ := bd_ex hf
  obtain ⟨v4, h2, eh2, hf⟩ := bd2_ex hf
  refine V.callV (q := 8) (ci := 9) (vs := [.long w2]) (st := []) (S2 := [.int v4]) okX9_paperToTryOf imX9_paperToTryOf seX9_paperToTryOf rfl lkX9_103 (tX9_paperToTryOf eh2) rfl (ck_is e3) (by decide) rfl (Nat.le_of_ble_eq_true rfl) (Nat.le_of_ble_eq_true rfl) rfl dX9_paperToTry_5 rfl rfl ?_
  obtain ⟨rfl, rfl⟩ := ret_inj hf
  exact V.ret (r := some (.int v4)) trivial dX9_paperToTry_8
def fX11_tryNext (h : MH) (a0 : Nat) : Option (Int32 × MH) := bd (gI h a0 11 9) fun v1 => if v1 = 0 then (bd (ck h a0 11) fun _ => bd2 (fX11_refuse h a0 1) fun v3 h1 => some (v3, h1)) else (bd (gR h a0 11 5) fun b2 => bd (ck h b2 9) fun _ => bd2 (fX9_paperToTry h b2 ) fun v4 h1 => bd (ck h1 a0 11) fun _ => bd2 (fX11_answer h1 a0 v4) fun v6 h2 => some (v6, h2))
set_option maxRecDepth 20000 in
theorem tX11_tryNext {r : Int32} {h' : MH} {h : MH} {a0 : Nat} (hf : fX11_tryNext h a0 = some (r, h')) : VM mX11_tryNext 6 (some (.int r)) h' h [.ref a0] := by
  show V TT mX11_tryNext 6 _ h' h 0 [.ref a0] []
  unfold fX11_tryNext at hf
  refine V.aload_n (q := 1) rfl dX11_tryNext_0 rfl rfl ?_
  obtain ⟨v1, ev1, hf⟩ := bd_ex hf
  refine V.getI (q := 4) flX11_76 rfl ev1 dX11_tryNext_1 rfl ?_
  refine V.if_ne (q := 7) (tgt := 13) dX11_tryNext_4 rfl (by decide) (fun c => ?_) (fun c => ?_)
  · rw [if_neg c] at hf
    refine V.aload_n (q := 14) rfl dX11_tryNext_13 rfl rfl ?_
    refine V.aload_n (q := 15) rfl dX11_tryNext_14 rfl rfl ?_
    obtain ⟨b2, eb2, hf⟩ := bd_ex hf
    refine V.getR (q := 18) flX11_51 rfl eb2 dX11_tryNext_15 rfl ?_
    obtain ⟨_, e3, hf⟩ := bd_ex hf
    obtain ⟨v4, h1, eh1, hf⟩ := bd2_ex hf
    refine V.callV (q := 21) (ci := 9) (vs := []) (st := [.ref a0]) (S2 := [.int v4, .ref a0]) okX9_paperToTry imX9_paperToTry seX9_paperToTry rfl lkX11_282 (tX9_paperToTry eh1) rfl (ck_is e3) (by decide) rfl (Nat.le_of_ble_eq_true rfl) (Nat.le_of_ble_eq_true rfl) rfl dX11_tryNext_18 rfl rfl ?_
    obtain ⟨_, e5, hf⟩ := bd_ex hf
    obtain ⟨v6, h2, eh2, hf⟩ := bd2_ex hf
    refine V.callV (q := 24) (ci := 11) (vs := [.int v4]) (st := []) (S2 := [.int v6]) okX11_answer imX11_answer seX11_answer rfl lkX11_127 (tX11_answer eh2) rfl (ck_is e5) (by decide) rfl (Nat.le_of_ble_eq_true rfl) (Nat.le_of_ble_eq_true rfl) rfl dX11_tryNext_21 rfl rfl ?_
    obtain ⟨rfl, rfl⟩ := ret_inj hf
    exact V.ret (r := some (.int v6)) trivial dX11_tryNext_24
  · rw [if_pos c] at hf
    refine V.aload_n (q := 8) rfl dX11_tryNext_7 rfl rfl ?_
    refine V.iconst (q := 9) (v := 1) (by decide) dX11_tryNext_8 rfl ?_
    obtain ⟨_, e2, hf⟩ := bd_ex hf
    obtain ⟨v3, h1, eh1, hf⟩ := bd2_ex hf
    refine V.callV (q := 12) (ci := 11) (vs := [.int 1]) (st := []) (S2 := [.int v3]) okX11_refuse imX11_refuse seX11_refuse rfl lkX11_101 (tX11_refuse eh1) rfl (ck_is e2) (by decide) rfl (Nat.le_of_ble_eq_true rfl) (Nat.le_of_ble_eq_true rfl) rfl dX11_tryNext_9 rfl rfl ?_
    obtain ⟨rfl, rfl⟩ := ret_inj hf
    exact V.ret (r := some (.int v3)) trivial dX11_tryNext_12
def bX6_takeBack_19  (h : MH) (a0 : Nat) (a1 : Nat) (xs0 : Int32) (as1 : Nat) : Option (MH) := bd (pI h as1 6 2 xs0) fun h1 => bd (gR h1 a0 6 0) fun b1 => bd (gI h1 a0 6 2) fun v2 => bd (lR h1 b1 v2) fun b3 => bd (ck h1 a1 4) fun _ => bd (fX4_copyFrom h1 a1 b3) fun h2 => bd (gI h2 a0 6 3) fun v5 => bd (pI h2 a0 6 3 (v5 - 1)) fun h3 => some h3
set_option maxRecDepth 20000 in
theorem tX6_takeBack_19 {h' : MH}   {h : MH} {a0 : Nat} {a1 : Nat} {xs0 : Int32} {as1 : Nat} (hf : bX6_takeBack_19  h a0 a1 xs0 as1 = some h') : V TT mX6_takeBack 1 none h' h 19 [.ref a0, .ref a1] [.int xs0, .ref as1] := by
  unfold bX6_takeBack_19 at hf
  obtain ⟨h1, eh1, hf⟩ := bd_ex hf
  refine V.putI (q := 22) (fpX6_26 rfl) rfl eh1 dX6_takeBack_19 rfl ?_
  refine V.aload_n (q := 23) rfl dX6_takeBack_22 rfl rfl ?_
  refine V.aload_n (q := 24) rfl dX6_takeBack_23 rfl rfl ?_
  obtain ⟨b1, eb1, hf⟩ := bd_ex hf
  refine V.getR (q := 27) flX6_13 rfl eb1 dX6_takeBack_24 rfl ?_
  refine V.aload_n (q := 28) rfl dX6_takeBack_27 rfl rfl ?_
  obtain ⟨v2, ev2, hf⟩ := bd_ex hf
  refine V.getI (q := 31) flX6_26 rfl ev2 dX6_takeBack_28 rfl ?_
  obtain ⟨b3, eb3, hf⟩ := bd_ex hf
  refine V.aald (q := 32) eb3 dX6_takeBack_31 rfl ?_
  obtain ⟨_, e4, hf⟩ := bd_ex hf
  obtain ⟨h2, eh2, hf⟩ := bd_ex hf
  refine V.callV (q := 35) (ci := 4) (vs := [.ref b3]) (st := []) (S2 := []) okX4_copyFrom imX4_copyFrom seX4_copyFrom rfl lkX6_33 (tX4_copyFrom eh2) rfl (ck_is e4) (by decide) rfl (Nat.le_of_ble_eq_true rfl) (Nat.le_of_ble_eq_true rfl) rfl dX6_takeBack_32 rfl rfl ?_
  refine V.aload_n (q := 36) rfl dX6_takeBack_35 rfl rfl ?_
  refine V.dupR (q := 37) dX6_takeBack_36 rfl ?_
  obtain ⟨v5, ev5, hf⟩ := bd_ex hf
  refine V.getI (q := 40) flX6_19 rfl ev5 dX6_takeBack_37 rfl ?_
  refine V.iconst (q := 41) (v := 1) (by decide) dX6_takeBack_40 rfl ?_
  refine V.isub (q := 42) dX6_takeBack_41 rfl ?_
  obtain ⟨h3, eh3, hf⟩ := bd_ex hf
  refine V.putI (q := 45) (fpX6_19 rfl) rfl eh3 dX6_takeBack_42 rfl ?_
  cases hf
  exact V.ret (r := none) trivial dX6_takeBack_45
def fX6_takeBack (h : MH) (a0 : Nat) (a1 : Nat) : Option (MH) := bd (gI h a0 6 2) fun v1 => if v1 ≤ 0 then (bX6_takeBack_19 h a0 a1 15 a0) else (bd (gI h a0 6 2) fun v2 => bX6_takeBack_19 h a0 a1 (v2 - 1) a0)
set_option maxRecDepth 20000 in
theorem tX6_takeBack {h' : MH} {h : MH} {a0 : Nat} {a1 : Nat} (hf : fX6_takeBack h a0 a1 = some h') : VM mX6_takeBack 1 none h' h [.ref a0, .ref a1] := by
  show V TT mX6_takeBack 1 _ h' h 0 [.ref a0, .ref a1] []
  unfold fX6_takeBack at hf
  refine V.aload_n (q := 1) rfl dX6_takeBack_0 rfl rfl ?_
  refine V.aload_n (q := 2) rfl dX6_takeBack_1 rfl rfl ?_
  obtain ⟨v1, ev1, hf⟩ := bd_ex hf
  refine V.getI (q := 5) flX6_26 rfl ev1 dX6_takeBack_2 rfl ?_
  refine V.if_le (q := 8) (tgt := 17) dX6_takeBack_5 rfl (by decide) (fun c => ?_) (fun c => ?_)
  · rw [if_pos c] at hf
    refine V.bipush (q := 19) (v := 15) (by decide) dX6_takeBack_17 rfl ?_
    exact tX6_takeBack_19  hf
  · rw [if_neg c] at hf
    refine V.aload_n (q := 9) rfl dX6_takeBack_8 rfl rfl ?_
    obtain ⟨v2, ev2, hf⟩ := bd_ex hf
    refine V.getI (q := 12) flX6_26 rfl ev2 dX6_takeBack_9 rfl ?_
    refine V.iconst (q := 13) (v := 1) (by decide) dX6_takeBack_12 rfl ?_
    refine V.isub (q := 14) dX6_takeBack_13 rfl ?_
    refine V.goto (q := 19) dX6_takeBack_14 (by decide) ?_
    exact tX6_takeBack_19  hf
def fX11_undo (h : MH) (a0 : Nat) : Option (Int32 × MH) := bd (gR h a0 11 3) fun b1 => bd (gI h b1 6 3) fun v2 => if 0 < v2 then (bd (gR h a0 11 3) fun b3 => bd (gR h a0 11 2) fun b4 => bd (gR h b4 5 0) fun b5 => bd (ck h b3 6) fun _ => bd (fX6_takeBack h b3 b5) fun h1 => bd (ck h1 a0 11) fun _ => bd2 (fX11_allow h1 a0 ) fun v8 h2 => rB v8 h2) else (bd (ck h a0 11) fun _ => bd2 (fX11_deny h a0 6) fun v4 h1 => rB v4 h1)
set_option maxRecDepth 20000 in
theorem tX11_undo {r : Int32} {h' : MH} {h : MH} {a0 : Nat} (hf : fX11_undo h a0 = some (r, h')) : VM mX11_undo 2 (some (.int r)) h' h [.ref a0] := by
  show V TT mX11_undo 2 _ h' h 0 [.ref a0] []
  unfold fX11_undo at hf
  refine V.aload_n (q := 1) rfl dX11_undo_0 rfl rfl ?_
  obtain ⟨b1, eb1, hf⟩ := bd_ex hf
  refine V.getR (q := 4) flX11_35 rfl eb1 dX11_undo_1 rfl ?_
  obtain ⟨v2, ev2, hf⟩ := bd_ex hf
  refine V.getI (q := 7) flX11_369 rfl ev2 dX11_undo_4 rfl ?_
  refine V.if_gt (q := 10) (tgt := 17) dX11_undo_7 rfl (by decide) (fun c => ?_) (fun c => ?_)
  · rw [if_pos c] at hf
    refine V.aload_n (q := 18) rfl dX11_undo_17 rfl rfl ?_
    obtain ⟨b3, eb3, hf⟩ := bd_ex hf
    refine V.getR (q := 21) flX11_35 rfl eb3 dX11_undo_18 rfl ?_
    refine V.aload_n (q := 22) rfl dX11_undo_21 rfl rfl ?_
    obtain ⟨b4, eb4, hf⟩ := bd_ex hf
    refine V.getR (q := 25) flX11_28 rfl eb4 dX11_undo_22 rfl ?_
    obtain ⟨b5, eb5, hf⟩ := bd_ex hf
    refine V.getR (q := 28) flX11_137 rfl eb5 dX11_undo_25 rfl ?_
    obtain ⟨_, e6, hf⟩ := bd_ex hf
    obtain ⟨h1, eh1, hf⟩ := bd_ex hf
    refine V.callV (q := 31) (ci := 6) (vs := [.ref b5]) (st := []) (S2 := []) okX6_takeBack imX6_takeBack seX6_takeBack rfl lkX11_372 (tX6_takeBack eh1) rfl (ck_is e6) (by decide) rfl (Nat.le_of_ble_eq_true rfl) (Nat.le_of_ble_eq_true rfl) rfl dX11_undo_28 rfl rfl ?_
    refine V.aload_n (q := 32) rfl dX11_undo_31 rfl rfl ?_
    obtain ⟨_, e7, hf⟩ := bd_ex hf
    obtain ⟨v8, h2, eh2, hf⟩ := bd2_ex hf
    refine V.callV (q := 35) (ci := 11) (vs := []) (st := []) (S2 := [.int v8]) okX11_allow imX11_allow seX11_allow rfl lkX11_353 (tX11_allow eh2) rfl (ck_is e7) (by decide) rfl (Nat.le_of_ble_eq_true rfl) (Nat.le_of_ble_eq_true rfl) rfl dX11_undo_32 rfl rfl ?_
    obtain ⟨hb, rfl, rfl⟩ := rB_inj hf
    exact V.ret (r := some (.int v8)) hb dX11_undo_35
  · rw [if_neg c] at hf
    refine V.aload_n (q := 11) rfl dX11_undo_10 rfl rfl ?_
    refine V.bipush (q := 13) (v := 6) (by decide) dX11_undo_11 rfl ?_
    obtain ⟨_, e3, hf⟩ := bd_ex hf
    obtain ⟨v4, h1, eh1, hf⟩ := bd2_ex hf
    refine V.callV (q := 16) (ci := 11) (vs := [.int 6]) (st := []) (S2 := [.int v4]) okX11_deny imX11_deny seX11_deny rfl lkX11_347 (tX11_deny eh1) rfl (ck_is e3) (by decide) rfl (Nat.le_of_ble_eq_true rfl) (Nat.le_of_ble_eq_true rfl) rfl dX11_undo_13 rfl rfl ?_
    obtain ⟨hb, rfl, rfl⟩ := rB_inj hf
    exact V.ret (r := some (.int v4)) hb dX11_undo_16
def fX11_where (h : MH) (a0 : Nat) : Option (Int32 × MH) := bd (gI h a0 11 10) fun v1 => if v1 = 4 then (bd (gI h a0 11 12) fun v2 => some (v2, h)) else (some ((-1), h))
set_option maxRecDepth 20000 in
theorem tX11_where {r : Int32} {h' : MH} {h : MH} {a0 : Nat} (hf : fX11_where h a0 = some (r, h')) : VM mX11_where 0 (some (.int r)) h' h [.ref a0] := by
  show V TT mX11_where 0 _ h' h 0 [.ref a0] []
  unfold fX11_where at hf
  refine V.aload_n (q := 1) rfl dX11_where_0 rfl rfl ?_
  obtain ⟨v1, ev1, hf⟩ := bd_ex hf
  refine V.getI (q := 4) flX11_80 rfl ev1 dX11_where_1 rfl ?_
  refine V.iconst (q := 5) (v := 4) (by decide) dX11_where_4 rfl ?_
  refine V.icmp_ne (q := 8) (tgt := 15) dX11_where_5 rfl (by decide) (fun c => ?_) (fun c => ?_)
  · rw [if_neg c] at hf
    refine V.iconst (q := 16) (v := (-1)) (by decide) dX11_where_15 rfl ?_
    obtain ⟨rfl, rfl⟩ := ret_inj hf
    exact V.ret (r := some (.int (-1))) trivial dX11_where_16
  · rw [if_pos c] at hf
    refine V.aload_n (q := 9) rfl dX11_where_8 rfl rfl ?_
    obtain ⟨v2, ev2, hf⟩ := bd_ex hf
    refine V.getI (q := 12) flX11_87 rfl ev2 dX11_where_9 rfl ?_
    refine V.goto (q := 16) dX11_where_12 (by decide) ?_
    obtain ⟨rfl, rfl⟩ := ret_inj hf
    exact V.ret (r := some (.int v2)) trivial dX11_where_16
def bX5_fewestMarksForYes_17 (k17 : MH → Nat → Int32 → Int32 → Int32 → Option (Int32 × MH)) (h : MH) (a0 : Nat) (x1 : Int32) (x2 : Int32) (x3 : Int32) : Option (Int32 × MH) := bd (gR h a0 5 1) fun b1 => bd (ck h b1 7) fun _ => bd2 (fX7_markSets h b1 ) fun v3 h1 => if v3 ≤ x3 then (some (x2, h1)) else (bd2 (fX5_isFewer h1 x3 x2) fun v4 h2 => if v4 = 0 then (bd (some (x3 + 1)) fun v5 => k17 h2 a0 x1 x2 v5) else (bd (ck h2 a0 5) fun _ => bd2 (fX5_stampsThatSay h2 a0 x3 1) fun v6 h3 => if v6 = x1 then (bd (some (x3 + 1)) fun v7 => k17 h3 a0 x1 x3 v7) else (bd (some (x3 + 1)) fun v7 => k17 h3 a0 x1 x2 v7)))
set_option maxRecDepth 20000 in
theorem tX5_fewestMarksForYes_17 {r : Int32} {h' : MH} (k17 : MH → Nat → Int32 → Int32 → Int32 → Option (Int32 × MH)) (hk17 : ∀ (h : MH) (a0 : Nat) (x1 : Int32) (x2 : Int32) (x3 : Int32), k17 h a0 x1 x2 x3 = some (r, h') → V TT mX5_fewestMarksForYes 3 (some (.int r)) h' h 17 [.ref a0, .int x1, .int x2, .int x3] [])  {h : MH} {a0 : Nat} {x1 : Int32} {x2 : Int32} {x3 : Int32} (hf : bX5_fewestMarksForYes_17 k17 h a0 x1 x2 x3 = some (r, h')) : V TT mX5_fewestMarksForYes 3 (some (.int r)) h' h 17 [.ref a0, .int x1, .int x2, .int x3] [] := by
  unfold bX5_fewestMarksForYes_17 at hf
  refine V.iload_n (q := 18) rfl dX5_fewestMarksForYes_17 rfl rfl ?_
  refine V.aload_n (q := 19) rfl dX5_fewestMarksForYes_18 rfl rfl ?_
  obtain ⟨b1, eb1, hf⟩ := bd_ex hf
  refine V.getR (q := 22) flX5_21 rfl eb1 dX5_fewestMarksForYes_19 rfl ?_
  obtain ⟨_, e2, hf⟩ := bd_ex hf
  obtain ⟨v3, h1, eh1, hf⟩ := bd2_ex hf
  refine V.callV (q := 25) (ci := 7) (vs := []) (st := [.int x3]) (S2 := [.int v3, .int x3]) okX7_markSets imX7_markSets seX7_markSets rfl lkX5_97 (tX7_markSets eh1) rfl (ck_is e2) (by decide) rfl (Nat.le_of_ble_eq_true rfl) (Nat.le_of_ble_eq_true rfl) rfl dX5_fewestMarksForYes_22 rfl rfl ?_
  refine V.icmp_ge (q := 28) (tgt := 54) dX5_fewestMarksForYes_25 rfl (by decide) (fun c => ?_) (fun c => ?_)
  · rw [if_pos c] at hf
    refine V.iload_n (q := 55) rfl dX5_fewestMarksForYes_54 rfl rfl ?_
    obtain ⟨rfl, rfl⟩ := ret_inj hf
    exact V.ret (r := some (.int x2)) trivial dX5_fewestMarksForYes_55
  · rw [if_neg c] at hf
    refine V.iload_n (q := 29) rfl dX5_fewestMarksForYes_28 rfl rfl ?_
    refine V.iload_n (q := 30) rfl dX5_fewestMarksForYes_29 rfl rfl ?_
    obtain ⟨v4, h2, eh2, hf⟩ := bd2_ex hf
    refine V.callS (q := 33) (vs := [.int x3, .int x2]) (st := []) (S2 := [.int v4]) okX5_isFewer stX5_isFewer lkX5_101 (tX5_isFewer eh2) rfl (by decide) rfl (Nat.le_of_ble_eq_true rfl) (Nat.le_of_ble_eq_true rfl) rfl dX5_fewestMarksForYes_30 rfl rfl ?_
    refine V.if_eq (q := 36) (tgt := 48) dX5_fewestMarksForYes_33 rfl (by decide) (fun c => ?_) (fun c => ?_)
    · rw [if_pos c] at hf
      obtain ⟨v5, ev5, hf⟩ := bd_ex hf
      refine V.iinc (q := 51) (v := v5) (L' := [.ref a0, .int x1, .int x2, .int v5]) dX5_fewestMarksForYes_48 rfl rfl (Option.some.inj ev5) (by decide) rfl rfl ?_
      refine V.goto (q := 17) dX5_fewestMarksForYes_51 (by decide) ?_
      exact hk17 _ _ _ _ _ hf
    · rw [if_neg c] at hf
      refine V.aload_n (q := 37) rfl dX5_fewestMarksForYes_36 rfl rfl ?_
      refine V.iload_n (q := 38) rfl dX5_fewestMarksForYes_37 rfl rfl ?_
      refine V.iconst (q := 39) (v := 1) (by decide) dX5_fewestMarksForYes_38 rfl ?_
      obtain ⟨_, e5, hf⟩ := bd_ex hf
      obtain ⟨v6, h3, eh3, hf⟩ := bd2_ex hf
      refine V.callV (q := 42) (ci := 5) (vs := [.int x3, .int 1]) (st := []) (S2 := [.int v6]) okX5_stampsThatSay imX5_stampsThatSay seX5_stampsThatSay rfl lkX5_105 (tX5_stampsThatSay eh3) rfl (ck_is e5) (by decide) rfl (Nat.le_of_ble_eq_true rfl) (Nat.le_of_ble_eq_true rfl) rfl dX5_fewestMarksForYes_39 rfl rfl ?_
      refine V.iload_n (q := 43) rfl dX5_fewestMarksForYes_42 rfl rfl ?_
      refine V.icmp_ne (q := 46) (tgt := 48) dX5_fewestMarksForYes_43 rfl (by decide) (fun c => ?_) (fun c => ?_)
      · rw [if_neg c] at hf
        obtain ⟨v7, ev7, hf⟩ := bd_ex hf
        refine V.iinc (q := 51) (v := v7) (L' := [.ref a0, .int x1, .int x2, .int v7]) dX5_fewestMarksForYes_48 rfl rfl (Option.some.inj ev7) (by decide) rfl rfl ?_
        refine V.goto (q := 17) dX5_fewestMarksForYes_51 (by decide) ?_
        exact hk17 _ _ _ _ _ hf
      · rw [if_pos c] at hf
        refine V.iload_n (q := 47) rfl dX5_fewestMarksForYes_46 rfl rfl ?_
        refine V.istore_n (q := 48) (L' := [.ref a0, .int x1, .int x3, .int x3]) rfl dX5_fewestMarksForYes_47 rfl (by decide) rfl rfl ?_
        obtain ⟨v7, ev7, hf⟩ := bd_ex hf
        refine V.iinc (q := 51) (v := v7) (L' := [.ref a0, .int x1, .int x3, .int v7]) dX5_fewestMarksForYes_48 rfl rfl (Option.some.inj ev7) (by decide) rfl rfl ?_
        refine V.goto (q := 17) dX5_fewestMarksForYes_51 (by decide) ?_
        exact hk17 _ _ _ _ _ hf
def fX5_fewestMarksForYes_17  : Nat → MH → Nat → Int32 → Int32 → Int32 → Option (Int32 × MH)
  | 0 => fun _ _ _ _ _ => none
  | n + 1 => bX5_fewestMarksForYes_17  (fX5_fewestMarksForYes_17  n)
theorem tlX5_fewestMarksForYes_17 {r : Int32} {h' : MH}   : ∀ (n : Nat) (h : MH) (a0 : Nat) (x1 : Int32) (x2 : Int32) (x3 : Int32), fX5_fewestMarksForYes_17  n h a0 x1 x2 x3 = some (r, h') → V TT mX5_fewestMarksForYes 3 (some (.int r)) h' h 17 [.ref a0, .int x1, .int x2, .int x3] [] := by
  intro n
  induction n with
  | zero => intro h a0 x1 x2 x3 hf; exact nomatch (show (none : Option (Int32 × MH)) = some (r, h') from hf)
  | succ n ih => intro h a0 x1 x2 x3 hf; exact tX5_fewestMarksForYes_17  (fX5_fewestMarksForYes_17  n) ih hf
def fX5_fewestMarksForYes (h : MH) (a0 : Nat) : Option (Int32 × MH) := bd (gR h a0 5 1) fun b1 => bd (gI h b1 7 15) fun v2 => bd (some ((1 <<< (v2 &&& 31)) - 1)) fun v3 => fX5_fewestMarksForYes_17 FU h a0 v3 (-2) 0
set_option maxRecDepth 20000 in
theorem tX5_fewestMarksForYes {r : Int32} {h' : MH} {h : MH} {a0 : Nat} (hf : fX5_fewestMarksForYes h a0 = some (r, h')) : VM mX5_fewestMarksForYes 3 (some (.int r)) h' h [.ref a0] := by
  show V TT mX5_fewestMarksForYes 3 _ h' h 0 [.ref a0, Jk, Jk, Jk] []
  unfold fX5_fewestMarksForYes at hf
  refine V.iconst (q := 1) (v := 1) (by decide) dX5_fewestMarksForYes_0 rfl ?_
  refine V.aload_n (q := 2) rfl dX5_fewestMarksForYes_1 rfl rfl ?_
  obtain ⟨b1, eb1, hf⟩ := bd_ex hf
  refine V.getR (q := 5) flX5_21 rfl eb1 dX5_fewestMarksForYes_2 rfl ?_
  obtain ⟨v2, ev2, hf⟩ := bd_ex hf
  refine V.getI (q := 8) flX5_32 rfl ev2 dX5_fewestMarksForYes_5 rfl ?_
  refine V.ishl (q := 9) dX5_fewestMarksForYes_8 rfl ?_
  refine V.iconst (q := 10) (v := 1) (by decide) dX5_fewestMarksForYes_9 rfl ?_
  refine V.isub (q := 11) dX5_fewestMarksForYes_10 rfl ?_
  obtain ⟨v3, ev3, hf⟩ := bd_ex hf
  refine V.topI (Option.some.inj ev3) ?_
  refine V.istore_n (q := 12) (L' := [.ref a0, .int v3, Jk, Jk]) rfl dX5_fewestMarksForYes_11 rfl (by decide) rfl rfl ?_
  refine V.bipush (q := 14) (v := (-2)) (by decide) dX5_fewestMarksForYes_12 rfl ?_
  refine V.istore_n (q := 15) (L' := [.ref a0, .int v3, .int (-2), Jk]) rfl dX5_fewestMarksForYes_14 rfl (by decide) rfl rfl ?_
  refine V.iconst (q := 16) (v := 0) (by decide) dX5_fewestMarksForYes_15 rfl ?_
  refine V.istore_n (q := 17) (L' := [.ref a0, .int v3, .int (-2), .int 0]) rfl dX5_fewestMarksForYes_16 rfl (by decide) rfl rfl ?_
  exact tlX5_fewestMarksForYes_17  FU _ _ _ _ _ hf
def fX11_worded (h : MH) (a0 : Nat) : Option (Int32 × MH) := bd (gI h a0 11 9) fun v1 => if v1 = 0 then (bd (ck h a0 11) fun _ => bd2 (fX11_refuse h a0 1) fun v3 h1 => some (v3, h1)) else (bd (gR h a0 11 2) fun b2 => bd (ck h b2 5) fun _ => bd2 (fX5_fewestMarksForYes h b2 ) fun v4 h1 => bd (ck h1 a0 11) fun _ => bd2 (fX11_answer h1 a0 v4) fun v6 h2 => some (v6, h2))
set_option maxRecDepth 20000 in
theorem tX11_worded {r : Int32} {h' : MH} {h : MH} {a0 : Nat} (hf : fX11_worded h a0 = some (r, h')) : VM mX11_worded 4 (some (.int r)) h' h [.ref a0] := by
  show V TT mX11_worded 4 _ h' h 0 [.ref a0] []
  unfold fX11_worded at hf
  refine V.aload_n (q := 1) rfl dX11_worded_0 rfl rfl ?_
  obtain ⟨v1, ev1, hf⟩ := bd_ex hf
  refine V.getI (q := 4) flX11_76 rfl ev1 dX11_worded_1 rfl ?_
  refine V.if_ne (q := 7) (tgt := 13) dX11_worded_4 rfl (by decide) (fun c => ?_) (fun c => ?_)
  · rw [if_neg c] at hf
    refine V.aload_n (q := 14) rfl dX11_worded_13 rfl rfl ?_
    refine V.aload_n (q := 15) rfl dX11_worded_14 rfl rfl ?_
    obtain ⟨b2, eb2, hf⟩ := bd_ex hf
    refine V.getR (q := 18) flX11_28 rfl eb2 dX11_worded_15 rfl ?_
    obtain ⟨_, e3, hf⟩ := bd_ex hf
    obtain ⟨v4, h1, eh1, hf⟩ := bd2_ex hf
    refine V.callV (q := 21) (ci := 5) (vs := []) (st := [.ref a0]) (S2 := [.int v4, .ref a0]) okX5_fewestMarksForYes imX5_fewestMarksForYes seX5_fewestMarksForYes rfl lkX11_239 (tX5_fewestMarksForYes eh1) rfl (ck_is e3) (by decide) rfl (Nat.le_of_ble_eq_true rfl) (Nat.le_of_ble_eq_true rfl) rfl dX11_worded_18 rfl rfl ?_
    obtain ⟨_, e5, hf⟩ := bd_ex hf
    obtain ⟨v6, h2, eh2, hf⟩ := bd2_ex hf
    refine V.callV (q := 24) (ci := 11) (vs := [.int v4]) (st := []) (S2 := [.int v6]) okX11_answer imX11_answer seX11_answer rfl lkX11_127 (tX11_answer eh2) rfl (ck_is e5) (by decide) rfl (Nat.le_of_ble_eq_true rfl) (Nat.le_of_ble_eq_true rfl) rfl dX11_worded_21 rfl rfl ?_
    obtain ⟨rfl, rfl⟩ := ret_inj hf
    exact V.ret (r := some (.int v6)) trivial dX11_worded_24
  · rw [if_pos c] at hf
    refine V.aload_n (q := 8) rfl dX11_worded_7 rfl rfl ?_
    refine V.iconst (q := 9) (v := 1) (by decide) dX11_worded_8 rfl ?_
    obtain ⟨_, e2, hf⟩ := bd_ex hf
    obtain ⟨v3, h1, eh1, hf⟩ := bd2_ex hf
    refine V.callV (q := 12) (ci := 11) (vs := [.int 1]) (st := []) (S2 := [.int v3]) okX11_refuse imX11_refuse seX11_refuse rfl lkX11_101 (tX11_refuse eh1) rfl (ck_is e2) (by decide) rfl (Nat.le_of_ble_eq_true rfl) (Nat.le_of_ble_eq_true rfl) rfl dX11_worded_9 rfl rfl ?_
    obtain ⟨rfl, rfl⟩ := ret_inj hf
    exact V.ret (r := some (.int v3)) trivial dX11_worded_12
def bX12_find_2 (k2 : MH → Nat → Int64 → Int32 → Option (Int32 × MH)) (h : MH) (a0 : Nat) (y1 : Int64) (x3 : Int32) : Option (Int32 × MH) := bd (gI h a0 12 8) fun v1 => if v1 ≤ x3 then (some ((-1), h)) else (bd (gR h a0 12 24) fun b2 => bd (lJ h b2 x3) fun w3 => if (lg_cmp w3 y1) = 0 then (some (x3, h)) else (bd (some (x3 + 1)) fun v4 => k2 h a0 y1 v4))
set_option maxRecDepth 20000 in
theorem tX12_find_2 {r : Int32} {h' : MH} (k2 : MH → Nat → Int64 → Int32 → Option (Int32 × MH)) (hk2 : ∀ (h : MH) (a0 : Nat) (y1 : Int64) (x3 : Int32), k2 h a0 y1 x3 = some (r, h') → V TT mX12_find 0 (some (.int r)) h' h 2 [.ref a0, .long y1, Jk, .int x3] [])  {h : MH} {a0 : Nat} {y1 : Int64} {x3 : Int32} (hf : bX12_find_2 k2 h a0 y1 x3 = some (r, h')) : V TT mX12_find 0 (some (.int r)) h' h 2 [.ref a0, .long y1, Jk, .int x3] [] := by
  unfold bX12_find_2 at hf
  refine V.iload_n (q := 3) rfl dX12_find_2 rfl rfl ?_
  refine V.aload_n (q := 4) rfl dX12_find_3 rfl rfl ?_
  obtain ⟨v1, ev1, hf⟩ := bd_ex hf
  refine V.getI (q := 7) flX12_71 rfl ev1 dX12_find_4 rfl ?_
  refine V.icmp_ge (q := 10) (tgt := 29) dX12_find_7 rfl (by decide) (fun c => ?_) (fun c => ?_)
  · rw [if_pos c] at hf
    refine V.iconst (q := 30) (v := (-1)) (by decide) dX12_find_29 rfl ?_
    obtain ⟨rfl, rfl⟩ := ret_inj hf
    exact V.ret (r := some (.int (-1))) trivial dX12_find_30
  · rw [if_neg c] at hf
    refine V.aload_n (q := 11) rfl dX12_find_10 rfl rfl ?_
    obtain ⟨b2, eb2, hf⟩ := bd_ex hf
    refine V.getR (q := 14) flX12_61 rfl eb2 dX12_find_11 rfl ?_
    refine V.iload_n (q := 15) rfl dX12_find_14 rfl rfl ?_
    obtain ⟨w3, ew3, hf⟩ := bd_ex hf
    refine V.lald (q := 16) ew3 dX12_find_15 rfl ?_
    refine V.lload_n (q := 17) rfl dX12_find_16 rfl rfl ?_
    refine V.lcmp (q := 18) dX12_find_17 rfl ?_
    refine V.if_ne (q := 21) (tgt := 23) dX12_find_18 rfl (by decide) (fun c => ?_) (fun c => ?_)
    · rw [if_neg c] at hf
      obtain ⟨v4, ev4, hf⟩ := bd_ex hf
      refine V.iinc (q := 26) (v := v4) (L' := [.ref a0, .long y1, Jk, .int v4]) dX12_find_23 rfl rfl (Option.some.inj ev4) (by decide) rfl rfl ?_
      refine V.goto (q := 2) dX12_find_26 (by decide) ?_
      exact hk2 _ _ _ _ hf
    · rw [if_pos c] at hf
      refine V.iload_n (q := 22) rfl dX12_find_21 rfl rfl ?_
      obtain ⟨rfl, rfl⟩ := ret_inj hf
      exact V.ret (r := some (.int x3)) trivial dX12_find_22
def fX12_find_2  : Nat → MH → Nat → Int64 → Int32 → Option (Int32 × MH)
  | 0 => fun _ _ _ _ => none
  | n + 1 => bX12_find_2  (fX12_find_2  n)
theorem tlX12_find_2 {r : Int32} {h' : MH}   : ∀ (n : Nat) (h : MH) (a0 : Nat) (y1 : Int64) (x3 : Int32), fX12_find_2  n h a0 y1 x3 = some (r, h') → V TT mX12_find 0 (some (.int r)) h' h 2 [.ref a0, .long y1, Jk, .int x3] [] := by
  intro n
  induction n with
  | zero => intro h a0 y1 x3 hf; exact nomatch (show (none : Option (Int32 × MH)) = some (r, h') from hf)
  | succ n ih => intro h a0 y1 x3 hf; exact tX12_find_2  (fX12_find_2  n) ih hf
def fX12_find (h : MH) (a0 : Nat) (y1 : Int64) : Option (Int32 × MH) := fX12_find_2 FU h a0 y1 0
set_option maxRecDepth 20000 in
theorem tX12_find {r : Int32} {h' : MH} {h : MH} {a0 : Nat} {y1 : Int64} (hf : fX12_find h a0 y1 = some (r, h')) : VM mX12_find 0 (some (.int r)) h' h [.ref a0, .long y1] := by
  show V TT mX12_find 0 _ h' h 0 [.ref a0, .long y1, Jk, Jk] []
  unfold fX12_find at hf
  refine V.iconst (q := 1) (v := 0) (by decide) dX12_find_0 rfl ?_
  refine V.istore_n (q := 2) (L' := [.ref a0, .long y1, Jk, .int 0]) rfl dX12_find_1 rfl (by decide) rfl rfl ?_
  exact tlX12_find_2  FU _ _ _ _ hf
def bX12_init_144 (k144 : MH → Nat → Int32 → Option (MH)) (h : MH) (a0 : Nat) (x1 : Int32) : Option (MH) := if 5 ≤ x1 then (some h) else (bd (gR h a0 12 11) fun b1 => bd (tI h b1 x1 (-2)) fun h1 => bd (some (x1 + 1)) fun v2 => k144 h1 a0 v2)
set_option maxRecDepth 20000 in
theorem tX12_init_144 {h' : MH} (k144 : MH → Nat → Int32 → Option (MH)) (hk144 : ∀ (h : MH) (a0 : Nat) (x1 : Int32), k144 h a0 x1 = some h' → V TT mX12_init 1 none h' h 144 [.ref a0, .int x1] [])  {h : MH} {a0 : Nat} {x1 : Int32} (hf : bX12_init_144 k144 h a0 x1 = some h') : V TT mX12_init 1 none h' h 144 [.ref a0, .int x1] [] := by
  unfold bX12_init_144 at hf
  refine V.iload_n (q := 145) rfl dX12_init_144 rfl rfl ?_
  refine V.iconst (q := 146) (v := 5) (by decide) dX12_init_145 rfl ?_
  refine V.icmp_ge (q := 149) (tgt := 163) dX12_init_146 rfl (by decide) (fun c => ?_) (fun c => ?_)
  · rw [if_pos c] at hf
    cases hf
    exact V.ret (r := none) trivial dX12_init_163
  · rw [if_neg c] at hf
    refine V.aload_n (q := 150) rfl dX12_init_149 rfl rfl ?_
    obtain ⟨b1, eb1, hf⟩ := bd_ex hf
    refine V.getR (q := 153) flX12_22 rfl eb1 dX12_init_150 rfl ?_
    refine V.iload_n (q := 154) rfl dX12_init_153 rfl rfl ?_
    refine V.bipush (q := 156) (v := (-2)) (by decide) dX12_init_154 rfl ?_
    obtain ⟨h1, eh1, hf⟩ := bd_ex hf
    refine V.iast (q := 157) eh1 dX12_init_156 rfl ?_
    obtain ⟨v2, ev2, hf⟩ := bd_ex hf
    refine V.iinc (q := 160) (v := v2) (L' := [.ref a0, .int v2]) dX12_init_157 rfl rfl (Option.some.inj ev2) (by decide) rfl rfl ?_
    refine V.goto (q := 144) dX12_init_160 (by decide) ?_
    exact hk144 _ _ _ hf
def fX12_init_144  : Nat → MH → Nat → Int32 → Option (MH)
  | 0 => fun _ _ _ => none
  | n + 1 => bX12_init_144  (fX12_init_144  n)
theorem tlX12_init_144 {h' : MH}   : ∀ (n : Nat) (h : MH) (a0 : Nat) (x1 : Int32), fX12_init_144  n h a0 x1 = some h' → V TT mX12_init 1 none h' h 144 [.ref a0, .int x1] [] := by
  intro n
  induction n with
  | zero => intro h a0 x1 hf; exact nomatch (show (none : Option (MH)) = some h' from hf)
  | succ n ih => intro h a0 x1 hf; exact tX12_init_144  (fX12_init_144  n) ih hf
def fX12_init (h : MH) (a0 : Nat) : Option (MH) := bd (pI h a0 12 0 (-1)) fun h1 => bd2 (nO2 h1 15 5) fun b1 h2 => bd (pR h2 a0 12 9 b1) fun h3 => bd2 (nO2 h3 15 5) fun b2 h4 => bd (pR h4 a0 12 10 b2) fun h5 => bd2 (nO2 h5 15 5) fun b3 h6 => bd (pR h6 a0 12 11 b3) fun h7 => bd2 (nO2 h7 15 4) fun b4 h8 => bd (pR h8 a0 12 12 b4) fun h9 => bd2 (nO2 h9 15 4) fun b5 h10 => bd (pR h10 a0 12 13 b5) fun h11 => bd2 (nO2 h11 15 4) fun b6 h12 => bd (pR h12 a0 12 14 b6) fun h13 => bd2 (nO2 h13 15 10) fun b7 h14 => bd (pR h14 a0 12 15 b7) fun h15 => bd2 (nO2 h15 15 10) fun b8 h16 => bd (pR h16 a0 12 16 b8) fun h17 => bd2 (nO2 h17 15 10) fun b9 h18 => bd (pR h18 a0 12 17 b9) fun h19 => bd2 (nO2 h19 15 10) fun b10 h20 => bd (pR h20 a0 12 18 b10) fun h21 => bd2 (nO2 h21 15 3) fun b11 h22 => bd (pR h22 a0 12 19 b11) fun h23 => bd2 (nO2 h23 15 3) fun b12 h24 => bd (pR h24 a0 12 20 b12) fun h25 => bd2 (nO2 h25 15 4) fun b13 h26 => bd (pR h26 a0 12 21 b13) fun h27 => bd2 (nO2 h27 15 4) fun b14 h28 => bd (pR h28 a0 12 22 b14) fun h29 => bd2 (nO2 h29 15 4) fun b15 h30 => bd (pR h30 a0 12 23 b15) fun h31 => bd2 (nO2 h31 16 17) fun b16 h32 => bd (pR h32 a0 12 24 b16) fun h33 => bd2 (nO2 h33 15 17) fun b17 h34 => bd (pR h34 a0 12 25 b17) fun h35 => bd2 (nO2 h35 15 17) fun b18 h36 => bd (pR h36 a0 12 26 b18) fun h37 => fX12_init_144 FU h37 a0 0
set_option maxRecDepth 20000 in
theorem tX12_init {h' : MH} {h : MH} {a0 : Nat} (hf : fX12_init h a0 = some h') : VM mX12_init 1 none h' h [.ref a0] := by
  show V TT mX12_init 1 _ h' h 0 [.ref a0, Jk] []
  unfold fX12_init at hf
  refine V.aload_n (q := 1) rfl dX12_init_0 rfl rfl ?_
  refine V.objInit (q := 4) oiX12_3 (by decide) (Nat.le_of_ble_eq_true rfl) dX12_init_1 rfl ?_
  refine V.aload_n (q := 5) rfl dX12_init_4 rfl rfl ?_
  refine V.iconst (q := 6) (v := (-1)) (by decide) dX12_init_5 rfl ?_
  obtain ⟨h1, eh1, hf⟩ := bd_ex hf
  refine V.putI (q := 9) (fpX12_9 rfl) rfl eh1 dX12_init_6 rfl ?_
  refine V.aload_n (q := 10) rfl dX12_init_9 rfl rfl ?_
  refine V.iconst (q := 11) (v := 5) (by decide) dX12_init_10 rfl ?_
  obtain ⟨b1, h2, eh2, hf⟩ := bd2_ex hf
  obtain ⟨rfl, rfl⟩ := ret_inj eh2
  refine V.newI (q := 13) (N := 5) (by decide) (by decide) (by decide) dX12_init_11 rfl ?_
  generalize hqh2 : nC h1 15 5 = h2 at hf ⊢
  generalize hph2 : h1.2.2.2.length = b1 at hf ⊢
  obtain ⟨h3, eh3, hf⟩ := bd_ex hf
  refine V.putR (q := 16) (fqX12_15 rfl rfl) rfl eh3 dX12_init_13 rfl ?_
  refine V.aload_n (q := 17) rfl dX12_init_16 rfl rfl ?_
  refine V.iconst (q := 18) (v := 5) (by decide) dX12_init_17 rfl ?_
  obtain ⟨b2, h4, eh4, hf⟩ := bd2_ex hf
  obtain ⟨rfl, rfl⟩ := ret_inj eh4
  refine V.newI (q := 20) (N := 5) (by decide) (by decide) (by decide) dX12_init_18 rfl ?_
  generalize hqh4 : nC h3 15 5 = h4 at hf ⊢
  generalize hph4 : h3.2.2.2.length = b2 at hf ⊢
  obtain ⟨h5, eh5, hf⟩ := bd_ex hf
  refine V.putR (q := 23) (fqX12_19 rfl rfl) rfl eh5 dX12_init_20 rfl ?_
  refine V.aload_n (q := 24) rfl dX12_init_23 rfl rfl ?_
  refine V.iconst (q := 25) (v := 5) (by decide) dX12_init_24 rfl ?_
  obtain ⟨b3, h6, eh6, hf⟩ := bd2_ex hf
  obtain ⟨rfl, rfl⟩ := ret_inj eh6
  refine V.newI (q := 27) (N := 5) (by decide) (by decide) (by decide) dX12_init_25 rfl ?_
  generalize hqh6 : nC h5 15 5 = h6 at hf ⊢
  generalize hph6 : h5.2.2.2.length = b3 at hf ⊢
  obtain ⟨h7, eh7, hf⟩ := bd_ex hf
  refine V.putR (q := 30) (fqX12_22 rfl rfl) rfl eh7 dX12_init_27 rfl ?_
  refine V.aload_n (q := 31) rfl dX12_init_30 rfl rfl ?_
  refine V.iconst (q := 32) (v := 4) (by decide) dX12_init_31 rfl ?_
  obtain ⟨b4, h8, eh8, hf⟩ := bd2_ex hf
  obtain ⟨rfl, rfl⟩ := ret_inj eh8
  refine V.newI (q := 34) (N := 4) (by decide) (by decide) (by decide) dX12_init_32 rfl ?_
  generalize hqh8 : nC h7 15 4 = h8 at hf ⊢
  generalize hph8 : h7.2.2.2.length = b4 at hf ⊢
  obtain ⟨h9, eh9, hf⟩ := bd_ex hf
  refine V.putR (q := 37) (fqX12_25 rfl rfl) rfl eh9 dX12_init_34 rfl ?_
  refine V.aload_n (q := 38) rfl dX12_init_37 rfl rfl ?_
  refine V.iconst (q := 39) (v := 4) (by decide) dX12_init_38 rfl ?_
  obtain ⟨b5, h10, eh10, hf⟩ := bd2_ex hf
  obtain ⟨rfl, rfl⟩ := ret_inj eh10
  refine V.newI (q := 41) (N := 4) (by decide) (by decide) (by decide) dX12_init_39 rfl ?_
  generalize hqh10 : nC h9 15 4 = h10 at hf ⊢
  generalize hph10 : h9.2.2.2.length = b5 at hf ⊢
  obtain ⟨h11, eh11, hf⟩ := bd_ex hf
  refine V.putR (q := 44) (fqX12_28 rfl rfl) rfl eh11 dX12_init_41 rfl ?_
  refine V.aload_n (q := 45) rfl dX12_init_44 rfl rfl ?_
  refine V.iconst (q := 46) (v := 4) (by decide) dX12_init_45 rfl ?_
  obtain ⟨b6, h12, eh12, hf⟩ := bd2_ex hf
  obtain ⟨rfl, rfl⟩ := ret_inj eh12
  refine V.newI (q := 48) (N := 4) (by decide) (by decide) (by decide) dX12_init_46 rfl ?_
  generalize hqh12 : nC h11 15 4 = h12 at hf ⊢
  generalize hph12 : h11.2.2.2.length = b6 at hf ⊢
  obtain ⟨h13, eh13, hf⟩ := bd_ex hf
  refine V.putR (q := 51) (fqX12_31 rfl rfl) rfl eh13 dX12_init_48 rfl ?_
  refine V.aload_n (q := 52) rfl dX12_init_51 rfl rfl ?_
  refine V.bipush (q := 54) (v := 10) (by decide) dX12_init_52 rfl ?_
  obtain ⟨b7, h14, eh14, hf⟩ := bd2_ex hf
  obtain ⟨rfl, rfl⟩ := ret_inj eh14
  refine V.newI (q := 56) (N := 10) (by decide) (by decide) (by decide) dX12_init_54 rfl ?_
  generalize hqh14 : nC h13 15 10 = h14 at hf ⊢
  generalize hph14 : h13.2.2.2.length = b7 at hf ⊢
  obtain ⟨h15, eh15, hf⟩ := bd_ex hf
  refine V.putR (q := 59) (fqX12_34 rfl rfl) rfl eh15 dX12_init_56 rfl ?_
  refine V.aload_n (q := 60) rfl dX12_init_59 rfl rfl ?_
  refine V.bipush (q := 62) (v := 10) (by decide) dX12_init_60 rfl ?_
  obtain ⟨b8, h16, eh16, hf⟩ := bd2_ex hf
  obtain ⟨rfl, rfl⟩ := ret_inj eh16
  refine V.newI (q := 64) (N := 10) (by decide) (by decide) (by decide) dX12_init_62 rfl ?_
  generalize hqh16 : nC h15 15 10 = h16 at hf ⊢
  generalize hph16 : h15.2.2.2.length = b8 at hf ⊢
  obtain ⟨h17, eh17, hf⟩ := bd_ex hf
  refine V.putR (q := 67) (fqX12_37 rfl rfl) rfl eh17 dX12_init_64 rfl ?_
  refine V.aload_n (q := 68) rfl dX12_init_67 rfl rfl ?_
  refine V.bipush (q := 70) (v := 10) (by decide) dX12_init_68 rfl ?_
  obtain ⟨b9, h18, eh18, hf⟩ := bd2_ex hf
  obtain ⟨rfl, rfl⟩ := ret_inj eh18
  refine V.newI (q := 72) (N := 10) (by decide) (by decide) (by decide) dX12_init_70 rfl ?_
  generalize hqh18 : nC h17 15 10 = h18 at hf ⊢
  generalize hph18 : h17.2.2.2.length = b9 at hf ⊢
  obtain ⟨h19, eh19, hf⟩ := bd_ex hf
  refine V.putR (q := 75) (fqX12_40 rfl rfl) rfl eh19 dX12_init_72 rfl ?_
  refine V.aload_n (q := 76) rfl dX12_init_75 rfl rfl ?_
  refine V.bipush (q := 78) (v := 10) (by decide) dX12_init_76 rfl ?_
  obtain ⟨b10, h20, eh20, hf⟩ := bd2_ex hf
  obtain ⟨rfl, rfl⟩ := ret_inj eh20
  refine V.newI (q := 80) (N := 10) (by decide) (by decide) (by decide) dX12_init_78 rfl ?_
  generalize hqh20 : nC h19 15 10 = h20 at hf ⊢
  generalize hph20 : h19.2.2.2.length = b10 at hf ⊢
  obtain ⟨h21, eh21, hf⟩ := bd_ex hf
  refine V.putR (q := 83) (fqX12_43 rfl rfl) rfl eh21 dX12_init_80 rfl ?_
  refine V.aload_n (q := 84) rfl dX12_init_83 rfl rfl ?_
  refine V.iconst (q := 85) (v := 3) (by decide) dX12_init_84 rfl ?_
  obtain ⟨b11, h22, eh22, hf⟩ := bd2_ex hf
  obtain ⟨rfl, rfl⟩ := ret_inj eh22
  refine V.newI (q := 87) (N := 3) (by decide) (by decide) (by decide) dX12_init_85 rfl ?_
  generalize hqh22 : nC h21 15 3 = h22 at hf ⊢
  generalize hph22 : h21.2.2.2.length = b11 at hf ⊢
  obtain ⟨h23, eh23, hf⟩ := bd_ex hf
  refine V.putR (q := 90) (fqX12_46 rfl rfl) rfl eh23 dX12_init_87 rfl ?_
  refine V.aload_n (q := 91) rfl dX12_init_90 rfl rfl ?_
  refine V.iconst (q := 92) (v := 3) (by decide) dX12_init_91 rfl ?_
  obtain ⟨b12, h24, eh24, hf⟩ := bd2_ex hf
  obtain ⟨rfl, rfl⟩ := ret_inj eh24
  refine V.newI (q := 94) (N := 3) (by decide) (by decide) (by decide) dX12_init_92 rfl ?_
  generalize hqh24 : nC h23 15 3 = h24 at hf ⊢
  generalize hph24 : h23.2.2.2.length = b12 at hf ⊢
  obtain ⟨h25, eh25, hf⟩ := bd_ex hf
  refine V.putR (q := 97) (fqX12_49 rfl rfl) rfl eh25 dX12_init_94 rfl ?_
  refine V.aload_n (q := 98) rfl dX12_init_97 rfl rfl ?_
  refine V.iconst (q := 99) (v := 4) (by decide) dX12_init_98 rfl ?_
  obtain ⟨b13, h26, eh26, hf⟩ := bd2_ex hf
  obtain ⟨rfl, rfl⟩ := ret_inj eh26
  refine V.newI (q := 101) (N := 4) (by decide) (by decide) (by decide) dX12_init_99 rfl ?_
  generalize hqh26 : nC h25 15 4 = h26 at hf ⊢
  generalize hph26 : h25.2.2.2.length = b13 at hf ⊢
  obtain ⟨h27, eh27, hf⟩ := bd_ex hf
  refine V.putR (q := 104) (fqX12_52 rfl rfl) rfl eh27 dX12_init_101 rfl ?_
  refine V.aload_n (q := 105) rfl dX12_init_104 rfl rfl ?_
  refine V.iconst (q := 106) (v := 4) (by decide) dX12_init_105 rfl ?_
  obtain ⟨b14, h28, eh28, hf⟩ := bd2_ex hf
  obtain ⟨rfl, rfl⟩ := ret_inj eh28
  refine V.newI (q := 108) (N := 4) (by decide) (by decide) (by decide) dX12_init_106 rfl ?_
  generalize hqh28 : nC h27 15 4 = h28 at hf ⊢
  generalize hph28 : h27.2.2.2.length = b14 at hf ⊢
  obtain ⟨h29, eh29, hf⟩ := bd_ex hf
  refine V.putR (q := 111) (fqX12_55 rfl rfl) rfl eh29 dX12_init_108 rfl ?_
  refine V.aload_n (q := 112) rfl dX12_init_111 rfl rfl ?_
  refine V.iconst (q := 113) (v := 4) (by decide) dX12_init_112 rfl ?_
  obtain ⟨b15, h30, eh30, hf⟩ := bd2_ex hf
  obtain ⟨rfl, rfl⟩ := ret_inj eh30
  refine V.newI (q := 115) (N := 4) (by decide) (by decide) (by decide) dX12_init_113 rfl ?_
  generalize hqh30 : nC h29 15 4 = h30 at hf ⊢
  generalize hph30 : h29.2.2.2.length = b15 at hf ⊢
  obtain ⟨h31, eh31, hf⟩ := bd_ex hf
  refine V.putR (q := 118) (fqX12_58 rfl rfl) rfl eh31 dX12_init_115 rfl ?_
  refine V.aload_n (q := 119) rfl dX12_init_118 rfl rfl ?_
  refine V.bipush (q := 121) (v := 17) (by decide) dX12_init_119 rfl ?_
  obtain ⟨b16, h32, eh32, hf⟩ := bd2_ex hf
  obtain ⟨rfl, rfl⟩ := ret_inj eh32
  refine V.newJ (q := 123) (N := 17) (by decide) (by decide) (by decide) dX12_init_121 rfl ?_
  generalize hqh32 : nC h31 16 17 = h32 at hf ⊢
  generalize hph32 : h31.2.2.2.length = b16 at hf ⊢
  obtain ⟨h33, eh33, hf⟩ := bd_ex hf
  refine V.putR (q := 126) (fqX12_61 rfl rfl) rfl eh33 dX12_init_123 rfl ?_
  refine V.aload_n (q := 127) rfl dX12_init_126 rfl rfl ?_
  refine V.bipush (q := 129) (v := 17) (by decide) dX12_init_127 rfl ?_
  obtain ⟨b17, h34, eh34, hf⟩ := bd2_ex hf
  obtain ⟨rfl, rfl⟩ := ret_inj eh34
  refine V.newI (q := 131) (N := 17) (by decide) (by decide) (by decide) dX12_init_129 rfl ?_
  generalize hqh34 : nC h33 15 17 = h34 at hf ⊢
  generalize hph34 : h33.2.2.2.length = b17 at hf ⊢
  obtain ⟨h35, eh35, hf⟩ := bd_ex hf
  refine V.putR (q := 134) (fqX12_65 rfl rfl) rfl eh35 dX12_init_131 rfl ?_
  refine V.aload_n (q := 135) rfl dX12_init_134 rfl rfl ?_
  refine V.bipush (q := 137) (v := 17) (by decide) dX12_init_135 rfl ?_
  obtain ⟨b18, h36, eh36, hf⟩ := bd2_ex hf
  obtain ⟨rfl, rfl⟩ := ret_inj eh36
  refine V.newI (q := 139) (N := 17) (by decide) (by decide) (by decide) dX12_init_137 rfl ?_
  generalize hqh36 : nC h35 15 17 = h36 at hf ⊢
  generalize hph36 : h35.2.2.2.length = b18 at hf ⊢
  obtain ⟨h37, eh37, hf⟩ := bd_ex hf
  refine V.putR (q := 142) (fqX12_68 rfl rfl) rfl eh37 dX12_init_139 rfl ?_
  refine V.iconst (q := 143) (v := 0) (by decide) dX12_init_142 rfl ?_
  refine V.istore_n (q := 144) (L' := [.ref a0, .int 0]) rfl dX12_init_143 rfl (by decide) rfl rfl ?_
  exact tlX12_init_144  FU _ _ _ hf
def fX13_allMarks (h : MH) (a0 : Nat) : Option (Int32 × MH) := bd (gR h a0 13 3) fun b1 => bd (gI h b1 12 1) fun v2 => some ((1 <<< (v2 &&& 31)), h)
set_option maxRecDepth 20000 in
theorem tX13_allMarks {r : Int32} {h' : MH} {h : MH} {a0 : Nat} (hf : fX13_allMarks h a0 = some (r, h')) : VM mX13_allMarks 0 (some (.int r)) h' h [.ref a0] := by
  show V TT mX13_allMarks 0 _ h' h 0 [.ref a0] []
  unfold fX13_allMarks at hf
  refine V.iconst (q := 1) (v := 1) (by decide) dX13_allMarks_0 rfl ?_
  refine V.aload_n (q := 2) rfl dX13_allMarks_1 rfl rfl ?_
  obtain ⟨b1, eb1, hf⟩ := bd_ex hf
  refine V.getR (q := 5) flX13_338 rfl eb1 dX13_allMarks_2 rfl ?_
  obtain ⟨v2, ev2, hf⟩ := bd_ex hf
  refine V.getI (q := 8) flX13_238 rfl ev2 dX13_allMarks_5 rfl ?_
  refine V.ishl (q := 9) dX13_allMarks_8 rfl ?_
  obtain ⟨rfl, rfl⟩ := ret_inj hf
  exact V.ret (r := some (.int (1 <<< (v2 &&& 31)))) trivial dX13_allMarks_9
def fX13_bit (h : MH) (x0 : Int32) (x1 : Int32) : Option (Int32 × MH) := if ((x0 >>> (x1 &&& 31)) &&& 1) = 1 then (some (1, h)) else (some (0, h))
set_option maxRecDepth 20000 in
theorem tX13_bit {r : Int32} {h' : MH} {h : MH} {x0 : Int32} {x1 : Int32} (hf : fX13_bit h x0 x1 = some (r, h')) : VM mX13_bit 0 (some (.int r)) h' h [.int x0, .int x1] := by
  show V TT mX13_bit 0 _ h' h 0 [.int x0, .int x1] []
  unfold fX13_bit at hf
  refine V.iload_n (q := 1) rfl dX13_bit_0 rfl rfl ?_
  refine V.iload_n (q := 2) rfl dX13_bit_1 rfl rfl ?_
  refine V.ishr (q := 3) dX13_bit_2 rfl ?_
  refine V.iconst (q := 4) (v := 1) (by decide) dX13_bit_3 rfl ?_
  refine V.iand (q := 5) dX13_bit_4 rfl ?_
  refine V.iconst (q := 6) (v := 1) (by decide) dX13_bit_5 rfl ?_
  refine V.icmp_ne (q := 9) (tgt := 13) dX13_bit_6 rfl (by decide) (fun c => ?_) (fun c => ?_)
  · rw [if_neg c] at hf
    refine V.iconst (q := 14) (v := 0) (by decide) dX13_bit_13 rfl ?_
    obtain ⟨rfl, rfl⟩ := ret_inj hf
    exact V.ret (r := some (.int 0)) (Or.inl rfl) dX13_bit_14
  · rw [if_pos c] at hf
    refine V.iconst (q := 10) (v := 1) (by decide) dX13_bit_9 rfl ?_
    refine V.goto (q := 14) dX13_bit_10 (by decide) ?_
    obtain ⟨rfl, rfl⟩ := ret_inj hf
    exact V.ret (r := some (.int 1)) (Or.inr rfl) dX13_bit_14
def bX13_ruleFor_56 (k2 : MH → Nat → Int32 → Int32 → Int32 → Option (Int32 × MH)) (h : MH) (a0 : Nat) (x1 : Int32) (x2 : Int32) (x3 : Int32) (xs0 : Int32) (xs1 : Int32) : Option (Int32 × MH) := if xs1 = xs0 then (some (x3, h)) else (bd (some (x3 + 1)) fun v1 => k2 h a0 x1 x2 v1)
set_option maxRecDepth 20000 in
theorem tX13_ruleFor_56 {r : Int32} {h' : MH} (k2 : MH → Nat → Int32 → Int32 → Int32 → Option (Int32 × MH)) (hk2 : ∀ (h : MH) (a0 : Nat) (x1 : Int32) (x2 : Int32) (x3 : Int32), k2 h a0 x1 x2 x3 = some (r, h') → V TT mX13_ruleFor 1 (some (.int r)) h' h 2 [.ref a0, .int x1, .int x2, .int x3] [])  {h : MH} {a0 : Nat} {x1 : Int32} {x2 : Int32} {x3 : Int32} {xs0 : Int32} {xs1 : Int32} (hf : bX13_ruleFor_56 k2 h a0 x1 x2 x3 xs0 xs1 = some (r, h')) : V TT mX13_ruleFor 1 (some (.int r)) h' h 56 [.ref a0, .int x1, .int x2, .int x3] [.int xs0, .int xs1] := by
  unfold bX13_ruleFor_56 at hf
  refine V.icmp_ne (q := 59) (tgt := 61) dX13_ruleFor_56 rfl (by decide) (fun c => ?_) (fun c => ?_)
  · rw [if_neg c] at hf
    obtain ⟨v1, ev1, hf⟩ := bd_ex hf
    refine V.iinc (q := 64) (v := v1) (L' := [.ref a0, .int x1, .int x2, .int v1]) dX13_ruleFor_61 rfl rfl (Option.some.inj ev1) (by decide) rfl rfl ?_
    refine V.goto (q := 2) dX13_ruleFor_64 (by decide) ?_
    exact hk2 _ _ _ _ _ hf
  · rw [if_pos c] at hf
    refine V.iload_n (q := 60) rfl dX13_ruleFor_59 rfl rfl ?_
    obtain ⟨rfl, rfl⟩ := ret_inj hf
    exact V.ret (r := some (.int x3)) trivial dX13_ruleFor_60
def bX13_ruleFor_2 (k2 : MH → Nat → Int32 → Int32 → Int32 → Option (Int32 × MH)) (h : MH) (a0 : Nat) (x1 : Int32) (x2 : Int32) (x3 : Int32) : Option (Int32 × MH) := bd (gR h a0 13 3) fun b1 => bd (gI h b1 12 4) fun v2 => if v2 ≤ x3 then (some ((-2), h)) else (bd (gR h a0 13 3) fun b3 => bd (gR h b3 12 15) fun b4 => bd (lI h b4 x3) fun v5 => if v5 = x1 then (bd (gR h a0 13 3) fun b6 => bd (gR h b6 12 16) fun b7 => bd (lI h b7 x3) fun v8 => bd2 (fX13_bit h x2 v8) fun v9 h1 => bd (gR h1 a0 13 3) fun b10 => bd (gR h1 b10 12 17) fun b11 => bd (lI h1 b11 x3) fun v12 => if v12 = 0 then (bX13_ruleFor_56 k2 h1 a0 x1 x2 x3 1 v9) else (bX13_ruleFor_56 k2 h1 a0 x1 x2 x3 0 v9)) else (bd (some (x3 + 1)) fun v6 => k2 h a0 x1 x2 v6))
set_option maxRecDepth 20000 in
theorem tX13_ruleFor_2 {r : Int32} {h' : MH} (k2 : MH → Nat → Int32 → Int32 → Int32 → Option (Int32 × MH)) (hk2 : ∀ (h : MH) (a0 : Nat) (x1 : Int32) (x2 : Int32) (x3 : Int32), k2 h a0 x1 x2 x3 = some (r, h') → V TT mX13_ruleFor 1 (some (.int r)) h' h 2 [.ref a0, .int x1, .int x2, .int x3] [])  {h : MH} {a0 : Nat} {x1 : Int32} {x2 : Int32} {x3 : Int32} (hf : bX13_ruleFor_2 k2 h a0 x1 x2 x3 = some (r, h')) : V TT mX13_ruleFor 1 (some (.int r)) h' h 2 [.ref a0, .int x1, .int x2, .int x3] [] := by
  unfold bX13_ruleFor_2 at hf
  refine V.iload_n (q := 3) rfl dX13_ruleFor_2 rfl rfl ?_
  refine V.aload_n (q := 4) rfl dX13_ruleFor_3 rfl rfl ?_
  obtain ⟨b1, eb1, hf⟩ := bd_ex hf
  refine V.getR (q := 7) flX13_338 rfl eb1 dX13_ruleFor_4 rfl ?_
  obtain ⟨v2, ev2, hf⟩ := bd_ex hf
  refine V.getI (q := 10) flX13_280 rfl ev2 dX13_ruleFor_7 rfl ?_
  refine V.icmp_ge (q := 13) (tgt := 67) dX13_ruleFor_10 rfl (by decide) (fun c => ?_) (fun c => ?_)
  · rw [if_pos c] at hf
    refine V.bipush (q := 69) (v := (-2)) (by decide) dX13_ruleFor_67 rfl ?_
    obtain ⟨rfl, rfl⟩ := ret_inj hf
    exact V.ret (r := some (.int (-2))) trivial dX13_ruleFor_69
  · rw [if_neg c] at hf
    refine V.aload_n (q := 14) rfl dX13_ruleFor_13 rfl rfl ?_
    obtain ⟨b3, eb3, hf⟩ := bd_ex hf
    refine V.getR (q := 17) flX13_338 rfl eb3 dX13_ruleFor_14 rfl ?_
    obtain ⟨b4, eb4, hf⟩ := bd_ex hf
    refine V.getR (q := 20) flX13_286 rfl eb4 dX13_ruleFor_17 rfl ?_
    refine V.iload_n (q := 21) rfl dX13_ruleFor_20 rfl rfl ?_
    obtain ⟨v5, ev5, hf⟩ := bd_ex hf
    refine V.iald (q := 22) ev5 dX13_ruleFor_21 rfl ?_
    refine V.iload_n (q := 23) rfl dX13_ruleFor_22 rfl rfl ?_
    refine V.icmp_ne (q := 26) (tgt := 61) dX13_ruleFor_23 rfl (by decide) (fun c => ?_) (fun c => ?_)
    · rw [if_neg c] at hf
      obtain ⟨v6, ev6, hf⟩ := bd_ex hf
      refine V.iinc (q := 64) (v := v6) (L' := [.ref a0, .int x1, .int x2, .int v6]) dX13_ruleFor_61 rfl rfl (Option.some.inj ev6) (by decide) rfl rfl ?_
      refine V.goto (q := 2) dX13_ruleFor_64 (by decide) ?_
      exact hk2 _ _ _ _ _ hf
    · rw [if_pos c] at hf
      refine V.iload_n (q := 27) rfl dX13_ruleFor_26 rfl rfl ?_
      refine V.aload_n (q := 28) rfl dX13_ruleFor_27 rfl rfl ?_
      obtain ⟨b6, eb6, hf⟩ := bd_ex hf
      refine V.getR (q := 31) flX13_338 rfl eb6 dX13_ruleFor_28 rfl ?_
      obtain ⟨b7, eb7, hf⟩ := bd_ex hf
      refine V.getR (q := 34) flX13_289 rfl eb7 dX13_ruleFor_31 rfl ?_
      refine V.iload_n (q := 35) rfl dX13_ruleFor_34 rfl rfl ?_
      obtain ⟨v8, ev8, hf⟩ := bd_ex hf
      refine V.iald (q := 36) ev8 dX13_ruleFor_35 rfl ?_
      obtain ⟨v9, h1, eh1, hf⟩ := bd2_ex hf
      refine V.callS (q := 39) (vs := [.int x2, .int v8]) (st := []) (S2 := [.int v9]) okX13_bit stX13_bit lkX13_199 (tX13_bit eh1) rfl (by decide) rfl (Nat.le_of_ble_eq_true rfl) (Nat.le_of_ble_eq_true rfl) rfl dX13_ruleFor_36 rfl rfl ?_
      refine V.aload_n (q := 40) rfl dX13_ruleFor_39 rfl rfl ?_
      obtain ⟨b10, eb10, hf⟩ := bd_ex hf
      refine V.getR (q := 43) flX13_338 rfl eb10 dX13_ruleFor_40 rfl ?_
      obtain ⟨b11, eb11, hf⟩ := bd_ex hf
      refine V.getR (q := 46) flX13_292 rfl eb11 dX13_ruleFor_43 rfl ?_
      refine V.iload_n (q := 47) rfl dX13_ruleFor_46 rfl rfl ?_
      obtain ⟨v12, ev12, hf⟩ := bd_ex hf
      refine V.iald (q := 48) ev12 dX13_ruleFor_47 rfl ?_
      refine V.if_ne (q := 51) (tgt := 55) dX13_ruleFor_48 rfl (by decide) (fun c => ?_) (fun c => ?_)
      · rw [if_neg c] at hf
        refine V.iconst (q := 56) (v := 0) (by decide) dX13_ruleFor_55 rfl ?_
        exact tX13_ruleFor_56 k2 hk2 hf
      · rw [if_pos c] at hf
        refine V.iconst (q := 52) (v := 1) (by decide) dX13_ruleFor_51 rfl ?_
        refine V.goto (q := 56) dX13_ruleFor_52 (by decide) ?_
        exact tX13_ruleFor_56 k2 hk2 hf
def fX13_ruleFor_2  : Nat → MH → Nat → Int32 → Int32 → Int32 → Option (Int32 × MH)
  | 0 => fun _ _ _ _ _ => none
  | n + 1 => bX13_ruleFor_2  (fX13_ruleFor_2  n)
theorem tlX13_ruleFor_2 {r : Int32} {h' : MH}   : ∀ (n : Nat) (h : MH) (a0 : Nat) (x1 : Int32) (x2 : Int32) (x3 : Int32), fX13_ruleFor_2  n h a0 x1 x2 x3 = some (r, h') → V TT mX13_ruleFor 1 (some (.int r)) h' h 2 [.ref a0, .int x1, .int x2, .int x3] [] := by
  intro n
  induction n with
  | zero => intro h a0 x1 x2 x3 hf; exact nomatch (show (none : Option (Int32 × MH)) = some (r, h') from hf)
  | succ n ih => intro h a0 x1 x2 x3 hf; exact tX13_ruleFor_2  (fX13_ruleFor_2  n) ih hf
def fX13_ruleFor (h : MH) (a0 : Nat) (x1 : Int32) (x2 : Int32) : Option (Int32 × MH) := fX13_ruleFor_2 FU h a0 x1 x2 0
set_option maxRecDepth 20000 in
theorem tX13_ruleFor {r : Int32} {h' : MH} {h : MH} {a0 : Nat} {x1 : Int32} {x2 : Int32} (hf : fX13_ruleFor h a0 x1 x2 = some (r, h')) : VM mX13_ruleFor 1 (some (.int r)) h' h [.ref a0, .int x1, .int x2] := by
  show V TT mX13_ruleFor 1 _ h' h 0 [.ref a0, .int x1, .int x2, Jk] []
  unfold fX13_ruleFor at hf
  refine V.iconst (q := 1) (v := 0) (by decide) dX13_ruleFor_0 rfl ?_
  refine V.istore_n (q := 2) (L' := [.ref a0, .int x1, .int x2, .int 0]) rfl dX13_ruleFor_1 rfl (by decide) rfl rfl ?_
  exact tlX13_ruleFor_2  FU _ _ _ _ _ hf
def fX13_saysBy (h : MH) (a0 : Nat) (x1 : Int32) (x2 : Int32) : Option (Int32 × MH) := bd (ck h a0 13) fun _ => bd2 (fX13_ruleFor h a0 x1 x2) fun v2 h1 => if v2 = (-2) then (bd (gR h1 a0 13 3) fun b3 => bd (gR h1 b3 12 13) fun b4 => bd (lI h1 b4 x1) fun v5 => some (v5, h1)) else (bd (gR h1 a0 13 15) fun b3 => bd (lI h1 b3 (21 + v2)) fun v4 => some (v4, h1))
set_option maxRecDepth 20000 in
theorem tX13_saysBy {r : Int32} {h' : MH} {h : MH} {a0 : Nat} {x1 : Int32} {x2 : Int32} (hf : fX13_saysBy h a0 x1 x2 = some (r, h')) : VM mX13_saysBy 2 (some (.int r)) h' h [.ref a0, .int x1, .int x2] := by
  show V TT mX13_saysBy 2 _ h' h 0 [.ref a0, .int x1, .int x2, Jk] []
  unfold fX13_saysBy at hf
  refine V.aload_n (q := 1) rfl dX13_saysBy_0 rfl rfl ?_
  refine V.iload_n (q := 2) rfl dX13_saysBy_1 rfl rfl ?_
  refine V.iload_n (q := 3) rfl dX13_saysBy_2 rfl rfl ?_
  obtain ⟨_, e1, hf⟩ := bd_ex hf
  obtain ⟨v2, h1, eh1, hf⟩ := bd2_ex hf
  refine V.callV (q := 6) (ci := 13) (vs := [.int x1, .int x2]) (st := []) (S2 := [.int v2]) okX13_ruleFor imX13_ruleFor seX13_ruleFor rfl lkX13_346 (tX13_ruleFor eh1) rfl (ck_is e1) (by decide) rfl (Nat.le_of_ble_eq_true rfl) (Nat.le_of_ble_eq_true rfl) rfl dX13_saysBy_3 rfl rfl ?_
  refine V.istore_n (q := 7) (L' := [.ref a0, .int x1, .int x2, .int v2]) rfl dX13_saysBy_6 rfl (by decide) rfl rfl ?_
  refine V.iload_n (q := 8) rfl dX13_saysBy_7 rfl rfl ?_
  refine V.bipush (q := 10) (v := (-2)) (by decide) dX13_saysBy_8 rfl ?_
  refine V.icmp_ne (q := 13) (tgt := 25) dX13_saysBy_10 rfl (by decide) (fun c => ?_) (fun c => ?_)
  · rw [if_neg c] at hf
    refine V.aload_n (q := 26) rfl dX13_saysBy_25 rfl rfl ?_
    obtain ⟨b3, eb3, hf⟩ := bd_ex hf
    refine V.getR (q := 29) flX13_17 rfl eb3 dX13_saysBy_26 rfl ?_
    refine V.bipush (q := 31) (v := 21) (by decide) dX13_saysBy_29 rfl ?_
    refine V.iload_n (q := 32) rfl dX13_saysBy_31 rfl rfl ?_
    refine V.iadd (q := 33) dX13_saysBy_32 rfl ?_
    obtain ⟨v4, ev4, hf⟩ := bd_ex hf
    refine V.iald (q := 34) ev4 dX13_saysBy_33 rfl ?_
    obtain ⟨rfl, rfl⟩ := ret_inj hf
    exact V.ret (r := some (.int v4)) trivial dX13_saysBy_34
  · rw [if_pos c] at hf
    refine V.aload_n (q := 14) rfl dX13_saysBy_13 rfl rfl ?_
    obtain ⟨b3, eb3, hf⟩ := bd_ex hf
    refine V.getR (q := 17) flX13_338 rfl eb3 dX13_saysBy_14 rfl ?_
    obtain ⟨b4, eb4, hf⟩ := bd_ex hf
    refine V.getR (q := 20) flX13_274 rfl eb4 dX13_saysBy_17 rfl ?_
    refine V.iload_n (q := 21) rfl dX13_saysBy_20 rfl rfl ?_
    obtain ⟨v5, ev5, hf⟩ := bd_ex hf
    refine V.iald (q := 22) ev5 dX13_saysBy_21 rfl ?_
    refine V.goto (q := 34) dX13_saysBy_22 (by decide) ?_
    obtain ⟨rfl, rfl⟩ := ret_inj hf
    exact V.ret (r := some (.int v5)) trivial dX13_saysBy_34
def bX13_allSay_2 (k2 : MH → Nat → Int32 → Int32 → Option (Int32 × MH)) (h : MH) (a0 : Nat) (x1 : Int32) (x2 : Int32) : Option (Int32 × MH) := bd (gR h a0 13 3) fun b1 => bd (gI h b1 12 3) fun v2 => if v2 ≤ x2 then (some (1, h)) else (bd (ck h a0 13) fun _ => bd2 (fX13_saysBy h a0 x2 x1) fun v4 h1 => if v4 = 1 then (bd (some (x2 + 1)) fun v5 => k2 h1 a0 x1 v5) else (some (0, h1)))
set_option maxRecDepth 20000 in
theorem tX13_allSay_2 {r : Int32} {h' : MH} (k2 : MH → Nat → Int32 → Int32 → Option (Int32 × MH)) (hk2 : ∀ (h : MH) (a0 : Nat) (x1 : Int32) (x2 : Int32), k2 h a0 x1 x2 = some (r, h') → V TT mX13_allSay 3 (some (.int r)) h' h 2 [.ref a0, .int x1, .int x2] [])  {h : MH} {a0 : Nat} {x1 : Int32} {x2 : Int32} (hf : bX13_allSay_2 k2 h a0 x1 x2 = some (r, h')) : V TT mX13_allSay 3 (some (.int r)) h' h 2 [.ref a0, .int x1, .int x2] [] := by
  unfold bX13_allSay_2 at hf
  refine V.iload_n (q := 3) rfl dX13_allSay_2 rfl rfl ?_
  refine V.aload_n (q := 4) rfl dX13_allSay_3 rfl rfl ?_
  obtain ⟨b1, eb1, hf⟩ := bd_ex hf
  refine V.getR (q := 7) flX13_338 rfl eb1 dX13_allSay_4 rfl ?_
  obtain ⟨v2, ev2, hf⟩ := bd_ex hf
  refine V.getI (q := 10) flX13_262 rfl ev2 dX13_allSay_7 rfl ?_
  refine V.icmp_ge (q := 13) (tgt := 31) dX13_allSay_10 rfl (by decide) (fun c => ?_) (fun c => ?_)
  · rw [if_pos c] at hf
    refine V.iconst (q := 32) (v := 1) (by decide) dX13_allSay_31 rfl ?_
    obtain ⟨rfl, rfl⟩ := ret_inj hf
    exact V.ret (r := some (.int 1)) (Or.inr rfl) dX13_allSay_32
  · rw [if_neg c] at hf
    refine V.aload_n (q := 14) rfl dX13_allSay_13 rfl rfl ?_
    refine V.iload_n (q := 15) rfl dX13_allSay_14 rfl rfl ?_
    refine V.iload_n (q := 16) rfl dX13_allSay_15 rfl rfl ?_
    obtain ⟨_, e3, hf⟩ := bd_ex hf
    obtain ⟨v4, h1, eh1, hf⟩ := bd2_ex hf
    refine V.callV (q := 19) (ci := 13) (vs := [.int x2, .int x1]) (st := []) (S2 := [.int v4]) okX13_saysBy imX13_saysBy seX13_saysBy rfl lkX13_349 (tX13_saysBy eh1) rfl (ck_is e3) (by decide) rfl (Nat.le_of_ble_eq_true rfl) (Nat.le_of_ble_eq_true rfl) rfl dX13_allSay_16 rfl rfl ?_
    refine V.iconst (q := 20) (v := 1) (by decide) dX13_allSay_19 rfl ?_
    refine V.icmp_eq (q := 23) (tgt := 25) dX13_allSay_20 rfl (by decide) (fun c => ?_) (fun c => ?_)
    · rw [if_pos c] at hf
      obtain ⟨v5, ev5, hf⟩ := bd_ex hf
      refine V.iinc (q := 28) (v := v5) (L' := [.ref a0, .int x1, .int v5]) dX13_allSay_25 rfl rfl (Option.some.inj ev5) (by decide) rfl rfl ?_
      refine V.goto (q := 2) dX13_allSay_28 (by decide) ?_
      exact hk2 _ _ _ _ hf
    · rw [if_neg c] at hf
      refine V.iconst (q := 24) (v := 0) (by decide) dX13_allSay_23 rfl ?_
      obtain ⟨rfl, rfl⟩ := ret_inj hf
      exact V.ret (r := some (.int 0)) (Or.inl rfl) dX13_allSay_24
def fX13_allSay_2  : Nat → MH → Nat → Int32 → Int32 → Option (Int32 × MH)
  | 0 => fun _ _ _ _ => none
  | n + 1 => bX13_allSay_2  (fX13_allSay_2  n)
theorem tlX13_allSay_2 {r : Int32} {h' : MH}   : ∀ (n : Nat) (h : MH) (a0 : Nat) (x1 : Int32) (x2 : Int32), fX13_allSay_2  n h a0 x1 x2 = some (r, h') → V TT mX13_allSay 3 (some (.int r)) h' h 2 [.ref a0, .int x1, .int x2] [] := by
  intro n
  induction n with
  | zero => intro h a0 x1 x2 hf; exact nomatch (show (none : Option (Int32 × MH)) = some (r, h') from hf)
  | succ n ih => intro h a0 x1 x2 hf; exact tX13_allSay_2  (fX13_allSay_2  n) ih hf
def fX13_allSay (h : MH) (a0 : Nat) (x1 : Int32) : Option (Int32 × MH) := fX13_allSay_2 FU h a0 x1 0
set_option maxRecDepth 20000 in
theorem tX13_allSay {r : Int32} {h' : MH} {h : MH} {a0 : Nat} {x1 : Int32} (hf : fX13_allSay h a0 x1 = some (r, h')) : VM mX13_allSay 3 (some (.int r)) h' h [.ref a0, .int x1] := by
  show V TT mX13_allSay 3 _ h' h 0 [.ref a0, .int x1, Jk] []
  unfold fX13_allSay at hf
  refine V.iconst (q := 1) (v := 0) (by decide) dX13_allSay_0 rfl ?_
  refine V.istore_n (q := 2) (L' := [.ref a0, .int x1, .int 0]) rfl dX13_allSay_1 rfl (by decide) rfl rfl ?_
  exact tlX13_allSay_2  FU _ _ _ _ hf
def fX13_allStamps (h : MH) (a0 : Nat) : Option (Int32 × MH) := bd (gR h a0 13 3) fun b1 => bd (gI h b1 12 3) fun v2 => some (((1 <<< (v2 &&& 31)) - 1), h)
set_option maxRecDepth 20000 in
theorem tX13_allStamps {r : Int32} {h' : MH} {h : MH} {a0 : Nat} (hf : fX13_allStamps h a0 = some (r, h')) : VM mX13_allStamps 0 (some (.int r)) h' h [.ref a0] := by
  show V TT mX13_allStamps 0 _ h' h 0 [.ref a0] []
  unfold fX13_allStamps at hf
  refine V.iconst (q := 1) (v := 1) (by decide) dX13_allStamps_0 rfl ?_
  refine V.aload_n (q := 2) rfl dX13_allStamps_1 rfl rfl ?_
  obtain ⟨b1, eb1, hf⟩ := bd_ex hf
  refine V.getR (q := 5) flX13_338 rfl eb1 dX13_allStamps_2 rfl ?_
  obtain ⟨v2, ev2, hf⟩ := bd_ex hf
  refine V.getI (q := 8) flX13_262 rfl ev2 dX13_allStamps_5 rfl ?_
  refine V.ishl (q := 9) dX13_allStamps_8 rfl ?_
  refine V.iconst (q := 10) (v := 1) (by decide) dX13_allStamps_9 rfl ?_
  refine V.isub (q := 11) dX13_allStamps_10 rfl ?_
  obtain ⟨rfl, rfl⟩ := ret_inj hf
  exact V.ret (r := some (.int ((1 <<< (v2 &&& 31)) - 1))) trivial dX13_allStamps_11
def fX13_good1 (h : MH) (a0 : Nat) (x1 : Int32) : Option (Int32 × MH) := bd (pI h a0 13 1 0) fun h1 => bd (pI h1 a0 13 2 (-1)) fun h2 => some (x1, h2)
set_option maxRecDepth 20000 in
theorem tX13_good1 {r : Int32} {h' : MH} {h : MH} {a0 : Nat} {x1 : Int32} (hf : fX13_good1 h a0 x1 = some (r, h')) : VM mX13_good1 0 (some (.int r)) h' h [.ref a0, .int x1] := by
  show V TT mX13_good1 0 _ h' h 0 [.ref a0, .int x1] []
  unfold fX13_good1 at hf
  refine V.aload_n (q := 1) rfl dX13_good1_0 rfl rfl ?_
  refine V.iconst (q := 2) (v := 0) (by decide) dX13_good1_1 rfl ?_
  obtain ⟨h1, eh1, hf⟩ := bd_ex hf
  refine V.putI (q := 5) (fpX13_51 rfl) rfl eh1 dX13_good1_2 rfl ?_
  refine V.aload_n (q := 6) rfl dX13_good1_5 rfl rfl ?_
  refine V.iconst (q := 7) (v := (-1)) (by decide) dX13_good1_6 rfl ?_
  obtain ⟨h2, eh2, hf⟩ := bd_ex hf
  refine V.putI (q := 10) (fpX13_9 rfl) rfl eh2 dX13_good1_7 rfl ?_
  refine V.iload_n (q := 11) rfl dX13_good1_10 rfl rfl ?_
  obtain ⟨rfl, rfl⟩ := ret_inj hf
  exact V.ret (r := some (.int x1)) trivial dX13_good1_11
def fX13_saysNow (h : MH) (a0 : Nat) (x1 : Int32) (x2 : Int32) : Option (Int32 × MH) := bd (gR h a0 13 15) fun b1 => bd (lI h b1 (11 + x2)) fun v2 => bd (ck h a0 13) fun _ => bd2 (fX13_saysBy h a0 x1 v2) fun v4 h1 => some (v4, h1)
set_option maxRecDepth 20000 in
theorem tX13_saysNow {r : Int32} {h' : MH} {h : MH} {a0 : Nat} {x1 : Int32} {x2 : Int32} (hf : fX13_saysNow h a0 x1 x2 = some (r, h')) : VM mX13_saysNow 3 (some (.int r)) h' h [.ref a0, .int x1, .int x2] := by
  show V TT mX13_saysNow 3 _ h' h 0 [.ref a0, .int x1, .int x2] []
  unfold fX13_saysNow at hf
  refine V.aload_n (q := 1) rfl dX13_saysNow_0 rfl rfl ?_
  refine V.iload_n (q := 2) rfl dX13_saysNow_1 rfl rfl ?_
  refine V.aload_n (q := 3) rfl dX13_saysNow_2 rfl rfl ?_
  obtain ⟨b1, eb1, hf⟩ := bd_ex hf
  refine V.getR (q := 6) flX13_17 rfl eb1 dX13_saysNow_3 rfl ?_
  refine V.bipush (q := 8) (v := 11) (by decide) dX13_saysNow_6 rfl ?_
  refine V.iload_n (q := 9) rfl dX13_saysNow_8 rfl rfl ?_
  refine V.iadd (q := 10) dX13_saysNow_9 rfl ?_
  obtain ⟨v2, ev2, hf⟩ := bd_ex hf
  refine V.iald (q := 11) ev2 dX13_saysNow_10 rfl ?_
  obtain ⟨_, e3, hf⟩ := bd_ex hf
  obtain ⟨v4, h1, eh1, hf⟩ := bd2_ex hf
  refine V.callV (q := 14) (ci := 13) (vs := [.int x1, .int v2]) (st := []) (S2 := [.int v4]) okX13_saysBy imX13_saysBy seX13_saysBy rfl lkX13_349 (tX13_saysBy eh1) rfl (ck_is e3) (by decide) rfl (Nat.le_of_ble_eq_true rfl) (Nat.le_of_ble_eq_true rfl) rfl dX13_saysNow_11 rfl rfl ?_
  obtain ⟨rfl, rfl⟩ := ret_inj hf
  exact V.ret (r := some (.int v4)) trivial dX13_saysNow_14
def fX13_hasBy (h : MH) (a0 : Nat) (x1 : Int32) (x2 : Int32) : Option (Int32 × MH) := bd (ck h a0 13) fun _ => bd2 (fX13_saysNow h a0 x1 x2) fun v2 h1 => if v2 = 1 then (bd (gR h1 a0 13 3) fun b3 => bd (gR h1 b3 12 9) fun b4 => bd (lI h1 b4 x2) fun v5 => some (v5, h1)) else (if v2 = 2 then (bd (gR h1 a0 13 3) fun b3 => bd (gR h1 b3 12 9) fun b4 => bd (lI h1 b4 x2) fun v5 => bd (nz 2) fun _ => some ((v5 / 2), h1)) else (some (0, h1)))
set_option maxRecDepth 20000 in
theorem tX13_hasBy {r : Int32} {h' : MH} {h : MH} {a0 : Nat} {x1 : Int32} {x2 : Int32} (hf : fX13_hasBy h a0 x1 x2 = some (r, h')) : VM mX13_hasBy 4 (some (.int r)) h' h [.ref a0, .int x1, .int x2] := by
  show V TT mX13_hasBy 4 _ h' h 0 [.ref a0, .int x1, .int x2, Jk] []
  unfold fX13_hasBy at hf
  refine V.aload_n (q := 1) rfl dX13_hasBy_0 rfl rfl ?_
  refine V.iload_n (q := 2) rfl dX13_hasBy_1 rfl rfl ?_
  refine V.iload_n (q := 3) rfl dX13_hasBy_2 rfl rfl ?_
  obtain ⟨_, e1, hf⟩ := bd_ex hf
  obtain ⟨v2, h1, eh1, hf⟩ := bd2_ex hf
  refine V.callV (q := 6) (ci := 13) (vs := [.int x1, .int x2]) (st := []) (S2 := [.int v2]) okX13_saysNow imX13_saysNow seX13_saysNow rfl lkX13_367 (tX13_saysNow eh1) rfl (ck_is e1) (by decide) rfl (Nat.le_of_ble_eq_true rfl) (Nat.le_of_ble_eq_true rfl) rfl dX13_hasBy_3 rfl rfl ?_
  refine V.istore_n (q := 7) (L' := [.ref a0, .int x1, .int x2, .int v2]) rfl dX13_hasBy_6 rfl (by decide) rfl rfl ?_
  refine V.iload_n (q := 8) rfl dX13_hasBy_7 rfl rfl ?_
  refine V.iconst (q := 9) (v := 1) (by decide) dX13_hasBy_8 rfl ?_
  refine V.icmp_ne (q := 12) (tgt := 24) dX13_hasBy_9 rfl (by decide) (fun c => ?_) (fun c => ?_)
  · rw [if_neg c] at hf
    refine V.iload_n (q := 25) rfl dX13_hasBy_24 rfl rfl ?_
    refine V.iconst (q := 26) (v := 2) (by decide) dX13_hasBy_25 rfl ?_
    refine V.icmp_ne (q := 29) (tgt := 43) dX13_hasBy_26 rfl (by decide) (fun c => ?_) (fun c => ?_)
    · rw [if_neg c] at hf
      refine V.iconst (q := 44) (v := 0) (by decide) dX13_hasBy_43 rfl ?_
      obtain ⟨rfl, rfl⟩ := ret_inj hf
      exact V.ret (r := some (.int 0)) trivial dX13_hasBy_44
    · rw [if_pos c] at hf
      refine V.aload_n (q := 30) rfl dX13_hasBy_29 rfl rfl ?_
      obtain ⟨b3, eb3, hf⟩ := bd_ex hf
      refine V.getR (q := 33) flX13_338 rfl eb3 dX13_hasBy_30 rfl ?_
      obtain ⟨b4, eb4, hf⟩ := bd_ex hf
      refine V.getR (q := 36) flX13_257 rfl eb4 dX13_hasBy_33 rfl ?_
      refine V.iload_n (q := 37) rfl dX13_hasBy_36 rfl rfl ?_
      obtain ⟨v5, ev5, hf⟩ := bd_ex hf
      refine V.iald (q := 38) ev5 dX13_hasBy_37 rfl ?_
      refine V.iconst (q := 39) (v := 2) (by decide) dX13_hasBy_38 rfl ?_
      obtain ⟨_, e6, hf⟩ := bd_ex hf
      refine V.idiv (q := 40) (nz_is e6) dX13_hasBy_39 rfl ?_
      refine V.goto (q := 44) dX13_hasBy_40 (by decide) ?_
      obtain ⟨rfl, rfl⟩ := ret_inj hf
      exact V.ret (r := some (.int (v5 / 2))) trivial dX13_hasBy_44
  · rw [if_pos c] at hf
    refine V.aload_n (q := 13) rfl dX13_hasBy_12 rfl rfl ?_
    obtain ⟨b3, eb3, hf⟩ := bd_ex hf
    refine V.getR (q := 16) flX13_338 rfl eb3 dX13_hasBy_13 rfl ?_
    obtain ⟨b4, eb4, hf⟩ := bd_ex hf
    refine V.getR (q := 19) flX13_257 rfl eb4 dX13_hasBy_16 rfl ?_
    refine V.iload_n (q := 20) rfl dX13_hasBy_19 rfl rfl ?_
    obtain ⟨v5, ev5, hf⟩ := bd_ex hf
    refine V.iald (q := 21) ev5 dX13_hasBy_20 rfl ?_
    refine V.goto (q := 44) dX13_hasBy_21 (by decide) ?_
    obtain ⟨rfl, rfl⟩ := ret_inj hf
    exact V.ret (r := some (.int v5)) trivial dX13_hasBy_44
def bX13_hasLeast_9 (k9 : MH → Nat → Int32 → Int32 → Int32 → Option (Int32 × MH)) (h : MH) (a0 : Nat) (x1 : Int32) (x2 : Int32) (x3 : Int32) : Option (Int32 × MH) := bd (gR h a0 13 3) fun b1 => bd (gI h b1 12 3) fun v2 => if v2 ≤ x3 then (some (x2, h)) else (bd (ck h a0 13) fun _ => bd2 (fX13_hasBy h a0 x3 x1) fun v4 h1 => if x2 ≤ v4 then (bd (some (x3 + 1)) fun v5 => k9 h1 a0 x1 x2 v5) else (bd (ck h1 a0 13) fun _ => bd2 (fX13_hasBy h1 a0 x3 x1) fun v6 h2 => bd (some (x3 + 1)) fun v7 => k9 h2 a0 x1 v6 v7))
set_option maxRecDepth 20000 in
theorem tX13_hasLeast_9 {r : Int32} {h' : MH} (k9 : MH → Nat → Int32 → Int32 → Int32 → Option (Int32 × MH)) (hk9 : ∀ (h : MH) (a0 : Nat) (x1 : Int32) (x2 : Int32) (x3 : Int32), k9 h a0 x1 x2 x3 = some (r, h') → V TT mX13_hasLeast 5 (some (.int r)) h' h 9 [.ref a0, .int x1, .int x2, .int x3] [])  {h : MH} {a0 : Nat} {x1 : Int32} {x2 : Int32} {x3 : Int32} (hf : bX13_hasLeast_9 k9 h a0 x1 x2 x3 = some (r, h')) : V TT mX13_hasLeast 5 (some (.int r)) h' h 9 [.ref a0, .int x1, .int x2, .int x3] [] := by
  unfold bX13_hasLeast_9 at hf
  refine V.iload_n (q := 10) rfl dX13_hasLeast_9 rfl rfl ?_
  refine V.aload_n (q := 11) rfl dX13_hasLeast_10 rfl rfl ?_
  obtain ⟨b1, eb1, hf⟩ := bd_ex hf
  refine V.getR (q := 14) flX13_338 rfl eb1 dX13_hasLeast_11 rfl ?_
  obtain ⟨v2, ev2, hf⟩ := bd_ex hf
  refine V.getI (q := 17) flX13_262 rfl ev2 dX13_hasLeast_14 rfl ?_
  refine V.icmp_ge (q := 20) (tgt := 43) dX13_hasLeast_17 rfl (by decide) (fun c => ?_) (fun c => ?_)
  · rw [if_pos c] at hf
    refine V.iload_n (q := 44) rfl dX13_hasLeast_43 rfl rfl ?_
    obtain ⟨rfl, rfl⟩ := ret_inj hf
    exact V.ret (r := some (.int x2)) trivial dX13_hasLeast_44
  · rw [if_neg c] at hf
    refine V.aload_n (q := 21) rfl dX13_hasLeast_20 rfl rfl ?_
    refine V.iload_n (q := 22) rfl dX13_hasLeast_21 rfl rfl ?_
    refine V.iload_n (q := 23) rfl dX13_hasLeast_22 rfl rfl ?_
    obtain ⟨_, e3, hf⟩ := bd_ex hf
    obtain ⟨v4, h1, eh1, hf⟩ := bd2_ex hf
    refine V.callV (q := 26) (ci := 13) (vs := [.int x3, .int x1]) (st := []) (S2 := [.int v4]) okX13_hasBy imX13_hasBy seX13_hasBy rfl lkX13_447 (tX13_hasBy eh1) rfl (ck_is e3) (by decide) rfl (Nat.le_of_ble_eq_true rfl) (Nat.le_of_ble_eq_true rfl) rfl dX13_hasLeast_23 rfl rfl ?_
    refine V.iload_n (q := 27) rfl dX13_hasLeast_26 rfl rfl ?_
    refine V.icmp_ge (q := 30) (tgt := 37) dX13_hasLeast_27 rfl (by decide) (fun c => ?_) (fun c => ?_)
    · rw [if_pos c] at hf
      obtain ⟨v5, ev5, hf⟩ := bd_ex hf
      refine V.iinc (q := 40) (v := v5) (L' := [.ref a0, .int x1, .int x2, .int v5]) dX13_hasLeast_37 rfl rfl (Option.some.inj ev5) (by decide) rfl rfl ?_
      refine V.goto (q := 9) dX13_hasLeast_40 (by decide) ?_
      exact hk9 _ _ _ _ _ hf
    · rw [if_neg c] at hf
      refine V.aload_n (q := 31) rfl dX13_hasLeast_30 rfl rfl ?_
      refine V.iload_n (q := 32) rfl dX13_hasLeast_31 rfl rfl ?_
      refine V.iload_n (q := 33) rfl dX13_hasLeast_32 rfl rfl ?_
      obtain ⟨_, e5, hf⟩ := bd_ex hf
      obtain ⟨v6, h2, eh2, hf⟩ := bd2_ex hf
      refine V.callV (q := 36) (ci := 13) (vs := [.int x3, .int x1]) (st := []) (S2 := [.int v6]) okX13_hasBy imX13_hasBy seX13_hasBy rfl lkX13_447 (tX13_hasBy eh2) rfl (ck_is e5) (by decide) rfl (Nat.le_of_ble_eq_true rfl) (Nat.le_of_ble_eq_true rfl) rfl dX13_hasLeast_33 rfl rfl ?_
      refine V.istore_n (q := 37) (L' := [.ref a0, .int x1, .int v6, .int x3]) rfl dX13_hasLeast_36 rfl (by decide) rfl rfl ?_
      obtain ⟨v7, ev7, hf⟩ := bd_ex hf
      refine V.iinc (q := 40) (v := v7) (L' := [.ref a0, .int x1, .int v6, .int v7]) dX13_hasLeast_37 rfl rfl (Option.some.inj ev7) (by decide) rfl rfl ?_
      refine V.goto (q := 9) dX13_hasLeast_40 (by decide) ?_
      exact hk9 _ _ _ _ _ hf
def fX13_hasLeast_9  : Nat → MH → Nat → Int32 → Int32 → Int32 → Option (Int32 × MH)
  | 0 => fun _ _ _ _ _ => none
  | n + 1 => bX13_hasLeast_9  (fX13_hasLeast_9  n)
theorem tlX13_hasLeast_9 {r : Int32} {h' : MH}   : ∀ (n : Nat) (h : MH) (a0 : Nat) (x1 : Int32) (x2 : Int32) (x3 : Int32), fX13_hasLeast_9  n h a0 x1 x2 x3 = some (r, h') → V TT mX13_hasLeast 5 (some (.int r)) h' h 9 [.ref a0, .int x1, .int x2, .int x3] [] := by
  intro n
  induction n with
  | zero => intro h a0 x1 x2 x3 hf; exact nomatch (show (none : Option (Int32 × MH)) = some (r, h') from hf)
  | succ n ih => intro h a0 x1 x2 x3 hf; exact tX13_hasLeast_9  (fX13_hasLeast_9  n) ih hf
def fX13_hasLeast (h : MH) (a0 : Nat) (x1 : Int32) : Option (Int32 × MH) := bd (ck h a0 13) fun _ => bd2 (fX13_hasBy h a0 0 x1) fun v2 h1 => fX13_hasLeast_9 FU h1 a0 x1 v2 1
set_option maxRecDepth 20000 in
theorem tX13_hasLeast {r : Int32} {h' : MH} {h : MH} {a0 : Nat} {x1 : Int32} (hf : fX13_hasLeast h a0 x1 = some (r, h')) : VM mX13_hasLeast 5 (some (.int r)) h' h [.ref a0, .int x1] := by
  show V TT mX13_hasLeast 5 _ h' h 0 [.ref a0, .int x1, Jk, Jk] []
  unfold fX13_hasLeast at hf
  refine V.aload_n (q := 1) rfl dX13_hasLeast_0 rfl rfl ?_
  refine V.iconst (q := 2) (v := 0) (by decide) dX13_hasLeast_1 rfl ?_
  refine V.iload_n (q := 3) rfl dX13_hasLeast_2 rfl rfl ?_
  obtain ⟨_, e1, hf⟩ := bd_ex hf
  obtain ⟨v2, h1, eh1, hf⟩ := bd2_ex hf
  refine V.callV (q := 6) (ci := 13) (vs := [.int 0, .int x1]) (st := []) (S2 := [.int v2]) okX13_hasBy imX13_hasBy seX13_hasBy rfl lkX13_447 (tX13_hasBy eh1) rfl (ck_is e1) (by decide) rfl (Nat.le_of_ble_eq_true rfl) (Nat.le_of_ble_eq_true rfl) rfl dX13_hasLeast_3 rfl rfl ?_
  refine V.istore_n (q := 7) (L' := [.ref a0, .int x1, .int v2, Jk]) rfl dX13_hasLeast_6 rfl (by decide) rfl rfl ?_
  refine V.iconst (q := 8) (v := 1) (by decide) dX13_hasLeast_7 rfl ?_
  refine V.istore_n (q := 9) (L' := [.ref a0, .int x1, .int v2, .int 1]) rfl dX13_hasLeast_8 rfl (by decide) rfl rfl ?_
  exact tlX13_hasLeast_9  FU _ _ _ _ _ hf
def fX13_refused (h : MH) (a0 : Nat) (x1 : Int32) : Option (Int32 × MH) := bd (pI h a0 13 1 x1) fun h1 => bd (pI h1 a0 13 2 (-1)) fun h2 => some ((-1), h2)
set_option maxRecDepth 20000 in
theorem tX13_refused {r : Int32} {h' : MH} {h : MH} {a0 : Nat} {x1 : Int32} (hf : fX13_refused h a0 x1 = some (r, h')) : VM mX13_refused 0 (some (.int r)) h' h [.ref a0, .int x1] := by
  show V TT mX13_refused 0 _ h' h 0 [.ref a0, .int x1] []
  unfold fX13_refused at hf
  refine V.aload_n (q := 1) rfl dX13_refused_0 rfl rfl ?_
  refine V.iload_n (q := 2) rfl dX13_refused_1 rfl rfl ?_
  obtain ⟨h1, eh1, hf⟩ := bd_ex hf
  refine V.putI (q := 5) (fpX13_51 rfl) rfl eh1 dX13_refused_2 rfl ?_
  refine V.aload_n (q := 6) rfl dX13_refused_5 rfl rfl ?_
  refine V.iconst (q := 7) (v := (-1)) (by decide) dX13_refused_6 rfl ?_
  obtain ⟨h2, eh2, hf⟩ := bd_ex hf
  refine V.putI (q := 10) (fpX13_9 rfl) rfl eh2 dX13_refused_7 rfl ?_
  refine V.iconst (q := 11) (v := (-1)) (by decide) dX13_refused_10 rfl ?_
  obtain ⟨rfl, rfl⟩ := ret_inj hf
  exact V.ret (r := some (.int (-1))) trivial dX13_refused_11
