def fX6_returnTo (h : MH) (a0 : Nat) (x1 : Int32) (a2 : Nat) : Option (MH) := bd (gR h a0 6 1) fun b1 => bd (lR h b1 x1) fun b2 => bd (ck h a2 4) fun _ => bd (fX4_copyFrom h a2 b2) fun h1 => bd (pI h1 a0 6 3 0) fun h2 => some h2
set_option maxRecDepth 20000 in
theorem tX6_returnTo {h' : MH} {h : MH} {a0 : Nat} {x1 : Int32} {a2 : Nat} (hf : fX6_returnTo h a0 x1 a2 = some h') : VM mX6_returnTo 1 none h' h [.ref a0, .int x1, .ref a2] := by
  show V TT mX6_returnTo 1 _ h' h 0 [.ref a0, .int x1, .ref a2] []
  unfold fX6_returnTo at hf
  refine V.aload_n (q := 1) rfl dX6_returnTo_0 rfl rfl ?_
  refine V.aload_n (q := 2) rfl dX6_returnTo_1 rfl rfl ?_
  obtain ⟨b1, eb1, hf⟩ := bd_ex hf
  refine V.getR (q := 5) flX6_16 rfl eb1 dX6_returnTo_2 rfl ?_
  refine V.iload_n (q := 6) rfl dX6_returnTo_5 rfl rfl ?_
  obtain ⟨b2, eb2, hf⟩ := bd_ex hf
  refine V.aald (q := 7) eb2 dX6_returnTo_6 rfl ?_
  obtain ⟨_, e3, hf⟩ := bd_ex hf
  obtain ⟨h1, eh1, hf⟩ := bd_ex hf
  refine V.callV (q := 10) (ci := 4) (vs := [.ref b2]) (st := []) (S2 := []) okX4_copyFrom imX4_copyFrom seX4_copyFrom rfl lkX6_33 (tX4_copyFrom eh1) rfl (ck_is e3) (by decide) rfl (Nat.le_of_ble_eq_true rfl) (Nat.le_of_ble_eq_true rfl) rfl dX6_returnTo_7 rfl rfl ?_
  refine V.aload_n (q := 11) rfl dX6_returnTo_10 rfl rfl ?_
  refine V.iconst (q := 12) (v := 0) (by decide) dX6_returnTo_11 rfl ?_
  obtain ⟨h2, eh2, hf⟩ := bd_ex hf
  refine V.putI (q := 15) (fpX6_19 rfl) rfl eh2 dX6_returnTo_12 rfl ?_
  cases hf
  exact V.ret (r := none) trivial dX6_returnTo_15
def fX11_back (h : MH) (a0 : Nat) (x1 : Int32) : Option (Int32 × MH) := if x1 < 0 then (bd (ck h a0 11) fun _ => bd2 (fX11_deny h a0 1) fun v2 h1 => rB v2 h1) else (bd (gR h a0 11 3) fun b1 => bd (gI h b1 6 4) fun v2 => if x1 < v2 then (bd (gR h a0 11 3) fun b3 => bd (gR h a0 11 2) fun b4 => bd (gR h b4 5 0) fun b5 => bd (ck h b3 6) fun _ => bd (fX6_returnTo h b3 x1 b5) fun h1 => bd (ck h1 a0 11) fun _ => bd2 (fX11_allow h1 a0 ) fun v8 h2 => rB v8 h2) else (bd (ck h a0 11) fun _ => bd2 (fX11_deny h a0 1) fun v4 h1 => rB v4 h1))
set_option maxRecDepth 20000 in
theorem tX11_back {r : Int32} {h' : MH} {h : MH} {a0 : Nat} {x1 : Int32} (hf : fX11_back h a0 x1 = some (r, h')) : VM mX11_back 2 (some (.int r)) h' h [.ref a0, .int x1] := by
  show V TT mX11_back 2 _ h' h 0 [.ref a0, .int x1] []
  unfold fX11_back at hf
  refine V.iload_n (q := 1) rfl dX11_back_0 rfl rfl ?_
  refine V.if_lt (q := 4) (tgt := 15) dX11_back_1 rfl (by decide) (fun c => ?_) (fun c => ?_)
  · rw [if_pos c] at hf
    refine V.aload_n (q := 16) rfl dX11_back_15 rfl rfl ?_
    refine V.iconst (q := 17) (v := 1) (by decide) dX11_back_16 rfl ?_
    obtain ⟨_, e1, hf⟩ := bd_ex hf
    obtain ⟨v2, h1, eh1, hf⟩ := bd2_ex hf
    refine V.callV (q := 20) (ci := 11) (vs := [.int 1]) (st := []) (S2 := [.int v2]) okX11_deny imX11_deny seX11_deny rfl lkX11_347 (tX11_deny eh1) rfl (ck_is e1) (by decide) rfl (Nat.le_of_ble_eq_true rfl) (Nat.le_of_ble_eq_true rfl) rfl dX11_back_17 rfl rfl ?_
    obtain ⟨hb, rfl, rfl⟩ := rB_inj hf
    exact V.ret (r := some (.int v2)) hb dX11_back_20
  · rw [if_neg c] at hf
    refine V.iload_n (q := 5) rfl dX11_back_4 rfl rfl ?_
    refine V.aload_n (q := 6) rfl dX11_back_5 rfl rfl ?_
    obtain ⟨b1, eb1, hf⟩ := bd_ex hf
    refine V.getR (q := 9) flX11_35 rfl eb1 dX11_back_6 rfl ?_
    obtain ⟨v2, ev2, hf⟩ := bd_ex hf
    refine V.getI (q := 12) flX11_382 rfl ev2 dX11_back_9 rfl ?_
    refine V.icmp_lt (q := 15) (tgt := 21) dX11_back_12 rfl (by decide) (fun c => ?_) (fun c => ?_)
    · rw [if_pos c] at hf
      refine V.aload_n (q := 22) rfl dX11_back_21 rfl rfl ?_
      obtain ⟨b3, eb3, hf⟩ := bd_ex hf
      refine V.getR (q := 25) flX11_35 rfl eb3 dX11_back_22 rfl ?_
      refine V.iload_n (q := 26) rfl dX11_back_25 rfl rfl ?_
      refine V.aload_n (q := 27) rfl dX11_back_26 rfl rfl ?_
      obtain ⟨b4, eb4, hf⟩ := bd_ex hf
      refine V.getR (q := 30) flX11_28 rfl eb4 dX11_back_27 rfl ?_
      obtain ⟨b5, eb5, hf⟩ := bd_ex hf
      refine V.getR (q := 33) flX11_137 rfl eb5 dX11_back_30 rfl ?_
      obtain ⟨_, e6, hf⟩ := bd_ex hf
      obtain ⟨h1, eh1, hf⟩ := bd_ex hf
      refine V.callV (q := 36) (ci := 6) (vs := [.int x1, .ref b5]) (st := []) (S2 := []) okX6_returnTo imX6_returnTo seX6_returnTo rfl lkX11_385 (tX6_returnTo eh1) rfl (ck_is e6) (by decide) rfl (Nat.le_of_ble_eq_true rfl) (Nat.le_of_ble_eq_true rfl) rfl dX11_back_33 rfl rfl ?_
      refine V.aload_n (q := 37) rfl dX11_back_36 rfl rfl ?_
      obtain ⟨_, e7, hf⟩ := bd_ex hf
      obtain ⟨v8, h2, eh2, hf⟩ := bd2_ex hf
      refine V.callV (q := 40) (ci := 11) (vs := []) (st := []) (S2 := [.int v8]) okX11_allow imX11_allow seX11_allow rfl lkX11_353 (tX11_allow eh2) rfl (ck_is e7) (by decide) rfl (Nat.le_of_ble_eq_true rfl) (Nat.le_of_ble_eq_true rfl) rfl dX11_back_37 rfl rfl ?_
      obtain ⟨hb, rfl, rfl⟩ := rB_inj hf
      exact V.ret (r := some (.int v8)) hb dX11_back_40
    · rw [if_neg c] at hf
      refine V.aload_n (q := 16) rfl dX11_back_15 rfl rfl ?_
      refine V.iconst (q := 17) (v := 1) (by decide) dX11_back_16 rfl ?_
      obtain ⟨_, e3, hf⟩ := bd_ex hf
      obtain ⟨v4, h1, eh1, hf⟩ := bd2_ex hf
      refine V.callV (q := 20) (ci := 11) (vs := [.int 1]) (st := []) (S2 := [.int v4]) okX11_deny imX11_deny seX11_deny rfl lkX11_347 (tX11_deny eh1) rfl (ck_is e3) (by decide) rfl (Nat.le_of_ble_eq_true rfl) (Nat.le_of_ble_eq_true rfl) rfl dX11_back_17 rfl rfl ?_
      obtain ⟨hb, rfl, rfl⟩ := rB_inj hf
      exact V.ret (r := some (.int v4)) hb dX11_back_20
def fX5_hasPaper (h : MH) (a0 : Nat) (x1 : Int32) : Option (Int32 × MH) := if x1 < 0 then (some (0, h)) else (bd (gR h a0 5 1) fun b1 => bd (gI h b1 7 14) fun v2 => if v2 ≤ x1 then (some (0, h)) else (some (1, h)))
set_option maxRecDepth 20000 in
theorem tX5_hasPaper {r : Int32} {h' : MH} {h : MH} {a0 : Nat} {x1 : Int32} (hf : fX5_hasPaper h a0 x1 = some (r, h')) : VM mX5_hasPaper 0 (some (.int r)) h' h [.ref a0, .int x1] := by
  show V TT mX5_hasPaper 0 _ h' h 0 [.ref a0, .int x1] []
  unfold fX5_hasPaper at hf
  refine V.iload_n (q := 1) rfl dX5_hasPaper_0 rfl rfl ?_
  refine V.if_lt (q := 4) (tgt := 19) dX5_hasPaper_1 rfl (by decide) (fun c => ?_) (fun c => ?_)
  · rw [if_pos c] at hf
    refine V.iconst (q := 20) (v := 0) (by decide) dX5_hasPaper_19 rfl ?_
    obtain ⟨rfl, rfl⟩ := ret_inj hf
    exact V.ret (r := some (.int 0)) (Or.inl rfl) dX5_hasPaper_20
  · rw [if_neg c] at hf
    refine V.iload_n (q := 5) rfl dX5_hasPaper_4 rfl rfl ?_
    refine V.aload_n (q := 6) rfl dX5_hasPaper_5 rfl rfl ?_
    obtain ⟨b1, eb1, hf⟩ := bd_ex hf
    refine V.getR (q := 9) flX5_21 rfl eb1 dX5_hasPaper_6 rfl ?_
    obtain ⟨v2, ev2, hf⟩ := bd_ex hf
    refine V.getI (q := 12) flX5_29 rfl ev2 dX5_hasPaper_9 rfl ?_
    refine V.icmp_ge (q := 15) (tgt := 19) dX5_hasPaper_12 rfl (by decide) (fun c => ?_) (fun c => ?_)
    · rw [if_pos c] at hf
      refine V.iconst (q := 20) (v := 0) (by decide) dX5_hasPaper_19 rfl ?_
      obtain ⟨rfl, rfl⟩ := ret_inj hf
      exact V.ret (r := some (.int 0)) (Or.inl rfl) dX5_hasPaper_20
    · rw [if_neg c] at hf
      refine V.iconst (q := 16) (v := 1) (by decide) dX5_hasPaper_15 rfl ?_
      refine V.goto (q := 20) dX5_hasPaper_16 (by decide) ?_
      obtain ⟨rfl, rfl⟩ := ret_inj hf
      exact V.ret (r := some (.int 1)) (Or.inr rfl) dX5_hasPaper_20
def bX5_stampsThatSay_5 (k5 : MH → Nat → Int32 → Int32 → Int32 → Int32 → Option (Int32 × MH)) (h : MH) (a0 : Nat) (x1 : Int32) (x2 : Int32) (x3 : Int32) (x4 : Int32) : Option (Int32 × MH) := bd (gR h a0 5 1) fun b1 => bd (gI h b1 7 15) fun v2 => if v2 ≤ x4 then (some (x3, h)) else (bd (ck h a0 5) fun _ => bd2 (fX5_sayOf h a0 x4 x1) fun v4 h1 => if v4 = x2 then (bd (some (x3 ||| (1 <<< (x4 &&& 31)))) fun v5 => bd (some (x4 + 1)) fun v6 => k5 h1 a0 x1 x2 v5 v6) else (bd (some (x4 + 1)) fun v5 => k5 h1 a0 x1 x2 x3 v5))
set_option maxRecDepth 20000 in
theorem tX5_stampsThatSay_5 {r : Int32} {h' : MH} (k5 : MH → Nat → Int32 → Int32 → Int32 → Int32 → Option (Int32 × MH)) (hk5 : ∀ (h : MH) (a0 : Nat) (x1 : Int32) (x2 : Int32) (x3 : Int32) (x4 : Int32), k5 h a0 x1 x2 x3 x4 = some (r, h') → V TT mX5_stampsThatSay 2 (some (.int r)) h' h 5 [.ref a0, .int x1, .int x2, .int x3, .int x4] [])  {h : MH} {a0 : Nat} {x1 : Int32} {x2 : Int32} {x3 : Int32} {x4 : Int32} (hf : bX5_stampsThatSay_5 k5 h a0 x1 x2 x3 x4 = some (r, h')) : V TT mX5_stampsThatSay 2 (some (.int r)) h' h 5 [.ref a0, .int x1, .int x2, .int x3, .int x4] [] := by
  unfold bX5_stampsThatSay_5 at hf
  refine V.iload (q := 7) dX5_stampsThatSay_5 rfl rfl ?_
  refine V.aload_n (q := 8) rfl dX5_stampsThatSay_7 rfl rfl ?_
  obtain ⟨b1, eb1, hf⟩ := bd_ex hf
  refine V.getR (q := 11) flX5_21 rfl eb1 dX5_stampsThatSay_8 rfl ?_
  obtain ⟨v2, ev2, hf⟩ := bd_ex hf
  refine V.getI (q := 14) flX5_32 rfl ev2 dX5_stampsThatSay_11 rfl ?_
  refine V.icmp_ge (q := 17) (tgt := 41) dX5_stampsThatSay_14 rfl (by decide) (fun c => ?_) (fun c => ?_)
  · rw [if_pos c] at hf
    refine V.iload_n (q := 42) rfl dX5_stampsThatSay_41 rfl rfl ?_
    obtain ⟨rfl, rfl⟩ := ret_inj hf
    exact V.ret (r := some (.int x3)) trivial dX5_stampsThatSay_42
  · rw [if_neg c] at hf
    refine V.aload_n (q := 18) rfl dX5_stampsThatSay_17 rfl rfl ?_
    refine V.iload (q := 20) dX5_stampsThatSay_18 rfl rfl ?_
    refine V.iload_n (q := 21) rfl dX5_stampsThatSay_20 rfl rfl ?_
    obtain ⟨_, e3, hf⟩ := bd_ex hf
    obtain ⟨v4, h1, eh1, hf⟩ := bd2_ex hf
    refine V.callV (q := 24) (ci := 5) (vs := [.int x4, .int x1]) (st := []) (S2 := [.int v4]) okX5_sayOf imX5_sayOf seX5_sayOf rfl lkX5_75 (tX5_sayOf eh1) rfl (ck_is e3) (by decide) rfl (Nat.le_of_ble_eq_true rfl) (Nat.le_of_ble_eq_true rfl) rfl dX5_stampsThatSay_21 rfl rfl ?_
    refine V.iload_n (q := 25) rfl dX5_stampsThatSay_24 rfl rfl ?_
    refine V.icmp_ne (q := 28) (tgt := 35) dX5_stampsThatSay_25 rfl (by decide) (fun c => ?_) (fun c => ?_)
    · rw [if_neg c] at hf
      obtain ⟨v5, ev5, hf⟩ := bd_ex hf
      refine V.iinc (q := 38) (v := v5) (L' := [.ref a0, .int x1, .int x2, .int x3, .int v5]) dX5_stampsThatSay_35 rfl rfl (Option.some.inj ev5) (by decide) rfl rfl ?_
      refine V.goto (q := 5) dX5_stampsThatSay_38 (by decide) ?_
      exact hk5 _ _ _ _ _ _ hf
    · rw [if_pos c] at hf
      refine V.iload_n (q := 29) rfl dX5_stampsThatSay_28 rfl rfl ?_
      refine V.iconst (q := 30) (v := 1) (by decide) dX5_stampsThatSay_29 rfl ?_
      refine V.iload (q := 32) dX5_stampsThatSay_30 rfl rfl ?_
      refine V.ishl (q := 33) dX5_stampsThatSay_32 rfl ?_
      refine V.ior (q := 34) dX5_stampsThatSay_33 rfl ?_
      obtain ⟨v5, ev5, hf⟩ := bd_ex hf
      refine V.topI (Option.some.inj ev5) ?_
      refine V.istore_n (q := 35) (L' := [.ref a0, .int x1, .int x2, .int v5, .int x4]) rfl dX5_stampsThatSay_34 rfl (by decide) rfl rfl ?_
      obtain ⟨v6, ev6, hf⟩ := bd_ex hf
      refine V.iinc (q := 38) (v := v6) (L' := [.ref a0, .int x1, .int x2, .int v5, .int v6]) dX5_stampsThatSay_35 rfl rfl (Option.some.inj ev6) (by decide) rfl rfl ?_
      refine V.goto (q := 5) dX5_stampsThatSay_38 (by decide) ?_
      exact hk5 _ _ _ _ _ _ hf
def fX5_stampsThatSay_5  : Nat → MH → Nat → Int32 → Int32 → Int32 → Int32 → Option (Int32 × MH)
  | 0 => fun _ _ _ _ _ _ => none
  | n + 1 => bX5_stampsThatSay_5  (fX5_stampsThatSay_5  n)
theorem tlX5_stampsThatSay_5 {r : Int32} {h' : MH}   : ∀ (n : Nat) (h : MH) (a0 : Nat) (x1 : Int32) (x2 : Int32) (x3 : Int32) (x4 : Int32), fX5_stampsThatSay_5  n h a0 x1 x2 x3 x4 = some (r, h') → V TT mX5_stampsThatSay 2 (some (.int r)) h' h 5 [.ref a0, .int x1, .int x2, .int x3, .int x4] [] := by
  intro n
  induction n with
  | zero => intro h a0 x1 x2 x3 x4 hf; exact nomatch (show (none : Option (Int32 × MH)) = some (r, h') from hf)
  | succ n ih => intro h a0 x1 x2 x3 x4 hf; exact tX5_stampsThatSay_5  (fX5_stampsThatSay_5  n) ih hf
def fX5_stampsThatSay (h : MH) (a0 : Nat) (x1 : Int32) (x2 : Int32) : Option (Int32 × MH) := fX5_stampsThatSay_5 FU h a0 x1 x2 0 0
set_option maxRecDepth 20000 in
theorem tX5_stampsThatSay {r : Int32} {h' : MH} {h : MH} {a0 : Nat} {x1 : Int32} {x2 : Int32} (hf : fX5_stampsThatSay h a0 x1 x2 = some (r, h')) : VM mX5_stampsThatSay 2 (some (.int r)) h' h [.ref a0, .int x1, .int x2] := by
  show V TT mX5_stampsThatSay 2 _ h' h 0 [.ref a0, .int x1, .int x2, Jk, Jk] []
  unfold fX5_stampsThatSay at hf
  refine V.iconst (q := 1) (v := 0) (by decide) dX5_stampsThatSay_0 rfl ?_
  refine V.istore_n (q := 2) (L' := [.ref a0, .int x1, .int x2, .int 0, Jk]) rfl dX5_stampsThatSay_1 rfl (by decide) rfl rfl ?_
  refine V.iconst (q := 3) (v := 0) (by decide) dX5_stampsThatSay_2 rfl ?_
  refine V.istore (q := 5) (L' := [.ref a0, .int x1, .int x2, .int 0, .int 0]) dX5_stampsThatSay_3 rfl (by decide) rfl rfl ?_
  exact tlX5_stampsThatSay_5  FU _ _ _ _ _ _ hf
def bX5_markForMostYes_23 (k23 : MH → Nat → Int32 → Int32 → Int32 → Int32 → Option (Int32 × MH)) (h : MH) (a0 : Nat) (x1 : Int32) (x2 : Int32) (x3 : Int32) (x4 : Int32) : Option (Int32 × MH) := bd (gR h a0 5 1) fun b1 => bd (gI h b1 7 13) fun v2 => if v2 ≤ x4 then (some (x2, h)) else (bd (gR h a0 5 0) fun b3 => bd (ck h b3 4) fun _ => bd2 (fX4_marksOf h b3 x1) fun v5 h1 => bd (ck h1 a0 5) fun _ => bd2 (fX5_stampsThatSay h1 a0 (v5 ^^^ (1 <<< (x4 &&& 31))) 1) fun v7 h2 => bd2 (fJ6_bitCount_0f7a4 h2 v7) fun v8 h3 => if v8 ≤ x3 then (bd (some (x4 + 1)) fun v9 => k23 h3 a0 x1 x2 x3 v9) else (bd (some (x4 + 1)) fun v9 => k23 h3 a0 x1 x4 v8 v9))
set_option maxRecDepth 20000 in
theorem tX5_markForMostYes_23 {r : Int32} {h' : MH} (k23 : MH → Nat → Int32 → Int32 → Int32 → Int32 → Option (Int32 × MH)) (hk23 : ∀ (h : MH) (a0 : Nat) (x1 : Int32) (x2 : Int32) (x3 : Int32) (x4 : Int32), k23 h a0 x1 x2 x3 x4 = some (r, h') → V TT mX5_markForMostYes 3 (some (.int r)) h' h 23 [.ref a0, .int x1, .int x2, .int x3, .int x4, Jk] [])  {h : MH} {a0 : Nat} {x1 : Int32} {x2 : Int32} {x3 : Int32} {x4 : Int32} (hf : bX5_markForMostYes_23 k23 h a0 x1 x2 x3 x4 = some (r, h')) : V TT mX5_markForMostYes 3 (some (.int r)) h' h 23 [.ref a0, .int x1, .int x2, .int x3, .int x4, Jk] [] := by
  unfold bX5_markForMostYes_23 at hf
  refine V.iload (q := 25) dX5_markForMostYes_23 rfl rfl ?_
  refine V.aload_n (q := 26) rfl dX5_markForMostYes_25 rfl rfl ?_
  obtain ⟨b1, eb1, hf⟩ := bd_ex hf
  refine V.getR (q := 29) flX5_21 rfl eb1 dX5_markForMostYes_26 rfl ?_
  obtain ⟨v2, ev2, hf⟩ := bd_ex hf
  refine V.getI (q := 32) flX5_25 rfl ev2 dX5_markForMostYes_29 rfl ?_
  refine V.icmp_ge (q := 35) (tgt := 76) dX5_markForMostYes_32 rfl (by decide) (fun c => ?_) (fun c => ?_)
  · rw [if_pos c] at hf
    refine V.iload_n (q := 77) rfl dX5_markForMostYes_76 rfl rfl ?_
    obtain ⟨rfl, rfl⟩ := ret_inj hf
    exact V.ret (r := some (.int x2)) trivial dX5_markForMostYes_77
  · rw [if_neg c] at hf
    refine V.aload_n (q := 36) rfl dX5_markForMostYes_35 rfl rfl ?_
    refine V.aload_n (q := 37) rfl dX5_markForMostYes_36 rfl rfl ?_
    obtain ⟨b3, eb3, hf⟩ := bd_ex hf
    refine V.getR (q := 40) flX5_12 rfl eb3 dX5_markForMostYes_37 rfl ?_
    refine V.iload_n (q := 41) rfl dX5_markForMostYes_40 rfl rfl ?_
    obtain ⟨_, e4, hf⟩ := bd_ex hf
    obtain ⟨v5, h1, eh1, hf⟩ := bd2_ex hf
    refine V.callV (q := 44) (ci := 4) (vs := [.int x1]) (st := [.ref a0]) (S2 := [.int v5, .ref a0]) okX4_marksOf imX4_marksOf seX4_marksOf rfl lkX5_72 (tX4_marksOf eh1) rfl (ck_is e4) (by decide) rfl (Nat.le_of_ble_eq_true rfl) (Nat.le_of_ble_eq_true rfl) rfl dX5_markForMostYes_41 rfl rfl ?_
    refine V.iconst (q := 45) (v := 1) (by decide) dX5_markForMostYes_44 rfl ?_
    refine V.iload (q := 47) dX5_markForMostYes_45 rfl rfl ?_
    refine V.ishl (q := 48) dX5_markForMostYes_47 rfl ?_
    refine V.ixor (q := 49) dX5_markForMostYes_48 rfl ?_
    refine V.iconst (q := 50) (v := 1) (by decide) dX5_markForMostYes_49 rfl ?_
    obtain ⟨_, e6, hf⟩ := bd_ex hf
    obtain ⟨v7, h2, eh2, hf⟩ := bd2_ex hf
    refine V.callV (q := 53) (ci := 5) (vs := [.int (v5 ^^^ (1 <<< (x4 &&& 31))), .int 1]) (st := []) (S2 := [.int v7]) okX5_stampsThatSay imX5_stampsThatSay seX5_stampsThatSay rfl lkX5_105 (tX5_stampsThatSay eh2) rfl (ck_is e6) (by decide) rfl (Nat.le_of_ble_eq_true rfl) (Nat.le_of_ble_eq_true rfl) rfl dX5_markForMostYes_50 rfl rfl ?_
    obtain ⟨v8, h3, eh3, hf⟩ := bd2_ex hf
    refine V.callS (q := 56) (vs := [.int v7]) (st := []) (S2 := [.int v8]) okJ6_bitCount_0f7a4 stJ6_bitCount_0f7a4 lkX5_108 (tJ6_bitCount_0f7a4 eh3) rfl (by decide) rfl (Nat.le_of_ble_eq_true rfl) (Nat.le_of_ble_eq_true rfl) rfl dX5_markForMostYes_53 rfl rfl ?_
    refine V.istore (q := 58) (L' := [.ref a0, .int x1, .int x2, .int x3, .int x4, .int v8]) dX5_markForMostYes_56 rfl (by decide) rfl rfl ?_
    refine V.iload (q := 60) dX5_markForMostYes_58 rfl rfl ?_
    refine V.iload_n (q := 61) rfl dX5_markForMostYes_60 rfl rfl ?_
    refine V.icmp_le (q := 64) (tgt := 70) dX5_markForMostYes_61 rfl (by decide) (fun c => ?_) (fun c => ?_)
    · rw [if_pos c] at hf
      obtain ⟨v9, ev9, hf⟩ := bd_ex hf
      refine V.iinc (q := 73) (v := v9) (L' := [.ref a0, .int x1, .int x2, .int x3, .int v9, .int v8]) dX5_markForMostYes_70 rfl rfl (Option.some.inj ev9) (by decide) rfl rfl ?_
      refine V.goto (q := 23) dX5_markForMostYes_73 (by decide) ?_
      refine V.forget (L' := [.ref a0, .int x1, .int x2, .int x3, .int v9, Jk]) ⟨Or.inr rfl, Or.inr rfl, Or.inr rfl, Or.inr rfl, Or.inr rfl, Or.inl rfl, trivial⟩ ?_
      exact hk23 _ _ _ _ _ _ hf
    · rw [if_neg c] at hf
      refine V.iload (q := 66) dX5_markForMostYes_64 rfl rfl ?_
      refine V.istore_n (q := 67) (L' := [.ref a0, .int x1, .int x2, .int v8, .int x4, .int v8]) rfl dX5_markForMostYes_66 rfl (by decide) rfl rfl ?_
      refine V.iload (q := 69) dX5_markForMostYes_67 rfl rfl ?_
      refine V.istore_n (q := 70) (L' := [.ref a0, .int x1, .int x4, .int v8, .int x4, .int v8]) rfl dX5_markForMostYes_69 rfl (by decide) rfl rfl ?_
      obtain ⟨v9, ev9, hf⟩ := bd_ex hf
      refine V.iinc (q := 73) (v := v9) (L' := [.ref a0, .int x1, .int x4, .int v8, .int v9, .int v8]) dX5_markForMostYes_70 rfl rfl (Option.some.inj ev9) (by decide) rfl rfl ?_
      refine V.goto (q := 23) dX5_markForMostYes_73 (by decide) ?_
      refine V.forget (L' := [.ref a0, .int x1, .int x4, .int v8, .int v9, Jk]) ⟨Or.inr rfl, Or.inr rfl, Or.inr rfl, Or.inr rfl, Or.inr rfl, Or.inl rfl, trivial⟩ ?_
      exact hk23 _ _ _ _ _ _ hf
def fX5_markForMostYes_23  : Nat → MH → Nat → Int32 → Int32 → Int32 → Int32 → Option (Int32 × MH)
  | 0 => fun _ _ _ _ _ _ => none
  | n + 1 => bX5_markForMostYes_23  (fX5_markForMostYes_23  n)
theorem tlX5_markForMostYes_23 {r : Int32} {h' : MH}   : ∀ (n : Nat) (h : MH) (a0 : Nat) (x1 : Int32) (x2 : Int32) (x3 : Int32) (x4 : Int32), fX5_markForMostYes_23  n h a0 x1 x2 x3 x4 = some (r, h') → V TT mX5_markForMostYes 3 (some (.int r)) h' h 23 [.ref a0, .int x1, .int x2, .int x3, .int x4, Jk] [] := by
  intro n
  induction n with
  | zero => intro h a0 x1 x2 x3 x4 hf; exact nomatch (show (none : Option (Int32 × MH)) = some (r, h') from hf)
  | succ n ih => intro h a0 x1 x2 x3 x4 hf; exact tX5_markForMostYes_23  (fX5_markForMostYes_23  n) ih hf
def fX5_markForMostYes (h : MH) (a0 : Nat) (x1 : Int32) : Option (Int32 × MH) := bd (gR h a0 5 0) fun b1 => bd (ck h b1 4) fun _ => bd2 (fX4_marksOf h b1 x1) fun v3 h1 => bd (ck h1 a0 5) fun _ => bd2 (fX5_stampsThatSay h1 a0 v3 1) fun v5 h2 => bd2 (fJ6_bitCount_0f7a4 h2 v5) fun v6 h3 => fX5_markForMostYes_23 FU h3 a0 x1 (-2) v6 0
set_option maxRecDepth 20000 in
theorem tX5_markForMostYes {r : Int32} {h' : MH} {h : MH} {a0 : Nat} {x1 : Int32} (hf : fX5_markForMostYes h a0 x1 = some (r, h')) : VM mX5_markForMostYes 3 (some (.int r)) h' h [.ref a0, .int x1] := by
  show V TT mX5_markForMostYes 3 _ h' h 0 [.ref a0, .int x1, Jk, Jk, Jk, Jk] []
  unfold fX5_markForMostYes at hf
  refine V.bipush (q := 2) (v := (-2)) (by decide) dX5_markForMostYes_0 rfl ?_
  refine V.istore_n (q := 3) (L' := [.ref a0, .int x1, .int (-2), Jk, Jk, Jk]) rfl dX5_markForMostYes_2 rfl (by decide) rfl rfl ?_
  refine V.aload_n (q := 4) rfl dX5_markForMostYes_3 rfl rfl ?_
  refine V.aload_n (q := 5) rfl dX5_markForMostYes_4 rfl rfl ?_
  obtain ⟨b1, eb1, hf⟩ := bd_ex hf
  refine V.getR (q := 8) flX5_12 rfl eb1 dX5_markForMostYes_5 rfl ?_
  refine V.iload_n (q := 9) rfl dX5_markForMostYes_8 rfl rfl ?_
  obtain ⟨_, e2, hf⟩ := bd_ex hf
  obtain ⟨v3, h1, eh1, hf⟩ := bd2_ex hf
  refine V.callV (q := 12) (ci := 4) (vs := [.int x1]) (st := [.ref a0]) (S2 := [.int v3, .ref a0]) okX4_marksOf imX4_marksOf seX4_marksOf rfl lkX5_72 (tX4_marksOf eh1) rfl (ck_is e2) (by decide) rfl (Nat.le_of_ble_eq_true rfl) (Nat.le_of_ble_eq_true rfl) rfl dX5_markForMostYes_9 rfl rfl ?_
  refine V.iconst (q := 13) (v := 1) (by decide) dX5_markForMostYes_12 rfl ?_
  obtain ⟨_, e4, hf⟩ := bd_ex hf
  obtain ⟨v5, h2, eh2, hf⟩ := bd2_ex hf
  refine V.callV (q := 16) (ci := 5) (vs := [.int v3, .int 1]) (st := []) (S2 := [.int v5]) okX5_stampsThatSay imX5_stampsThatSay seX5_stampsThatSay rfl lkX5_105 (tX5_stampsThatSay eh2) rfl (ck_is e4) (by decide) rfl (Nat.le_of_ble_eq_true rfl) (Nat.le_of_ble_eq_true rfl) rfl dX5_markForMostYes_13 rfl rfl ?_
  obtain ⟨v6, h3, eh3, hf⟩ := bd2_ex hf
  refine V.callS (q := 19) (vs := [.int v5]) (st := []) (S2 := [.int v6]) okJ6_bitCount_0f7a4 stJ6_bitCount_0f7a4 lkX5_108 (tJ6_bitCount_0f7a4 eh3) rfl (by decide) rfl (Nat.le_of_ble_eq_true rfl) (Nat.le_of_ble_eq_true rfl) rfl dX5_markForMostYes_16 rfl rfl ?_
  refine V.istore_n (q := 20) (L' := [.ref a0, .int x1, .int (-2), .int v6, Jk, Jk]) rfl dX5_markForMostYes_19 rfl (by decide) rfl rfl ?_
  refine V.iconst (q := 21) (v := 0) (by decide) dX5_markForMostYes_20 rfl ?_
  refine V.istore (q := 23) (L' := [.ref a0, .int x1, .int (-2), .int v6, .int 0, Jk]) dX5_markForMostYes_21 rfl (by decide) rfl rfl ?_
  exact tlX5_markForMostYes_23  FU _ _ _ _ _ _ hf
def fX11_bestMark (h : MH) (a0 : Nat) (x1 : Int32) : Option (Int32 × MH) := bd (gR h a0 11 2) fun b1 => bd (ck h b1 5) fun _ => bd2 (fX5_hasPaper h b1 x1) fun v3 h1 => if v3 = 0 then (bd (ck h1 a0 11) fun _ => bd2 (fX11_refuse h1 a0 1) fun v5 h2 => some (v5, h2)) else (bd (gR h1 a0 11 2) fun b4 => bd (ck h1 b4 5) fun _ => bd2 (fX5_markForMostYes h1 b4 x1) fun v6 h2 => bd (ck h2 a0 11) fun _ => bd2 (fX11_answer h2 a0 v6) fun v8 h3 => some (v8, h3))
set_option maxRecDepth 20000 in
theorem tX11_bestMark {r : Int32} {h' : MH} {h : MH} {a0 : Nat} {x1 : Int32} (hf : fX11_bestMark h a0 x1 = some (r, h')) : VM mX11_bestMark 4 (some (.int r)) h' h [.ref a0, .int x1] := by
  show V TT mX11_bestMark 4 _ h' h 0 [.ref a0, .int x1] []
  unfold fX11_bestMark at hf
  refine V.aload_n (q := 1) rfl dX11_bestMark_0 rfl rfl ?_
  obtain ⟨b1, eb1, hf⟩ := bd_ex hf
  refine V.getR (q := 4) flX11_28 rfl eb1 dX11_bestMark_1 rfl ?_
  refine V.iload_n (q := 5) rfl dX11_bestMark_4 rfl rfl ?_
  obtain ⟨_, e2, hf⟩ := bd_ex hf
  obtain ⟨v3, h1, eh1, hf⟩ := bd2_ex hf
  refine V.callV (q := 8) (ci := 5) (vs := [.int x1]) (st := []) (S2 := [.int v3]) okX5_hasPaper imX5_hasPaper seX5_hasPaper rfl lkX11_130 (tX5_hasPaper eh1) rfl (ck_is e2) (by decide) rfl (Nat.le_of_ble_eq_true rfl) (Nat.le_of_ble_eq_true rfl) rfl dX11_bestMark_5 rfl rfl ?_
  refine V.if_ne (q := 11) (tgt := 17) dX11_bestMark_8 rfl (by decide) (fun c => ?_) (fun c => ?_)
  · rw [if_neg c] at hf
    refine V.aload_n (q := 18) rfl dX11_bestMark_17 rfl rfl ?_
    refine V.aload_n (q := 19) rfl dX11_bestMark_18 rfl rfl ?_
    obtain ⟨b4, eb4, hf⟩ := bd_ex hf
    refine V.getR (q := 22) flX11_28 rfl eb4 dX11_bestMark_19 rfl ?_
    refine V.iload_n (q := 23) rfl dX11_bestMark_22 rfl rfl ?_
    obtain ⟨_, e5, hf⟩ := bd_ex hf
    obtain ⟨v6, h2, eh2, hf⟩ := bd2_ex hf
    refine V.callV (q := 26) (ci := 5) (vs := [.int x1]) (st := [.ref a0]) (S2 := [.int v6, .ref a0]) okX5_markForMostYes imX5_markForMostYes seX5_markForMostYes rfl lkX11_246 (tX5_markForMostYes eh2) rfl (ck_is e5) (by decide) rfl (Nat.le_of_ble_eq_true rfl) (Nat.le_of_ble_eq_true rfl) rfl dX11_bestMark_23 rfl rfl ?_
    obtain ⟨_, e7, hf⟩ := bd_ex hf
    obtain ⟨v8, h3, eh3, hf⟩ := bd2_ex hf
    refine V.callV (q := 29) (ci := 11) (vs := [.int v6]) (st := []) (S2 := [.int v8]) okX11_answer imX11_answer seX11_answer rfl lkX11_127 (tX11_answer eh3) rfl (ck_is e7) (by decide) rfl (Nat.le_of_ble_eq_true rfl) (Nat.le_of_ble_eq_true rfl) rfl dX11_bestMark_26 rfl rfl ?_
    obtain ⟨rfl, rfl⟩ := ret_inj hf
    exact V.ret (r := some (.int v8)) trivial dX11_bestMark_29
  · rw [if_pos c] at hf
    refine V.aload_n (q := 12) rfl dX11_bestMark_11 rfl rfl ?_
    refine V.iconst (q := 13) (v := 1) (by decide) dX11_bestMark_12 rfl ?_
    obtain ⟨_, e4, hf⟩ := bd_ex hf
    obtain ⟨v5, h2, eh2, hf⟩ := bd2_ex hf
    refine V.callV (q := 16) (ci := 11) (vs := [.int 1]) (st := []) (S2 := [.int v5]) okX11_refuse imX11_refuse seX11_refuse rfl lkX11_101 (tX11_refuse eh2) rfl (ck_is e4) (by decide) rfl (Nat.le_of_ble_eq_true rfl) (Nat.le_of_ble_eq_true rfl) rfl dX11_bestMark_13 rfl rfl ?_
    obtain ⟨rfl, rfl⟩ := ret_inj hf
    exact V.ret (r := some (.int v5)) trivial dX11_bestMark_16
def fX11_troubleOfDraws (h : MH) (a0 : Nat) (x1 : Int32) (x2 : Int32) (x3 : Int32) : Option (Int32 × MH) := bd (gI h a0 11 9) fun v1 => if v1 = 0 then (some (1, h)) else (if x1 = 0 then (some (2, h)) else (if x2 < 0 then (some (2, h)) else (if 65536 < x2 then (some (2, h)) else (if x3 < 0 then (some (2, h)) else (if x3 ≤ 90 then (bd (gR h a0 11 2) fun b2 => bd (gR h b2 5 1) fun b3 => bd (gI h b3 7 15) fun v4 => if v4 = 0 then (some (6, h)) else (bd (gR h a0 11 2) fun b5 => bd (gR h b5 5 1) fun b6 => bd (gI h b6 7 17) fun v7 => if v7 = 0 then (some (6, h)) else (some (0, h)))) else (some (2, h)))))))
set_option maxRecDepth 20000 in
theorem tX11_troubleOfDraws {r : Int32} {h' : MH} {h : MH} {a0 : Nat} {x1 : Int32} {x2 : Int32} {x3 : Int32} (hf : fX11_troubleOfDraws h a0 x1 x2 x3 = some (r, h')) : VM mX11_troubleOfDraws 0 (some (.int r)) h' h [.ref a0, .int x1, .int x2, .int x3] := by
  show V TT mX11_troubleOfDraws 0 _ h' h 0 [.ref a0, .int x1, .int x2, .int x3] []
  unfold fX11_troubleOfDraws at hf
  refine V.aload_n (q := 1) rfl dX11_troubleOfDraws_0 rfl rfl ?_
  obtain ⟨v1, ev1, hf⟩ := bd_ex hf
  refine V.getI (q := 4) flX11_76 rfl ev1 dX11_troubleOfDraws_1 rfl ?_
  refine V.if_ne (q := 7) (tgt := 9) dX11_troubleOfDraws_4 rfl (by decide) (fun c => ?_) (fun c => ?_)
  · rw [if_neg c] at hf
    refine V.iload_n (q := 10) rfl dX11_troubleOfDraws_9 rfl rfl ?_
    refine V.if_eq (q := 13) (tgt := 34) dX11_troubleOfDraws_10 rfl (by decide) (fun c => ?_) (fun c => ?_)
    · rw [if_pos c] at hf
      refine V.iconst (q := 35) (v := 2) (by decide) dX11_troubleOfDraws_34 rfl ?_
      obtain ⟨rfl, rfl⟩ := ret_inj hf
      exact V.ret (r := some (.int 2)) trivial dX11_troubleOfDraws_35
    · rw [if_neg c] at hf
      refine V.iload_n (q := 14) rfl dX11_troubleOfDraws_13 rfl rfl ?_
      refine V.if_lt (q := 17) (tgt := 34) dX11_troubleOfDraws_14 rfl (by decide) (fun c => ?_) (fun c => ?_)
      · rw [if_pos c] at hf
        refine V.iconst (q := 35) (v := 2) (by decide) dX11_troubleOfDraws_34 rfl ?_
        obtain ⟨rfl, rfl⟩ := ret_inj hf
        exact V.ret (r := some (.int 2)) trivial dX11_troubleOfDraws_35
      · rw [if_neg c] at hf
        refine V.iload_n (q := 18) rfl dX11_troubleOfDraws_17 rfl rfl ?_
        refine V.ldcw (q := 21) kcX11_424 dX11_troubleOfDraws_18 rfl ?_
        refine V.icmp_gt (q := 24) (tgt := 34) dX11_troubleOfDraws_21 rfl (by decide) (fun c => ?_) (fun c => ?_)
        · rw [if_pos c] at hf
          refine V.iconst (q := 35) (v := 2) (by decide) dX11_troubleOfDraws_34 rfl ?_
          obtain ⟨rfl, rfl⟩ := ret_inj hf
          exact V.ret (r := some (.int 2)) trivial dX11_troubleOfDraws_35
        · rw [if_neg c] at hf
          refine V.iload_n (q := 25) rfl dX11_troubleOfDraws_24 rfl rfl ?_
          refine V.if_lt (q := 28) (tgt := 34) dX11_troubleOfDraws_25 rfl (by decide) (fun c => ?_) (fun c => ?_)
          · rw [if_pos c] at hf
            refine V.iconst (q := 35) (v := 2) (by decide) dX11_troubleOfDraws_34 rfl ?_
            obtain ⟨rfl, rfl⟩ := ret_inj hf
            exact V.ret (r := some (.int 2)) trivial dX11_troubleOfDraws_35
          · rw [if_neg c] at hf
            refine V.iload_n (q := 29) rfl dX11_troubleOfDraws_28 rfl rfl ?_
            refine V.bipush (q := 31) (v := 90) (by decide) dX11_troubleOfDraws_29 rfl ?_
            refine V.icmp_le (q := 34) (tgt := 36) dX11_troubleOfDraws_31 rfl (by decide) (fun c => ?_) (fun c => ?_)
            · rw [if_pos c] at hf
              refine V.aload_n (q := 37) rfl dX11_troubleOfDraws_36 rfl rfl ?_
              obtain ⟨b2, eb2, hf⟩ := bd_ex hf
              refine V.getR (q := 40) flX11_28 rfl eb2 dX11_troubleOfDraws_37 rfl ?_
              obtain ⟨b3, eb3, hf⟩ := bd_ex hf
              refine V.getR (q := 43) flX11_118 rfl eb3 dX11_troubleOfDraws_40 rfl ?_
              obtain ⟨v4, ev4, hf⟩ := bd_ex hf
              refine V.getI (q := 46) flX11_402 rfl ev4 dX11_troubleOfDraws_43 rfl ?_
              refine V.if_eq (q := 49) (tgt := 62) dX11_troubleOfDraws_46 rfl (by decide) (fun c => ?_) (fun c => ?_)
              · rw [if_pos c] at hf
                refine V.bipush (q := 64) (v := 6) (by decide) dX11_troubleOfDraws_62 rfl ?_
                refine V.goto (q := 68) dX11_troubleOfDraws_64 (by decide) ?_
                obtain ⟨rfl, rfl⟩ := ret_inj hf
                exact V.ret (r := some (.int 6)) trivial dX11_troubleOfDraws_68
              · rw [if_neg c] at hf
                refine V.aload_n (q := 50) rfl dX11_troubleOfDraws_49 rfl rfl ?_
                obtain ⟨b5, eb5, hf⟩ := bd_ex hf
                refine V.getR (q := 53) flX11_28 rfl eb5 dX11_troubleOfDraws_50 rfl ?_
                obtain ⟨b6, eb6, hf⟩ := bd_ex hf
                refine V.getR (q := 56) flX11_118 rfl eb6 dX11_troubleOfDraws_53 rfl ?_
                obtain ⟨v7, ev7, hf⟩ := bd_ex hf
                refine V.getI (q := 59) flX11_408 rfl ev7 dX11_troubleOfDraws_56 rfl ?_
                refine V.if_ne (q := 62) (tgt := 67) dX11_troubleOfDraws_59 rfl (by decide) (fun c => ?_) (fun c => ?_)
                · rw [if_neg c] at hf
                  refine V.iconst (q := 68) (v := 0) (by decide) dX11_troubleOfDraws_67 rfl ?_
                  obtain ⟨rfl, rfl⟩ := ret_inj hf
                  exact V.ret (r := some (.int 0)) trivial dX11_troubleOfDraws_68
                · rw [if_pos c] at hf
                  refine V.bipush (q := 64) (v := 6) (by decide) dX11_troubleOfDraws_62 rfl ?_
                  refine V.goto (q := 68) dX11_troubleOfDraws_64 (by decide) ?_
                  obtain ⟨rfl, rfl⟩ := ret_inj hf
                  exact V.ret (r := some (.int 6)) trivial dX11_troubleOfDraws_68
            · rw [if_neg c] at hf
              refine V.iconst (q := 35) (v := 2) (by decide) dX11_troubleOfDraws_34 rfl ?_
              obtain ⟨rfl, rfl⟩ := ret_inj hf
              exact V.ret (r := some (.int 2)) trivial dX11_troubleOfDraws_35
  · rw [if_pos c] at hf
    refine V.iconst (q := 8) (v := 1) (by decide) dX11_troubleOfDraws_7 rfl ?_
    obtain ⟨rfl, rfl⟩ := ret_inj hf
    exact V.ret (r := some (.int 1)) trivial dX11_troubleOfDraws_8
def fX1_draw (h : MH) (a0 : Nat) (x1 : Int32) : Option (Int32 × MH) := bd (gI h a0 1 4) fun v1 => bd (nz 65537) fun _ => bd (pI h a0 1 4 (((75 * v1) + 74) - ((75 * v1) + 74) / 65537 * 65537)) fun h1 => if x1 ≤ 0 then (some (0, h1)) else (bd (gI h1 a0 1 4) fun v3 => bd (nz x1) fun _ => some ((v3 - v3 / x1 * x1), h1))
set_option maxRecDepth 20000 in
theorem tX1_draw {r : Int32} {h' : MH} {h : MH} {a0 : Nat} {x1 : Int32} (hf : fX1_draw h a0 x1 = some (r, h')) : VM mX1_draw 0 (some (.int r)) h' h [.ref a0, .int x1] := by
  show V TT mX1_draw 0 _ h' h 0 [.ref a0, .int x1] []
  unfold fX1_draw at hf
  refine V.aload_n (q := 1) rfl dX1_draw_0 rfl rfl ?_
  refine V.bipush (q := 3) (v := 75) (by decide) dX1_draw_1 rfl ?_
  refine V.aload_n (q := 4) rfl dX1_draw_3 rfl rfl ?_
  obtain ⟨v1, ev1, hf⟩ := bd_ex hf
  refine V.getI (q := 7) flX1_22 rfl ev1 dX1_draw_4 rfl ?_
  refine V.imul (q := 8) dX1_draw_7 rfl ?_
  refine V.bipush (q := 10) (v := 74) (by decide) dX1_draw_8 rfl ?_
  refine V.iadd (q := 11) dX1_draw_10 rfl ?_
  refine V.ldc (q := 13) kcX1_66 dX1_draw_11 rfl ?_
  obtain ⟨_, e2, hf⟩ := bd_ex hf
  refine V.irem (q := 14) (nz_is e2) dX1_draw_13 rfl ?_
  obtain ⟨h1, eh1, hf⟩ := bd_ex hf
  refine V.putI (q := 17) (fpX1_22 rfl) rfl eh1 dX1_draw_14 rfl ?_
  refine V.iload_n (q := 18) rfl dX1_draw_17 rfl rfl ?_
  refine V.if_le (q := 21) (tgt := 30) dX1_draw_18 rfl (by decide) (fun c => ?_) (fun c => ?_)
  · rw [if_pos c] at hf
    refine V.iconst (q := 31) (v := 0) (by decide) dX1_draw_30 rfl ?_
    obtain ⟨rfl, rfl⟩ := ret_inj hf
    exact V.ret (r := some (.int 0)) trivial dX1_draw_31
  · rw [if_neg c] at hf
    refine V.aload_n (q := 22) rfl dX1_draw_21 rfl rfl ?_
    obtain ⟨v3, ev3, hf⟩ := bd_ex hf
    refine V.getI (q := 25) flX1_22 rfl ev3 dX1_draw_22 rfl ?_
    refine V.iload_n (q := 26) rfl dX1_draw_25 rfl rfl ?_
    obtain ⟨_, e4, hf⟩ := bd_ex hf
    refine V.irem (q := 27) (nz_is e4) dX1_draw_26 rfl ?_
    refine V.goto (q := 31) dX1_draw_27 (by decide) ?_
    obtain ⟨rfl, rfl⟩ := ret_inj hf
    exact V.ret (r := some (.int (v3 - v3 / x1 * x1))) trivial dX1_draw_31
def fX5_printBy (h : MH) (a0 : Nat) (x1 : Int32) (x2 : Int32) : Option (Int32 × MH) := bd (gR h a0 5 1) fun b1 => bd (gR h b1 7 7) fun b2 => bd (lI h b2 x1) fun v3 => if v3 = 1 then (if x2 = 2 then (some (1, h)) else (some (x2, h))) else (if v3 = 2 then (if x2 = 2 then (some (0, h)) else (some (x2, h))) else (if v3 = 3 then (if x2 = 2 then (some (2, h)) else (if x2 = 1 then (some (0, h)) else (some (1, h)))) else (some (x2, h))))
set_option maxRecDepth 20000 in
theorem tX5_printBy {r : Int32} {h' : MH} {h : MH} {a0 : Nat} {x1 : Int32} {x2 : Int32} (hf : fX5_printBy h a0 x1 x2 = some (r, h')) : VM mX5_printBy 0 (some (.int r)) h' h [.ref a0, .int x1, .int x2] := by
  show V TT mX5_printBy 0 _ h' h 0 [.ref a0, .int x1, .int x2] []
  unfold fX5_printBy at hf
  refine V.aload_n (q := 1) rfl dX5_printBy_0 rfl rfl ?_
  obtain ⟨b1, eb1, hf⟩ := bd_ex hf
  refine V.getR (q := 4) flX5_21 rfl eb1 dX5_printBy_1 rfl ?_
  obtain ⟨b2, eb2, hf⟩ := bd_ex hf
  refine V.getR (q := 7) flX5_78 rfl eb2 dX5_printBy_4 rfl ?_
  refine V.iload_n (q := 8) rfl dX5_printBy_7 rfl rfl ?_
  obtain ⟨v3, ev3, hf⟩ := bd_ex hf
  refine V.iald (q := 9) ev3 dX5_printBy_8 rfl ?_
  by_cases c1 : v3 = 1
  · rw [if_pos c1] at hf
    refine V.topI c1 ?_
    refine V.tableIn (q := 36) (off := 27) dX5_printBy_9 (by decide) (by decide) (by decide) (by decide) ?_
    refine V.iload_n (q := 37) rfl dX5_printBy_36 rfl rfl ?_
    refine V.iconst (q := 38) (v := 2) (by decide) dX5_printBy_37 rfl ?_
    refine V.icmp_ne (q := 41) (tgt := 45) dX5_printBy_38 rfl (by decide) (fun c => ?_) (fun c => ?_)
    · rw [if_neg c] at hf
      refine V.iload_n (q := 46) rfl dX5_printBy_45 rfl rfl ?_
      obtain ⟨rfl, rfl⟩ := ret_inj hf
      exact V.ret (r := some (.int x2)) trivial dX5_printBy_46
    · rw [if_pos c] at hf
      refine V.iconst (q := 42) (v := 1) (by decide) dX5_printBy_41 rfl ?_
      refine V.goto (q := 46) dX5_printBy_42 (by decide) ?_
      obtain ⟨rfl, rfl⟩ := ret_inj hf
      exact V.ret (r := some (.int 1)) trivial dX5_printBy_46
  rw [if_neg c1] at hf
  by_cases c2 : v3 = 2
  · rw [if_pos c2] at hf
    refine V.topI c2 ?_
    refine V.tableIn (q := 47) (off := 38) dX5_printBy_9 (by decide) (by decide) (by decide) (by decide) ?_
    refine V.iload_n (q := 48) rfl dX5_printBy_47 rfl rfl ?_
    refine V.iconst (q := 49) (v := 2) (by decide) dX5_printBy_48 rfl ?_
    refine V.icmp_ne (q := 52) (tgt := 56) dX5_printBy_49 rfl (by decide) (fun c => ?_) (fun c => ?_)
    · rw [if_neg c] at hf
      refine V.iload_n (q := 57) rfl dX5_printBy_56 rfl rfl ?_
      obtain ⟨rfl, rfl⟩ := ret_inj hf
      exact V.ret (r := some (.int x2)) trivial dX5_printBy_57
    · rw [if_pos c] at hf
      refine V.iconst (q := 53) (v := 0) (by decide) dX5_printBy_52 rfl ?_
      refine V.goto (q := 57) dX5_printBy_53 (by decide) ?_
      obtain ⟨rfl, rfl⟩ := ret_inj hf
      exact V.ret (r := some (.int 0)) trivial dX5_printBy_57
  rw [if_neg c2] at hf
  by_cases c3 : v3 = 3
  · rw [if_pos c3] at hf
    refine V.topI c3 ?_
    refine V.tableIn (q := 58) (off := 49) dX5_printBy_9 (by decide) (by decide) (by decide) (by decide) ?_
    refine V.iload_n (q := 59) rfl dX5_printBy_58 rfl rfl ?_
    refine V.iconst (q := 60) (v := 2) (by decide) dX5_printBy_59 rfl ?_
    refine V.icmp_ne (q := 63) (tgt := 67) dX5_printBy_60 rfl (by decide) (fun c => ?_) (fun c => ?_)
    · rw [if_neg c] at hf
      refine V.iload_n (q := 68) rfl dX5_printBy_67 rfl rfl ?_
      refine V.iconst (q := 69) (v := 1) (by decide) dX5_printBy_68 rfl ?_
      refine V.icmp_ne (q := 72) (tgt := 76) dX5_printBy_69 rfl (by decide) (fun c => ?_) (fun c => ?_)
      · rw [if_neg c] at hf
        refine V.iconst (q := 77) (v := 1) (by decide) dX5_printBy_76 rfl ?_
        obtain ⟨rfl, rfl⟩ := ret_inj hf
        exact V.ret (r := some (.int 1)) trivial dX5_printBy_77
      · rw [if_pos c] at hf
        refine V.iconst (q := 73) (v := 0) (by decide) dX5_printBy_72 rfl ?_
        refine V.goto (q := 77) dX5_printBy_73 (by decide) ?_
        obtain ⟨rfl, rfl⟩ := ret_inj hf
        exact V.ret (r := some (.int 0)) trivial dX5_printBy_77
    · rw [if_pos c] at hf
      refine V.iconst (q := 64) (v := 2) (by decide) dX5_printBy_63 rfl ?_
      refine V.goto (q := 77) dX5_printBy_64 (by decide) ?_
      obtain ⟨rfl, rfl⟩ := ret_inj hf
      exact V.ret (r := some (.int 2)) trivial dX5_printBy_77
  rw [if_neg c3] at hf
  have hout : v3.toInt < 1 ∨ 3 < v3.toInt := tsw_out (lo := 1) (n := 3) (fun k h1 h2 => by
  have : k = 1 ∨ k = 2 ∨ k = 3 := by omega
  rcases this with rfl | rfl | rfl
  · exact c1
  · exact c2
  · exact c3) (by decide)
  refine V.tableOut (q := 78) dX5_printBy_9 hout (by decide) ?_
  refine V.iload_n (q := 79) rfl dX5_printBy_78 rfl rfl ?_
  obtain ⟨rfl, rfl⟩ := ret_inj hf
  exact V.ret (r := some (.int x2)) trivial dX5_printBy_79
def fX5_sayOn (h : MH) (a0 : Nat) (x1 : Int32) (x2 : Int32) : Option (Int32 × MH) := bd (gR h a0 5 0) fun b1 => bd (ck h b1 4) fun _ => bd2 (fX4_marksOf h b1 x2) fun v3 h1 => bd (ck h1 a0 5) fun _ => bd2 (fX5_sayOf h1 a0 x1 v3) fun v5 h2 => some (v5, h2)
set_option maxRecDepth 20000 in
theorem tX5_sayOn {r : Int32} {h' : MH} {h : MH} {a0 : Nat} {x1 : Int32} {x2 : Int32} (hf : fX5_sayOn h a0 x1 x2 = some (r, h')) : VM mX5_sayOn 2 (some (.int r)) h' h [.ref a0, .int x1, .int x2] := by
  show V TT mX5_sayOn 2 _ h' h 0 [.ref a0, .int x1, .int x2] []
  unfold fX5_sayOn at hf
  refine V.aload_n (q := 1) rfl dX5_sayOn_0 rfl rfl ?_
  refine V.iload_n (q := 2) rfl dX5_sayOn_1 rfl rfl ?_
  refine V.aload_n (q := 3) rfl dX5_sayOn_2 rfl rfl ?_
  obtain ⟨b1, eb1, hf⟩ := bd_ex hf
  refine V.getR (q := 6) flX5_12 rfl eb1 dX5_sayOn_3 rfl ?_
  refine V.iload_n (q := 7) rfl dX5_sayOn_6 rfl rfl ?_
  obtain ⟨_, e2, hf⟩ := bd_ex hf
  obtain ⟨v3, h1, eh1, hf⟩ := bd2_ex hf
  refine V.callV (q := 10) (ci := 4) (vs := [.int x2]) (st := [.int x1, .ref a0]) (S2 := [.int v3, .int x1, .ref a0]) okX4_marksOf imX4_marksOf seX4_marksOf rfl lkX5_72 (tX4_marksOf eh1) rfl (ck_is e2) (by decide) rfl (Nat.le_of_ble_eq_true rfl) (Nat.le_of_ble_eq_true rfl) rfl dX5_sayOn_7 rfl rfl ?_
  obtain ⟨_, e4, hf⟩ := bd_ex hf
  obtain ⟨v5, h2, eh2, hf⟩ := bd2_ex hf
  refine V.callV (q := 13) (ci := 5) (vs := [.int x1, .int v3]) (st := []) (S2 := [.int v5]) okX5_sayOf imX5_sayOf seX5_sayOf rfl lkX5_75 (tX5_sayOf eh2) rfl (ck_is e4) (by decide) rfl (Nat.le_of_ble_eq_true rfl) (Nat.le_of_ble_eq_true rfl) rfl dX5_sayOn_10 rfl rfl ?_
  obtain ⟨rfl, rfl⟩ := ret_inj hf
  exact V.ret (r := some (.int v5)) trivial dX5_sayOn_13
def bX1_pressByDraws_99  (h : MH) (a0 : Nat) (x3 : Int32) (xs0 : Int32) : Option (MH) := bd (gR h a0 1 1) fun b1 => bd (lI h b1 xs0) fun v2 => bd (tI h b1 xs0 (v2 + 1)) fun h1 => bd (gR h1 a0 1 2) fun b3 => bd (tI h1 b3 x3 xs0) fun h2 => if xs0 = 2 then (bd (ck h2 a0 1) fun _ => bd2 (fX1_draw h2 a0 100) fun v5 h3 => bd (gR h3 a0 1 0) fun b6 => bd (gR h3 b6 5 1) fun b7 => bd (gI h3 b7 7 12) fun v8 => if v8 ≤ v5 then (some h3) else (bd (gI h3 a0 1 3) fun v9 => bd (pI h3 a0 1 3 (v9 + 1)) fun h4 => some h4)) else (some h2)
set_option maxRecDepth 20000 in
theorem tX1_pressByDraws_99 {h' : MH}   {h : MH} {a0 : Nat} {x3 : Int32} {xs0 : Int32} (hf : bX1_pressByDraws_99  h a0 x3 xs0 = some h') : V TT mX1_pressByDraws 3 none h' h 99 [.ref a0, Jk, Jk, .int x3, Jk, Jk] [.int xs0] := by
  unfold bX1_pressByDraws_99 at hf
  refine V.istore (q := 101) (L' := [.ref a0, Jk, Jk, .int x3, Jk, .int xs0]) dX1_pressByDraws_99 rfl (by decide) rfl rfl ?_
  refine V.aload_n (q := 102) rfl dX1_pressByDraws_101 rfl rfl ?_
  obtain ⟨b1, eb1, hf⟩ := bd_ex hf
  refine V.getR (q := 105) flX1_9 rfl eb1 dX1_pressByDraws_102 rfl ?_
  refine V.iload (q := 107) dX1_pressByDraws_105 rfl rfl ?_
  refine V.dup2 (q := 108) dX1_pressByDraws_107 rfl ?_
  obtain ⟨v2, ev2, hf⟩ := bd_ex hf
  refine V.iald (q := 109) ev2 dX1_pressByDraws_108 rfl ?_
  refine V.iconst (q := 110) (v := 1) (by decide) dX1_pressByDraws_109 rfl ?_
  refine V.iadd (q := 111) dX1_pressByDraws_110 rfl ?_
  obtain ⟨h1, eh1, hf⟩ := bd_ex hf
  refine V.iast (q := 112) eh1 dX1_pressByDraws_111 rfl ?_
  refine V.aload_n (q := 113) rfl dX1_pressByDraws_112 rfl rfl ?_
  obtain ⟨b3, eb3, hf⟩ := bd_ex hf
  refine V.getR (q := 116) flX1_15 rfl eb3 dX1_pressByDraws_113 rfl ?_
  refine V.iload_n (q := 117) rfl dX1_pressByDraws_116 rfl rfl ?_
  refine V.iload (q := 119) dX1_pressByDraws_117 rfl rfl ?_
  obtain ⟨h2, eh2, hf⟩ := bd_ex hf
  refine V.iast (q := 120) eh2 dX1_pressByDraws_119 rfl ?_
  refine V.iload (q := 122) dX1_pressByDraws_120 rfl rfl ?_
  refine V.iconst (q := 123) (v := 2) (by decide) dX1_pressByDraws_122 rfl ?_
  refine V.icmp_ne (q := 126) (tgt := 155) dX1_pressByDraws_123 rfl (by decide) (fun c => ?_) (fun c => ?_)
  · rw [if_neg c] at hf
    cases hf
    exact V.ret (r := none) trivial dX1_pressByDraws_155
  · rw [if_pos c] at hf
    refine V.aload_n (q := 127) rfl dX1_pressByDraws_126 rfl rfl ?_
    refine V.bipush (q := 129) (v := 100) (by decide) dX1_pressByDraws_127 rfl ?_
    obtain ⟨_, e4, hf⟩ := bd_ex hf
    obtain ⟨v5, h3, eh3, hf⟩ := bd2_ex hf
    refine V.callV (q := 132) (ci := 1) (vs := [.int 100]) (st := []) (S2 := [.int v5]) okX1_draw imX1_draw seX1_draw rfl lkX1_43 (tX1_draw eh3) rfl (ck_is e4) (by decide) rfl (Nat.le_of_ble_eq_true rfl) (Nat.le_of_ble_eq_true rfl) rfl dX1_pressByDraws_129 rfl rfl ?_
    refine V.aload_n (q := 133) rfl dX1_pressByDraws_132 rfl rfl ?_
    obtain ⟨b6, eb6, hf⟩ := bd_ex hf
    refine V.getR (q := 136) flX1_18 rfl eb6 dX1_pressByDraws_133 rfl ?_
    obtain ⟨b7, eb7, hf⟩ := bd_ex hf
    refine V.getR (q := 139) flX1_32 rfl eb7 dX1_pressByDraws_136 rfl ?_
    obtain ⟨v8, ev8, hf⟩ := bd_ex hf
    refine V.getI (q := 142) flX1_63 rfl ev8 dX1_pressByDraws_139 rfl ?_
    refine V.icmp_ge (q := 145) (tgt := 155) dX1_pressByDraws_142 rfl (by decide) (fun c => ?_) (fun c => ?_)
    · rw [if_pos c] at hf
      cases hf
      exact V.ret (r := none) trivial dX1_pressByDraws_155
    · rw [if_neg c] at hf
      refine V.aload_n (q := 146) rfl dX1_pressByDraws_145 rfl rfl ?_
      refine V.dupR (q := 147) dX1_pressByDraws_146 rfl ?_
      obtain ⟨v9, ev9, hf⟩ := bd_ex hf
      refine V.getI (q := 150) flX1_26 rfl ev9 dX1_pressByDraws_147 rfl ?_
      refine V.iconst (q := 151) (v := 1) (by decide) dX1_pressByDraws_150 rfl ?_
      refine V.iadd (q := 152) dX1_pressByDraws_151 rfl ?_
      obtain ⟨h4, eh4, hf⟩ := bd_ex hf
      refine V.putI (q := 155) (fpX1_26 rfl) rfl eh4 dX1_pressByDraws_152 rfl ?_
      cases hf
      exact V.ret (r := none) trivial dX1_pressByDraws_155
def bX1_pressByDraws_71  (h : MH) (a0 : Nat) (x1 : Int32) (x2 : Int32) (x3 : Int32) (xs0 : Int32) : Option (MH) := if xs0 = 0 then (bd (gR h a0 1 0) fun b1 => bd (gR h a0 1 0) fun b2 => bd (ck h b2 5) fun _ => bd2 (fX5_sayOn h b2 x1 x3) fun v4 h1 => bd (ck h1 b1 5) fun _ => bd2 (fX5_printBy h1 b1 x2 v4) fun v6 h2 => bX1_pressByDraws_99 h2 a0 x3 v6) else (bX1_pressByDraws_99 h a0 x3 2)
set_option maxRecDepth 20000 in
theorem tX1_pressByDraws_71 {h' : MH}   {h : MH} {a0 : Nat} {x1 : Int32} {x2 : Int32} {x3 : Int32} {xs0 : Int32} (hf : bX1_pressByDraws_71  h a0 x1 x2 x3 xs0 = some h') : V TT mX1_pressByDraws 3 none h' h 71 [.ref a0, .int x1, .int x2, .int x3, Jk, Jk] [.int xs0] := by
  unfold bX1_pressByDraws_71 at hf
  refine V.istore (q := 73) (L' := [.ref a0, .int x1, .int x2, .int x3, .int xs0, Jk]) dX1_pressByDraws_71 rfl (by decide) rfl rfl ?_
  refine V.iload (q := 75) dX1_pressByDraws_73 rfl rfl ?_
  refine V.if_eq (q := 78) (tgt := 82) dX1_pressByDraws_75 rfl (by decide) (fun c => ?_) (fun c => ?_)
  · rw [if_pos c] at hf
    refine V.aload_n (q := 83) rfl dX1_pressByDraws_82 rfl rfl ?_
    obtain ⟨b1, eb1, hf⟩ := bd_ex hf
    refine V.getR (q := 86) flX1_18 rfl eb1 dX1_pressByDraws_83 rfl ?_
    refine V.iload_n (q := 87) rfl dX1_pressByDraws_86 rfl rfl ?_
    refine V.aload_n (q := 88) rfl dX1_pressByDraws_87 rfl rfl ?_
    obtain ⟨b2, eb2, hf⟩ := bd_ex hf
    refine V.getR (q := 91) flX1_18 rfl eb2 dX1_pressByDraws_88 rfl ?_
    refine V.iload_n (q := 92) rfl dX1_pressByDraws_91 rfl rfl ?_
    refine V.iload_n (q := 93) rfl dX1_pressByDraws_92 rfl rfl ?_
    obtain ⟨_, e3, hf⟩ := bd_ex hf
    obtain ⟨v4, h1, eh1, hf⟩ := bd2_ex hf
    refine V.callV (q := 96) (ci := 5) (vs := [.int x1, .int x3]) (st := [.int x2, .ref b1]) (S2 := [.int v4, .int x2, .ref b1]) okX5_sayOn imX5_sayOn seX5_sayOn rfl lkX1_56 (tX5_sayOn eh1) rfl (ck_is e3) (by decide) rfl (Nat.le_of_ble_eq_true rfl) (Nat.le_of_ble_eq_true rfl) rfl dX1_pressByDraws_93 rfl rfl ?_
    obtain ⟨_, e5, hf⟩ := bd_ex hf
    obtain ⟨v6, h2, eh2, hf⟩ := bd2_ex hf
    refine V.callV (q := 99) (ci := 5) (vs := [.int x2, .int v4]) (st := []) (S2 := [.int v6]) okX5_printBy imX5_printBy seX5_printBy rfl lkX1_60 (tX5_printBy eh2) rfl (ck_is e5) (by decide) rfl (Nat.le_of_ble_eq_true rfl) (Nat.le_of_ble_eq_true rfl) rfl dX1_pressByDraws_96 rfl rfl ?_
    refine V.forget (L' := [.ref a0, Jk, Jk, .int x3, Jk, Jk]) ⟨Or.inr rfl, Or.inl rfl, Or.inl rfl, Or.inr rfl, Or.inl rfl, Or.inl rfl, trivial⟩ ?_
    exact tX1_pressByDraws_99  hf
  · rw [if_neg c] at hf
    refine V.iconst (q := 79) (v := 2) (by decide) dX1_pressByDraws_78 rfl ?_
    refine V.goto (q := 99) dX1_pressByDraws_79 (by decide) ?_
    refine V.forget (L' := [.ref a0, Jk, Jk, .int x3, Jk, Jk]) ⟨Or.inr rfl, Or.inl rfl, Or.inl rfl, Or.inr rfl, Or.inl rfl, Or.inl rfl, trivial⟩ ?_
    exact tX1_pressByDraws_99  hf
def fX1_pressByDraws (h : MH) (a0 : Nat) : Option (MH) := bd (gR h a0 1 0) fun b1 => bd (gR h b1 5 1) fun b2 => bd (gI h b2 7 15) fun v3 => bd (ck h a0 1) fun _ => bd2 (fX1_draw h a0 v3) fun v5 h1 => bd (gR h1 a0 1 0) fun b6 => bd (gR h1 b6 5 1) fun b7 => bd (gI h1 b7 7 17) fun v8 => bd (ck h1 a0 1) fun _ => bd2 (fX1_draw h1 a0 v8) fun v10 h2 => bd (gR h2 a0 1 0) fun b11 => bd (gR h2 b11 5 1) fun b12 => bd (gI h2 b12 7 14) fun v13 => bd (ck h2 a0 1) fun _ => bd2 (fX1_draw h2 a0 v13) fun v15 h3 => bd (ck h3 a0 1) fun _ => bd2 (fX1_draw h3 a0 100) fun v17 h4 => bd (gR h4 a0 1 0) fun b18 => bd (gR h4 b18 5 1) fun b19 => bd (gR h4 b19 7 8) fun b20 => bd (lI h4 b20 v10) fun v21 => if v21 ≤ v17 then (bX1_pressByDraws_71 h4 a0 v5 v10 v15 0) else (bX1_pressByDraws_71 h4 a0 v5 v10 v15 1)
set_option maxRecDepth 20000 in
theorem tX1_pressByDraws {h' : MH} {h : MH} {a0 : Nat} (hf : fX1_pressByDraws h a0 = some h') : VM mX1_pressByDraws 3 none h' h [.ref a0] := by
  show V TT mX1_pressByDraws 3 _ h' h 0 [.ref a0, Jk, Jk, Jk, Jk, Jk] []
  unfold fX1_pressByDraws at hf
  refine V.aload_n (q := 1) rfl dX1_pressByDraws_0 rfl rfl ?_
  refine V.aload_n (q := 2) rfl dX1_pressByDraws_1 rfl rfl ?_
  obtain ⟨b1, eb1, hf⟩ := bd_ex hf
  refine V.getR (q := 5) flX1_18 rfl eb1 dX1_pressByDraws_2 rfl ?_
  obtain ⟨b2, eb2, hf⟩ := bd_ex hf
  refine V.getR (q := 8) flX1_32 rfl eb2 dX1_pressByDraws_5 rfl ?_
  obtain ⟨v3, ev3, hf⟩ := bd_ex hf
  refine V.getI (q := 11) flX1_38 rfl ev3 dX1_pressByDraws_8 rfl ?_
  obtain ⟨_, e4, hf⟩ := bd_ex hf
  obtain ⟨v5, h1, eh1, hf⟩ := bd2_ex hf
  refine V.callV (q := 14) (ci := 1) (vs := [.int v3]) (st := []) (S2 := [.int v5]) okX1_draw imX1_draw seX1_draw rfl lkX1_43 (tX1_draw eh1) rfl (ck_is e4) (by decide) rfl (Nat.le_of_ble_eq_true rfl) (Nat.le_of_ble_eq_true rfl) rfl dX1_pressByDraws_11 rfl rfl ?_
  refine V.istore_n (q := 15) (L' := [.ref a0, .int v5, Jk, Jk, Jk, Jk]) rfl dX1_pressByDraws_14 rfl (by decide) rfl rfl ?_
  refine V.aload_n (q := 16) rfl dX1_pressByDraws_15 rfl rfl ?_
  refine V.aload_n (q := 17) rfl dX1_pressByDraws_16 rfl rfl ?_
  obtain ⟨b6, eb6, hf⟩ := bd_ex hf
  refine V.getR (q := 20) flX1_18 rfl eb6 dX1_pressByDraws_17 rfl ?_
  obtain ⟨b7, eb7, hf⟩ := bd_ex hf
  refine V.getR (q := 23) flX1_32 rfl eb7 dX1_pressByDraws_20 rfl ?_
  obtain ⟨v8, ev8, hf⟩ := bd_ex hf
  refine V.getI (q := 26) flX1_47 rfl ev8 dX1_pressByDraws_23 rfl ?_
  obtain ⟨_, e9, hf⟩ := bd_ex hf
  obtain ⟨v10, h2, eh2, hf⟩ := bd2_ex hf
  refine V.callV (q := 29) (ci := 1) (vs := [.int v8]) (st := []) (S2 := [.int v10]) okX1_draw imX1_draw seX1_draw rfl lkX1_43 (tX1_draw eh2) rfl (ck_is e9) (by decide) rfl (Nat.le_of_ble_eq_true rfl) (Nat.le_of_ble_eq_true rfl) rfl dX1_pressByDraws_26 rfl rfl ?_
  refine V.istore_n (q := 30) (L' := [.ref a0, .int v5, .int v10, Jk, Jk, Jk]) rfl dX1_pressByDraws_29 rfl (by decide) rfl rfl ?_
  refine V.aload_n (q := 31) rfl dX1_pressByDraws_30 rfl rfl ?_
  refine V.aload_n (q := 32) rfl dX1_pressByDraws_31 rfl rfl ?_
  obtain ⟨b11, eb11, hf⟩ := bd_ex hf
  refine V.getR (q := 35) flX1_18 rfl eb11 dX1_pressByDraws_32 rfl ?_
  obtain ⟨b12, eb12, hf⟩ := bd_ex hf
  refine V.getR (q := 38) flX1_32 rfl eb12 dX1_pressByDraws_35 rfl ?_
  obtain ⟨v13, ev13, hf⟩ := bd_ex hf
  refine V.getI (q := 41) flX1_50 rfl ev13 dX1_pressByDraws_38 rfl ?_
  obtain ⟨_, e14, hf⟩ := bd_ex hf
  obtain ⟨v15, h3, eh3, hf⟩ := bd2_ex hf
  refine V.callV (q := 44) (ci := 1) (vs := [.int v13]) (st := []) (S2 := [.int v15]) okX1_draw imX1_draw seX1_draw rfl lkX1_43 (tX1_draw eh3) rfl (ck_is e14) (by decide) rfl (Nat.le_of_ble_eq_true rfl) (Nat.le_of_ble_eq_true rfl) rfl dX1_pressByDraws_41 rfl rfl ?_
  refine V.istore_n (q := 45) (L' := [.ref a0, .int v5, .int v10, .int v15, Jk, Jk]) rfl dX1_pressByDraws_44 rfl (by decide) rfl rfl ?_
  refine V.aload_n (q := 46) rfl dX1_pressByDraws_45 rfl rfl ?_
  refine V.bipush (q := 48) (v := 100) (by decide) dX1_pressByDraws_46 rfl ?_
  obtain ⟨_, e16, hf⟩ := bd_ex hf
  obtain ⟨v17, h4, eh4, hf⟩ := bd2_ex hf
  refine V.callV (q := 51) (ci := 1) (vs := [.int 100]) (st := []) (S2 := [.int v17]) okX1_draw imX1_draw seX1_draw rfl lkX1_43 (tX1_draw eh4) rfl (ck_is e16) (by decide) rfl (Nat.le_of_ble_eq_true rfl) (Nat.le_of_ble_eq_true rfl) rfl dX1_pressByDraws_48 rfl rfl ?_
  refine V.aload_n (q := 52) rfl dX1_pressByDraws_51 rfl rfl ?_
  obtain ⟨b18, eb18, hf⟩ := bd_ex hf
  refine V.getR (q := 55) flX1_18 rfl eb18 dX1_pressByDraws_52 rfl ?_
  obtain ⟨b19, eb19, hf⟩ := bd_ex hf
  refine V.getR (q := 58) flX1_32 rfl eb19 dX1_pressByDraws_55 rfl ?_
  obtain ⟨b20, eb20, hf⟩ := bd_ex hf
  refine V.getR (q := 61) flX1_53 rfl eb20 dX1_pressByDraws_58 rfl ?_
  refine V.iload_n (q := 62) rfl dX1_pressByDraws_61 rfl rfl ?_
  obtain ⟨v21, ev21, hf⟩ := bd_ex hf
  refine V.iald (q := 63) ev21 dX1_pressByDraws_62 rfl ?_
  refine V.icmp_ge (q := 66) (tgt := 70) dX1_pressByDraws_63 rfl (by decide) (fun c => ?_) (fun c => ?_)
  · rw [if_pos c] at hf
    refine V.iconst (q := 71) (v := 0) (by decide) dX1_pressByDraws_70 rfl ?_
    exact tX1_pressByDraws_71  hf
  · rw [if_neg c] at hf
    refine V.iconst (q := 67) (v := 1) (by decide) dX1_pressByDraws_66 rfl ?_
    refine V.goto (q := 71) dX1_pressByDraws_67 (by decide) ?_
    exact tX1_pressByDraws_71  hf
def bX1_run_53 (k53 : MH → Nat → Int32 → Int32 → Option (MH)) (h : MH) (a0 : Nat) (x2 : Int32) (x3 : Int32) : Option (MH) := if x2 ≤ x3 then (some h) else (bd (ck h a0 1) fun _ => bd (fX1_pressByDraws h a0 ) fun h1 => bd (some (x3 + 1)) fun v2 => k53 h1 a0 x2 v2)
set_option maxRecDepth 20000 in
theorem tX1_run_53 {h' : MH} (k53 : MH → Nat → Int32 → Int32 → Option (MH)) (hk53 : ∀ (h : MH) (a0 : Nat) (x2 : Int32) (x3 : Int32), k53 h a0 x2 x3 = some h' → V TT mX1_run 4 none h' h 53 [.ref a0, Jk, .int x2, .int x3] [])  {h : MH} {a0 : Nat} {x2 : Int32} {x3 : Int32} (hf : bX1_run_53 k53 h a0 x2 x3 = some h') : V TT mX1_run 4 none h' h 53 [.ref a0, Jk, .int x2, .int x3] [] := by
  unfold bX1_run_53 at hf
  refine V.iload_n (q := 54) rfl dX1_run_53 rfl rfl ?_
  refine V.iload_n (q := 55) rfl dX1_run_54 rfl rfl ?_
  refine V.icmp_ge (q := 58) (tgt := 68) dX1_run_55 rfl (by decide) (fun c => ?_) (fun c => ?_)
  · rw [if_pos c] at hf
    cases hf
    exact V.ret (r := none) trivial dX1_run_68
  · rw [if_neg c] at hf
    refine V.aload_n (q := 59) rfl dX1_run_58 rfl rfl ?_
    obtain ⟨_, e1, hf⟩ := bd_ex hf
    obtain ⟨h1, eh1, hf⟩ := bd_ex hf
    refine V.callV (q := 62) (ci := 1) (vs := []) (st := []) (S2 := []) okX1_pressByDraws imX1_pressByDraws seX1_pressByDraws rfl lkX1_29 (tX1_pressByDraws eh1) rfl (ck_is e1) (by decide) rfl (Nat.le_of_ble_eq_true rfl) (Nat.le_of_ble_eq_true rfl) rfl dX1_run_59 rfl rfl ?_
    obtain ⟨v2, ev2, hf⟩ := bd_ex hf
    refine V.iinc (q := 65) (v := v2) (L' := [.ref a0, Jk, .int x2, .int v2]) dX1_run_62 rfl rfl (Option.some.inj ev2) (by decide) rfl rfl ?_
    refine V.goto (q := 53) dX1_run_65 (by decide) ?_
    exact hk53 _ _ _ _ hf
def fX1_run_53  : Nat → MH → Nat → Int32 → Int32 → Option (MH)
  | 0 => fun _ _ _ _ => none
  | n + 1 => bX1_run_53  (fX1_run_53  n)
theorem tlX1_run_53 {h' : MH}   : ∀ (n : Nat) (h : MH) (a0 : Nat) (x2 : Int32) (x3 : Int32), fX1_run_53  n h a0 x2 x3 = some h' → V TT mX1_run 4 none h' h 53 [.ref a0, Jk, .int x2, .int x3] [] := by
  intro n
  induction n with
  | zero => intro h a0 x2 x3 hf; exact nomatch (show (none : Option (MH)) = some h' from hf)
  | succ n ih => intro h a0 x2 x3 hf; exact tX1_run_53  (fX1_run_53  n) ih hf
def bX1_run_32 (k32 : MH → Nat → Int32 → Int32 → Option (MH)) (h : MH) (a0 : Nat) (x2 : Int32) (x3 : Int32) : Option (MH) := if 5 ≤ x3 then (fX1_run_53 FU h a0 x2 0) else (bd (gR h a0 1 2) fun b1 => bd (tI h b1 x3 (-2)) fun h1 => bd (some (x3 + 1)) fun v2 => k32 h1 a0 x2 v2)
set_option maxRecDepth 20000 in
theorem tX1_run_32 {h' : MH} (k32 : MH → Nat → Int32 → Int32 → Option (MH)) (hk32 : ∀ (h : MH) (a0 : Nat) (x2 : Int32) (x3 : Int32), k32 h a0 x2 x3 = some h' → V TT mX1_run 4 none h' h 32 [.ref a0, Jk, .int x2, .int x3] [])  {h : MH} {a0 : Nat} {x2 : Int32} {x3 : Int32} (hf : bX1_run_32 k32 h a0 x2 x3 = some h') : V TT mX1_run 4 none h' h 32 [.ref a0, Jk, .int x2, .int x3] [] := by
  unfold bX1_run_32 at hf
  refine V.iload_n (q := 33) rfl dX1_run_32 rfl rfl ?_
  refine V.iconst (q := 34) (v := 5) (by decide) dX1_run_33 rfl ?_
  refine V.icmp_ge (q := 37) (tgt := 51) dX1_run_34 rfl (by decide) (fun c => ?_) (fun c => ?_)
  · rw [if_pos c] at hf
    refine V.iconst (q := 52) (v := 0) (by decide) dX1_run_51 rfl ?_
    refine V.istore_n (q := 53) (L' := [.ref a0, Jk, .int x2, .int 0]) rfl dX1_run_52 rfl (by decide) rfl rfl ?_
    exact tlX1_run_53  FU _ _ _ _ hf
  · rw [if_neg c] at hf
    refine V.aload_n (q := 38) rfl dX1_run_37 rfl rfl ?_
    obtain ⟨b1, eb1, hf⟩ := bd_ex hf
    refine V.getR (q := 41) flX1_15 rfl eb1 dX1_run_38 rfl ?_
    refine V.iload_n (q := 42) rfl dX1_run_41 rfl rfl ?_
    refine V.bipush (q := 44) (v := (-2)) (by decide) dX1_run_42 rfl ?_
    obtain ⟨h1, eh1, hf⟩ := bd_ex hf
    refine V.iast (q := 45) eh1 dX1_run_44 rfl ?_
    obtain ⟨v2, ev2, hf⟩ := bd_ex hf
    refine V.iinc (q := 48) (v := v2) (L' := [.ref a0, Jk, .int x2, .int v2]) dX1_run_45 rfl rfl (Option.some.inj ev2) (by decide) rfl rfl ?_
    refine V.goto (q := 32) dX1_run_48 (by decide) ?_
    exact hk32 _ _ _ _ hf
def fX1_run_32  : Nat → MH → Nat → Int32 → Int32 → Option (MH)
  | 0 => fun _ _ _ _ => none
  | n + 1 => bX1_run_32  (fX1_run_32  n)
theorem tlX1_run_32 {h' : MH}   : ∀ (n : Nat) (h : MH) (a0 : Nat) (x2 : Int32) (x3 : Int32), fX1_run_32  n h a0 x2 x3 = some h' → V TT mX1_run 4 none h' h 32 [.ref a0, Jk, .int x2, .int x3] [] := by
  intro n
  induction n with
  | zero => intro h a0 x2 x3 hf; exact nomatch (show (none : Option (MH)) = some h' from hf)
  | succ n ih => intro h a0 x2 x3 hf; exact tX1_run_32  (fX1_run_32  n) ih hf
def bX1_run_12 (k12 : MH → Nat → Int32 → Int32 → Option (MH)) (h : MH) (a0 : Nat) (x2 : Int32) (x3 : Int32) : Option (MH) := if 3 ≤ x3 then (fX1_run_32 FU h a0 x2 0) else (bd (gR h a0 1 1) fun b1 => bd (tI h b1 x3 0) fun h1 => bd (some (x3 + 1)) fun v2 => k12 h1 a0 x2 v2)
set_option maxRecDepth 20000 in
theorem tX1_run_12 {h' : MH} (k12 : MH → Nat → Int32 → Int32 → Option (MH)) (hk12 : ∀ (h : MH) (a0 : Nat) (x2 : Int32) (x3 : Int32), k12 h a0 x2 x3 = some h' → V TT mX1_run 4 none h' h 12 [.ref a0, Jk, .int x2, .int x3] [])  {h : MH} {a0 : Nat} {x2 : Int32} {x3 : Int32} (hf : bX1_run_12 k12 h a0 x2 x3 = some h') : V TT mX1_run 4 none h' h 12 [.ref a0, Jk, .int x2, .int x3] [] := by
  unfold bX1_run_12 at hf
  refine V.iload_n (q := 13) rfl dX1_run_12 rfl rfl ?_
  refine V.iconst (q := 14) (v := 3) (by decide) dX1_run_13 rfl ?_
  refine V.icmp_ge (q := 17) (tgt := 30) dX1_run_14 rfl (by decide) (fun c => ?_) (fun c => ?_)
  · rw [if_pos c] at hf
    refine V.iconst (q := 31) (v := 0) (by decide) dX1_run_30 rfl ?_
    refine V.istore_n (q := 32) (L' := [.ref a0, Jk, .int x2, .int 0]) rfl dX1_run_31 rfl (by decide) rfl rfl ?_
    exact tlX1_run_32  FU _ _ _ _ hf
  · rw [if_neg c] at hf
    refine V.aload_n (q := 18) rfl dX1_run_17 rfl rfl ?_
    obtain ⟨b1, eb1, hf⟩ := bd_ex hf
    refine V.getR (q := 21) flX1_9 rfl eb1 dX1_run_18 rfl ?_
    refine V.iload_n (q := 22) rfl dX1_run_21 rfl rfl ?_
    refine V.iconst (q := 23) (v := 0) (by decide) dX1_run_22 rfl ?_
    obtain ⟨h1, eh1, hf⟩ := bd_ex hf
    refine V.iast (q := 24) eh1 dX1_run_23 rfl ?_
    obtain ⟨v2, ev2, hf⟩ := bd_ex hf
    refine V.iinc (q := 27) (v := v2) (L' := [.ref a0, Jk, .int x2, .int v2]) dX1_run_24 rfl rfl (Option.some.inj ev2) (by decide) rfl rfl ?_
    refine V.goto (q := 12) dX1_run_27 (by decide) ?_
    exact hk12 _ _ _ _ hf
def fX1_run_12  : Nat → MH → Nat → Int32 → Int32 → Option (MH)
  | 0 => fun _ _ _ _ => none
  | n + 1 => bX1_run_12  (fX1_run_12  n)
theorem tlX1_run_12 {h' : MH}   : ∀ (n : Nat) (h : MH) (a0 : Nat) (x2 : Int32) (x3 : Int32), fX1_run_12  n h a0 x2 x3 = some h' → V TT mX1_run 4 none h' h 12 [.ref a0, Jk, .int x2, .int x3] [] := by
  intro n
  induction n with
  | zero => intro h a0 x2 x3 hf; exact nomatch (show (none : Option (MH)) = some h' from hf)
  | succ n ih => intro h a0 x2 x3 hf; exact tX1_run_12  (fX1_run_12  n) ih hf
def fX1_run (h : MH) (a0 : Nat) (x1 : Int32) (x2 : Int32) : Option (MH) := bd (pI h a0 1 4 x1) fun h1 => bd (pI h1 a0 1 3 0) fun h2 => fX1_run_12 FU h2 a0 x2 0
set_option maxRecDepth 20000 in
theorem tX1_run {h' : MH} {h : MH} {a0 : Nat} {x1 : Int32} {x2 : Int32} (hf : fX1_run h a0 x1 x2 = some h') : VM mX1_run 4 none h' h [.ref a0, .int x1, .int x2] := by
  show V TT mX1_run 4 _ h' h 0 [.ref a0, .int x1, .int x2, Jk] []
  unfold fX1_run at hf
  refine V.aload_n (q := 1) rfl dX1_run_0 rfl rfl ?_
  refine V.iload_n (q := 2) rfl dX1_run_1 rfl rfl ?_
  obtain ⟨h1, eh1, hf⟩ := bd_ex hf
  refine V.putI (q := 5) (fpX1_22 rfl) rfl eh1 dX1_run_2 rfl ?_
  refine V.aload_n (q := 6) rfl dX1_run_5 rfl rfl ?_
  refine V.iconst (q := 7) (v := 0) (by decide) dX1_run_6 rfl ?_
  obtain ⟨h2, eh2, hf⟩ := bd_ex hf
  refine V.putI (q := 10) (fpX1_26 rfl) rfl eh2 dX1_run_7 rfl ?_
  refine V.iconst (q := 11) (v := 0) (by decide) dX1_run_10 rfl ?_
  refine V.istore_n (q := 12) (L' := [.ref a0, .int x1, .int x2, .int 0]) rfl dX1_run_11 rfl (by decide) rfl rfl ?_
  refine V.forget (L' := [.ref a0, Jk, .int x2, .int 0]) ⟨Or.inr rfl, Or.inl rfl, Or.inr rfl, Or.inr rfl, trivial⟩ ?_
  exact tlX1_run_12  FU _ _ _ _ hf
def fX11_birds (h : MH) (a0 : Nat) (x1 : Int32) (x2 : Int32) : Option (Int32 × MH) := bd (ck h a0 11) fun _ => bd2 (fX11_troubleOfDraws h a0 1 x1 x2) fun v2 h1 => if v2 = 0 then (bd (gR h1 a0 11 8) fun b3 => bd (ck h1 b3 1) fun _ => bd (fX1_run h1 b3 x1 x2) fun h2 => bd (gR h2 a0 11 8) fun b5 => bd (gI h2 b5 1 3) fun v6 => bd (ck h2 a0 11) fun _ => bd2 (fX11_answer h2 a0 v6) fun v8 h3 => some (v8, h3)) else (bd (ck h1 a0 11) fun _ => bd2 (fX11_refuse h1 a0 v2) fun v4 h2 => some (v4, h2))
set_option maxRecDepth 20000 in
theorem tX11_birds {r : Int32} {h' : MH} {h : MH} {a0 : Nat} {x1 : Int32} {x2 : Int32} (hf : fX11_birds h a0 x1 x2 = some (r, h')) : VM mX11_birds 5 (some (.int r)) h' h [.ref a0, .int x1, .int x2] := by
  show V TT mX11_birds 5 _ h' h 0 [.ref a0, .int x1, .int x2, Jk] []
  unfold fX11_birds at hf
  refine V.aload_n (q := 1) rfl dX11_birds_0 rfl rfl ?_
  refine V.iconst (q := 2) (v := 1) (by decide) dX11_birds_1 rfl ?_
  refine V.iload_n (q := 3) rfl dX11_birds_2 rfl rfl ?_
  refine V.iload_n (q := 4) rfl dX11_birds_3 rfl rfl ?_
  obtain ⟨_, e1, hf⟩ := bd_ex hf
  obtain ⟨v2, h1, eh1, hf⟩ := bd2_ex hf
  refine V.callV (q := 7) (ci := 11) (vs := [.int 1, .int x1, .int x2]) (st := []) (S2 := [.int v2]) okX11_troubleOfDraws imX11_troubleOfDraws seX11_troubleOfDraws rfl lkX11_322 (tX11_troubleOfDraws eh1) rfl (ck_is e1) (by decide) rfl (Nat.le_of_ble_eq_true rfl) (Nat.le_of_ble_eq_true rfl) rfl dX11_birds_4 rfl rfl ?_
  refine V.istore_n (q := 8) (L' := [.ref a0, .int x1, .int x2, .int v2]) rfl dX11_birds_7 rfl (by decide) rfl rfl ?_
  refine V.iload_n (q := 9) rfl dX11_birds_8 rfl rfl ?_
  refine V.if_eq (q := 12) (tgt := 18) dX11_birds_9 rfl (by decide) (fun c => ?_) (fun c => ?_)
  · rw [if_pos c] at hf
    refine V.aload_n (q := 19) rfl dX11_birds_18 rfl rfl ?_
    obtain ⟨b3, eb3, hf⟩ := bd_ex hf
    refine V.getR (q := 22) flX11_72 rfl eb3 dX11_birds_19 rfl ?_
    refine V.iload_n (q := 23) rfl dX11_birds_22 rfl rfl ?_
    refine V.iload_n (q := 24) rfl dX11_birds_23 rfl rfl ?_
    obtain ⟨_, e4, hf⟩ := bd_ex hf
    obtain ⟨h2, eh2, hf⟩ := bd_ex hf
    refine V.callV (q := 27) (ci := 1) (vs := [.int x1, .int x2]) (st := []) (S2 := []) okX1_run imX1_run seX1_run rfl lkX11_326 (tX1_run eh2) rfl (ck_is e4) (by decide) rfl (Nat.le_of_ble_eq_true rfl) (Nat.le_of_ble_eq_true rfl) rfl dX11_birds_24 rfl rfl ?_
    refine V.aload_n (q := 28) rfl dX11_birds_27 rfl rfl ?_
    refine V.aload_n (q := 29) rfl dX11_birds_28 rfl rfl ?_
    obtain ⟨b5, eb5, hf⟩ := bd_ex hf
    refine V.getR (q := 32) flX11_72 rfl eb5 dX11_birds_29 rfl ?_
    obtain ⟨v6, ev6, hf⟩ := bd_ex hf
    refine V.getI (q := 35) flX11_333 rfl ev6 dX11_birds_32 rfl ?_
    obtain ⟨_, e7, hf⟩ := bd_ex hf
    obtain ⟨v8, h3, eh3, hf⟩ := bd2_ex hf
    refine V.callV (q := 38) (ci := 11) (vs := [.int v6]) (st := []) (S2 := [.int v8]) okX11_answer imX11_answer seX11_answer rfl lkX11_127 (tX11_answer eh3) rfl (ck_is e7) (by decide) rfl (Nat.le_of_ble_eq_true rfl) (Nat.le_of_ble_eq_true rfl) rfl dX11_birds_35 rfl rfl ?_
    obtain ⟨rfl, rfl⟩ := ret_inj hf
    exact V.ret (r := some (.int v8)) trivial dX11_birds_38
  · rw [if_neg c] at hf
    refine V.aload_n (q := 13) rfl dX11_birds_12 rfl rfl ?_
    refine V.iload_n (q := 14) rfl dX11_birds_13 rfl rfl ?_
    obtain ⟨_, e3, hf⟩ := bd_ex hf
    obtain ⟨v4, h2, eh2, hf⟩ := bd2_ex hf
    refine V.callV (q := 17) (ci := 11) (vs := [.int v2]) (st := []) (S2 := [.int v4]) okX11_refuse imX11_refuse seX11_refuse rfl lkX11_101 (tX11_refuse eh2) rfl (ck_is e3) (by decide) rfl (Nat.le_of_ble_eq_true rfl) (Nat.le_of_ble_eq_true rfl) rfl dX11_birds_14 rfl rfl ?_
    obtain ⟨rfl, rfl⟩ := ret_inj hf
    exact V.ret (r := some (.int v4)) trivial dX11_birds_17
def fX5_hasStamp (h : MH) (a0 : Nat) (x1 : Int32) : Option (Int32 × MH) := if x1 < 0 then (some (0, h)) else (bd (gR h a0 5 1) fun b1 => bd (gI h b1 7 15) fun v2 => if v2 ≤ x1 then (some (0, h)) else (some (1, h)))
set_option maxRecDepth 20000 in
theorem tX5_hasStamp {r : Int32} {h' : MH} {h : MH} {a0 : Nat} {x1 : Int32} (hf : fX5_hasStamp h a0 x1 = some (r, h')) : VM mX5_hasStamp 0 (some (.int r)) h' h [.ref a0, .int x1] := by
  show V TT mX5_hasStamp 0 _ h' h 0 [.ref a0, .int x1] []
  unfold fX5_hasStamp at hf
  refine V.iload_n (q := 1) rfl dX5_hasStamp_0 rfl rfl ?_
  refine V.if_lt (q := 4) (tgt := 19) dX5_hasStamp_1 rfl (by decide) (fun c => ?_) (fun c => ?_)
  · rw [if_pos c] at hf
    refine V.iconst (q := 20) (v := 0) (by decide) dX5_hasStamp_19 rfl ?_
    obtain ⟨rfl, rfl⟩ := ret_inj hf
    exact V.ret (r := some (.int 0)) (Or.inl rfl) dX5_hasStamp_20
  · rw [if_neg c] at hf
    refine V.iload_n (q := 5) rfl dX5_hasStamp_4 rfl rfl ?_
    refine V.aload_n (q := 6) rfl dX5_hasStamp_5 rfl rfl ?_
    obtain ⟨b1, eb1, hf⟩ := bd_ex hf
    refine V.getR (q := 9) flX5_21 rfl eb1 dX5_hasStamp_6 rfl ?_
    obtain ⟨v2, ev2, hf⟩ := bd_ex hf
    refine V.getI (q := 12) flX5_32 rfl ev2 dX5_hasStamp_9 rfl ?_
    refine V.icmp_ge (q := 15) (tgt := 19) dX5_hasStamp_12 rfl (by decide) (fun c => ?_) (fun c => ?_)
    · rw [if_pos c] at hf
      refine V.iconst (q := 20) (v := 0) (by decide) dX5_hasStamp_19 rfl ?_
      obtain ⟨rfl, rfl⟩ := ret_inj hf
      exact V.ret (r := some (.int 0)) (Or.inl rfl) dX5_hasStamp_20
    · rw [if_neg c] at hf
      refine V.iconst (q := 16) (v := 1) (by decide) dX5_hasStamp_15 rfl ?_
      refine V.goto (q := 20) dX5_hasStamp_16 (by decide) ?_
      obtain ⟨rfl, rfl⟩ := ret_inj hf
      exact V.ret (r := some (.int 1)) (Or.inr rfl) dX5_hasStamp_20
def fX11_byRule (h : MH) (a0 : Nat) (x1 : Int32) (x2 : Int32) : Option (Int32 × MH) := bd (gR h a0 11 2) fun b1 => bd (ck h b1 5) fun _ => bd2 (fX5_hasStamp h b1 x1) fun v3 h1 => if v3 = 0 then (bd (ck h1 a0 11) fun _ => bd2 (fX11_refuse h1 a0 1) fun v5 h2 => some (v5, h2)) else (bd (gR h1 a0 11 2) fun b4 => bd (ck h1 b4 5) fun _ => bd2 (fX5_hasPaper h1 b4 x2) fun v6 h2 => if v6 = 0 then (bd (ck h2 a0 11) fun _ => bd2 (fX11_refuse h2 a0 1) fun v8 h3 => some (v8, h3)) else (bd (gR h2 a0 11 2) fun b7 => bd (gR h2 a0 11 2) fun b8 => bd (gR h2 b8 5 0) fun b9 => bd (ck h2 b9 4) fun _ => bd2 (fX4_marksOf h2 b9 x2) fun v11 h3 => bd (ck h3 b7 5) fun _ => bd2 (fX5_firstRule h3 b7 x1 v11) fun v13 h4 => bd (ck h4 a0 11) fun _ => bd2 (fX11_answer h4 a0 v13) fun v15 h5 => some (v15, h5)))
set_option maxRecDepth 20000 in
theorem tX11_byRule {r : Int32} {h' : MH} {h : MH} {a0 : Nat} {x1 : Int32} {x2 : Int32} (hf : fX11_byRule h a0 x1 x2 = some (r, h')) : VM mX11_byRule 1 (some (.int r)) h' h [.ref a0, .int x1, .int x2] := by
  show V TT mX11_byRule 1 _ h' h 0 [.ref a0, .int x1, .int x2] []
  unfold fX11_byRule at hf
  refine V.aload_n (q := 1) rfl dX11_byRule_0 rfl rfl ?_
  obtain ⟨b1, eb1, hf⟩ := bd_ex hf
  refine V.getR (q := 4) flX11_28 rfl eb1 dX11_byRule_1 rfl ?_
  refine V.iload_n (q := 5) rfl dX11_byRule_4 rfl rfl ?_
  obtain ⟨_, e2, hf⟩ := bd_ex hf
  obtain ⟨v3, h1, eh1, hf⟩ := bd2_ex hf
  refine V.callV (q := 8) (ci := 5) (vs := [.int x1]) (st := []) (S2 := [.int v3]) okX5_hasStamp imX5_hasStamp seX5_hasStamp rfl lkX11_152 (tX5_hasStamp eh1) rfl (ck_is e2) (by decide) rfl (Nat.le_of_ble_eq_true rfl) (Nat.le_of_ble_eq_true rfl) rfl dX11_byRule_5 rfl rfl ?_
  refine V.if_eq (q := 11) (tgt := 22) dX11_byRule_8 rfl (by decide) (fun c => ?_) (fun c => ?_)
  · rw [if_pos c] at hf
    refine V.aload_n (q := 23) rfl dX11_byRule_22 rfl rfl ?_
    refine V.iconst (q := 24) (v := 1) (by decide) dX11_byRule_23 rfl ?_
    obtain ⟨_, e4, hf⟩ := bd_ex hf
    obtain ⟨v5, h2, eh2, hf⟩ := bd2_ex hf
    refine V.callV (q := 27) (ci := 11) (vs := [.int 1]) (st := []) (S2 := [.int v5]) okX11_refuse imX11_refuse seX11_refuse rfl lkX11_101 (tX11_refuse eh2) rfl (ck_is e4) (by decide) rfl (Nat.le_of_ble_eq_true rfl) (Nat.le_of_ble_eq_true rfl) rfl dX11_byRule_24 rfl rfl ?_
    obtain ⟨rfl, rfl⟩ := ret_inj hf
    exact V.ret (r := some (.int v5)) trivial dX11_byRule_27
  · rw [if_neg c] at hf
    refine V.aload_n (q := 12) rfl dX11_byRule_11 rfl rfl ?_
    obtain ⟨b4, eb4, hf⟩ := bd_ex hf
    refine V.getR (q := 15) flX11_28 rfl eb4 dX11_byRule_12 rfl ?_
    refine V.iload_n (q := 16) rfl dX11_byRule_15 rfl rfl ?_
    obtain ⟨_, e5, hf⟩ := bd_ex hf
    obtain ⟨v6, h2, eh2, hf⟩ := bd2_ex hf
    refine V.callV (q := 19) (ci := 5) (vs := [.int x2]) (st := []) (S2 := [.int v6]) okX5_hasPaper imX5_hasPaper seX5_hasPaper rfl lkX11_130 (tX5_hasPaper eh2) rfl (ck_is e5) (by decide) rfl (Nat.le_of_ble_eq_true rfl) (Nat.le_of_ble_eq_true rfl) rfl dX11_byRule_16 rfl rfl ?_
    refine V.if_ne (q := 22) (tgt := 28) dX11_byRule_19 rfl (by decide) (fun c => ?_) (fun c => ?_)
    · rw [if_neg c] at hf
      refine V.aload_n (q := 29) rfl dX11_byRule_28 rfl rfl ?_
      refine V.aload_n (q := 30) rfl dX11_byRule_29 rfl rfl ?_
      obtain ⟨b7, eb7, hf⟩ := bd_ex hf
      refine V.getR (q := 33) flX11_28 rfl eb7 dX11_byRule_30 rfl ?_
      refine V.iload_n (q := 34) rfl dX11_byRule_33 rfl rfl ?_
      refine V.aload_n (q := 35) rfl dX11_byRule_34 rfl rfl ?_
      obtain ⟨b8, eb8, hf⟩ := bd_ex hf
      refine V.getR (q := 38) flX11_28 rfl eb8 dX11_byRule_35 rfl ?_
      obtain ⟨b9, eb9, hf⟩ := bd_ex hf
      refine V.getR (q := 41) flX11_137 rfl eb9 dX11_byRule_38 rfl ?_
      refine V.iload_n (q := 42) rfl dX11_byRule_41 rfl rfl ?_
      obtain ⟨_, e10, hf⟩ := bd_ex hf
      obtain ⟨v11, h3, eh3, hf⟩ := bd2_ex hf
      refine V.callV (q := 45) (ci := 4) (vs := [.int x2]) (st := [.int x1, .ref b7, .ref a0]) (S2 := [.int v11, .int x1, .ref b7, .ref a0]) okX4_marksOf imX4_marksOf seX4_marksOf rfl lkX11_141 (tX4_marksOf eh3) rfl (ck_is e10) (by decide) rfl (Nat.le_of_ble_eq_true rfl) (Nat.le_of_ble_eq_true rfl) rfl dX11_byRule_42 rfl rfl ?_
      obtain ⟨_, e12, hf⟩ := bd_ex hf
      obtain ⟨v13, h4, eh4, hf⟩ := bd2_ex hf
      refine V.callV (q := 48) (ci := 5) (vs := [.int x1, .int v11]) (st := [.ref a0]) (S2 := [.int v13, .ref a0]) okX5_firstRule imX5_firstRule seX5_firstRule rfl lkX11_201 (tX5_firstRule eh4) rfl (ck_is e12) (by decide) rfl (Nat.le_of_ble_eq_true rfl) (Nat.le_of_ble_eq_true rfl) rfl dX11_byRule_45 rfl rfl ?_
      obtain ⟨_, e14, hf⟩ := bd_ex hf
      obtain ⟨v15, h5, eh5, hf⟩ := bd2_ex hf
      refine V.callV (q := 51) (ci := 11) (vs := [.int v13]) (st := []) (S2 := [.int v15]) okX11_answer imX11_answer seX11_answer rfl lkX11_127 (tX11_answer eh5) rfl (ck_is e14) (by decide) rfl (Nat.le_of_ble_eq_true rfl) (Nat.le_of_ble_eq_true rfl) rfl dX11_byRule_48 rfl rfl ?_
      obtain ⟨rfl, rfl⟩ := ret_inj hf
      exact V.ret (r := some (.int v15)) trivial dX11_byRule_51
    · rw [if_pos c] at hf
      refine V.aload_n (q := 23) rfl dX11_byRule_22 rfl rfl ?_
      refine V.iconst (q := 24) (v := 1) (by decide) dX11_byRule_23 rfl ?_
      obtain ⟨_, e7, hf⟩ := bd_ex hf
      obtain ⟨v8, h3, eh3, hf⟩ := bd2_ex hf
      refine V.callV (q := 27) (ci := 11) (vs := [.int 1]) (st := []) (S2 := [.int v8]) okX11_refuse imX11_refuse seX11_refuse rfl lkX11_101 (tX11_refuse eh3) rfl (ck_is e7) (by decide) rfl (Nat.le_of_ble_eq_true rfl) (Nat.le_of_ble_eq_true rfl) rfl dX11_byRule_24 rfl rfl ?_
      obtain ⟨rfl, rfl⟩ := ret_inj hf
      exact V.ret (r := some (.int v8)) trivial dX11_byRule_27
def fX11_isVerdict (h : MH) (x0 : Int32) : Option (Int32 × MH) := if x0 < 0 then (some (0, h)) else (if 3 ≤ x0 then (some (0, h)) else (some (1, h)))
set_option maxRecDepth 20000 in
theorem tX11_isVerdict {r : Int32} {h' : MH} {h : MH} {x0 : Int32} (hf : fX11_isVerdict h x0 = some (r, h')) : VM mX11_isVerdict 0 (some (.int r)) h' h [.int x0] := by
  show V TT mX11_isVerdict 0 _ h' h 0 [.int x0] []
  unfold fX11_isVerdict at hf
  refine V.iload_n (q := 1) rfl dX11_isVerdict_0 rfl rfl ?_
  refine V.if_lt (q := 4) (tgt := 13) dX11_isVerdict_1 rfl (by decide) (fun c => ?_) (fun c => ?_)
  · rw [if_pos c] at hf
    refine V.iconst (q := 14) (v := 0) (by decide) dX11_isVerdict_13 rfl ?_
    obtain ⟨rfl, rfl⟩ := ret_inj hf
    exact V.ret (r := some (.int 0)) (Or.inl rfl) dX11_isVerdict_14
  · rw [if_neg c] at hf
    refine V.iload_n (q := 5) rfl dX11_isVerdict_4 rfl rfl ?_
    refine V.iconst (q := 6) (v := 3) (by decide) dX11_isVerdict_5 rfl ?_
    refine V.icmp_ge (q := 9) (tgt := 13) dX11_isVerdict_6 rfl (by decide) (fun c => ?_) (fun c => ?_)
    · rw [if_pos c] at hf
      refine V.iconst (q := 14) (v := 0) (by decide) dX11_isVerdict_13 rfl ?_
      obtain ⟨rfl, rfl⟩ := ret_inj hf
      exact V.ret (r := some (.int 0)) (Or.inl rfl) dX11_isVerdict_14
    · rw [if_neg c] at hf
      refine V.iconst (q := 10) (v := 1) (by decide) dX11_isVerdict_9 rfl ?_
      refine V.goto (q := 14) dX11_isVerdict_10 (by decide) ?_
      obtain ⟨rfl, rfl⟩ := ret_inj hf
      exact V.ret (r := some (.int 1)) (Or.inr rfl) dX11_isVerdict_14
def fX4_setVerdict (h : MH) (a0 : Nat) (x1 : Int32) (x2 : Int32) : Option (MH) := bd (gR h a0 4 0) fun b1 => bd (tI h b1 (18 + x1) x2) fun h1 => some h1
set_option maxRecDepth 20000 in
theorem tX4_setVerdict {h' : MH} {h : MH} {a0 : Nat} {x1 : Int32} {x2 : Int32} (hf : fX4_setVerdict h a0 x1 x2 = some h') : VM mX4_setVerdict 0 none h' h [.ref a0, .int x1, .int x2] := by
  show V TT mX4_setVerdict 0 _ h' h 0 [.ref a0, .int x1, .int x2] []
  unfold fX4_setVerdict at hf
  refine V.aload_n (q := 1) rfl dX4_setVerdict_0 rfl rfl ?_
  obtain ⟨b1, eb1, hf⟩ := bd_ex hf
  refine V.getR (q := 4) flX4_11 rfl eb1 dX4_setVerdict_1 rfl ?_
  refine V.bipush (q := 6) (v := 18) (by decide) dX4_setVerdict_4 rfl ?_
  refine V.iload_n (q := 7) rfl dX4_setVerdict_6 rfl rfl ?_
  refine V.iadd (q := 8) dX4_setVerdict_7 rfl ?_
  refine V.iload_n (q := 9) rfl dX4_setVerdict_8 rfl rfl ?_
  obtain ⟨h1, eh1, hf⟩ := bd_ex hf
  refine V.iast (q := 10) eh1 dX4_setVerdict_9 rfl ?_
  cases hf
  exact V.ret (r := none) trivial dX4_setVerdict_10
def fX5_hasRule (h : MH) (a0 : Nat) (x1 : Int32) : Option (Int32 × MH) := if x1 < 0 then (some (0, h)) else (bd (gR h a0 5 1) fun b1 => bd (gI h b1 7 16) fun v2 => if v2 ≤ x1 then (some (0, h)) else (some (1, h)))
set_option maxRecDepth 20000 in
theorem tX5_hasRule {r : Int32} {h' : MH} {h : MH} {a0 : Nat} {x1 : Int32} (hf : fX5_hasRule h a0 x1 = some (r, h')) : VM mX5_hasRule 0 (some (.int r)) h' h [.ref a0, .int x1] := by
  show V TT mX5_hasRule 0 _ h' h 0 [.ref a0, .int x1] []
  unfold fX5_hasRule at hf
  refine V.iload_n (q := 1) rfl dX5_hasRule_0 rfl rfl ?_
  refine V.if_lt (q := 4) (tgt := 19) dX5_hasRule_1 rfl (by decide) (fun c => ?_) (fun c => ?_)
  · rw [if_pos c] at hf
    refine V.iconst (q := 20) (v := 0) (by decide) dX5_hasRule_19 rfl ?_
    obtain ⟨rfl, rfl⟩ := ret_inj hf
    exact V.ret (r := some (.int 0)) (Or.inl rfl) dX5_hasRule_20
  · rw [if_neg c] at hf
    refine V.iload_n (q := 5) rfl dX5_hasRule_4 rfl rfl ?_
    refine V.aload_n (q := 6) rfl dX5_hasRule_5 rfl rfl ?_
    obtain ⟨b1, eb1, hf⟩ := bd_ex hf
    refine V.getR (q := 9) flX5_21 rfl eb1 dX5_hasRule_6 rfl ?_
    obtain ⟨v2, ev2, hf⟩ := bd_ex hf
    refine V.getI (q := 12) flX5_38 rfl ev2 dX5_hasRule_9 rfl ?_
    refine V.icmp_ge (q := 15) (tgt := 19) dX5_hasRule_12 rfl (by decide) (fun c => ?_) (fun c => ?_)
    · rw [if_pos c] at hf
      refine V.iconst (q := 20) (v := 0) (by decide) dX5_hasRule_19 rfl ?_
      obtain ⟨rfl, rfl⟩ := ret_inj hf
      exact V.ret (r := some (.int 0)) (Or.inl rfl) dX5_hasRule_20
    · rw [if_neg c] at hf
      refine V.iconst (q := 16) (v := 1) (by decide) dX5_hasRule_15 rfl ?_
      refine V.goto (q := 20) dX5_hasRule_16 (by decide) ?_
      obtain ⟨rfl, rfl⟩ := ret_inj hf
      exact V.ret (r := some (.int 1)) (Or.inr rfl) dX5_hasRule_20
def bX4_copyTo_2 (k2 : MH → Nat → Nat → Int32 → Option (MH)) (h : MH) (a0 : Nat) (a1 : Nat) (x2 : Int32) : Option (MH) := if 31 ≤ x2 then (some h) else (bd (gR h a0 4 0) fun b1 => bd (lI h b1 x2) fun v2 => bd (tI h a1 x2 v2) fun h1 => bd (some (x2 + 1)) fun v3 => k2 h1 a0 a1 v3)
set_option maxRecDepth 20000 in
theorem tX4_copyTo_2 {h' : MH} (k2 : MH → Nat → Nat → Int32 → Option (MH)) (hk2 : ∀ (h : MH) (a0 : Nat) (a1 : Nat) (x2 : Int32), k2 h a0 a1 x2 = some h' → V TT mX4_copyTo 0 none h' h 2 [.ref a0, .ref a1, .int x2] [])  {h : MH} {a0 : Nat} {a1 : Nat} {x2 : Int32} (hf : bX4_copyTo_2 k2 h a0 a1 x2 = some h') : V TT mX4_copyTo 0 none h' h 2 [.ref a0, .ref a1, .int x2] [] := by
  unfold bX4_copyTo_2 at hf
  refine V.iload_n (q := 3) rfl dX4_copyTo_2 rfl rfl ?_
  refine V.bipush (q := 5) (v := 31) (by decide) dX4_copyTo_3 rfl ?_
  refine V.icmp_ge (q := 8) (tgt := 23) dX4_copyTo_5 rfl (by decide) (fun c => ?_) (fun c => ?_)
  · rw [if_pos c] at hf
    cases hf
    exact V.ret (r := none) trivial dX4_copyTo_23
  · rw [if_neg c] at hf
    refine V.aload_n (q := 9) rfl dX4_copyTo_8 rfl rfl ?_
    refine V.iload_n (q := 10) rfl dX4_copyTo_9 rfl rfl ?_
    refine V.aload_n (q := 11) rfl dX4_copyTo_10 rfl rfl ?_
    obtain ⟨b1, eb1, hf⟩ := bd_ex hf
    refine V.getR (q := 14) flX4_11 rfl eb1 dX4_copyTo_11 rfl ?_
    refine V.iload_n (q := 15) rfl dX4_copyTo_14 rfl rfl ?_
    obtain ⟨v2, ev2, hf⟩ := bd_ex hf
    refine V.iald (q := 16) ev2 dX4_copyTo_15 rfl ?_
    obtain ⟨h1, eh1, hf⟩ := bd_ex hf
    refine V.iast (q := 17) eh1 dX4_copyTo_16 rfl ?_
    obtain ⟨v3, ev3, hf⟩ := bd_ex hf
    refine V.iinc (q := 20) (v := v3) (L' := [.ref a0, .ref a1, .int v3]) dX4_copyTo_17 rfl rfl (Option.some.inj ev3) (by decide) rfl rfl ?_
    refine V.goto (q := 2) dX4_copyTo_20 (by decide) ?_
    exact hk2 _ _ _ _ hf
def fX4_copyTo_2  : Nat → MH → Nat → Nat → Int32 → Option (MH)
  | 0 => fun _ _ _ _ => none
  | n + 1 => bX4_copyTo_2  (fX4_copyTo_2  n)
theorem tlX4_copyTo_2 {h' : MH}   : ∀ (n : Nat) (h : MH) (a0 : Nat) (a1 : Nat) (x2 : Int32), fX4_copyTo_2  n h a0 a1 x2 = some h' → V TT mX4_copyTo 0 none h' h 2 [.ref a0, .ref a1, .int x2] [] := by
  intro n
  induction n with
  | zero => intro h a0 a1 x2 hf; exact nomatch (show (none : Option (MH)) = some h' from hf)
  | succ n ih => intro h a0 a1 x2 hf; exact tX4_copyTo_2  (fX4_copyTo_2  n) ih hf
def fX4_copyTo (h : MH) (a0 : Nat) (a1 : Nat) : Option (MH) := fX4_copyTo_2 FU h a0 a1 0
set_option maxRecDepth 20000 in
theorem tX4_copyTo {h' : MH} {h : MH} {a0 : Nat} {a1 : Nat} (hf : fX4_copyTo h a0 a1 = some h') : VM mX4_copyTo 0 none h' h [.ref a0, .ref a1] := by
  show V TT mX4_copyTo 0 _ h' h 0 [.ref a0, .ref a1, Jk] []
  unfold fX4_copyTo at hf
  refine V.iconst (q := 1) (v := 0) (by decide) dX4_copyTo_0 rfl ?_
  refine V.istore_n (q := 2) (L' := [.ref a0, .ref a1, .int 0]) rfl dX4_copyTo_1 rfl (by decide) rfl rfl ?_
  exact tlX4_copyTo_2  FU _ _ _ _ hf
def bX6_remember_35  (h : MH) (a0 : Nat) (xs0 : Int32) (as1 : Nat) : Option (MH) := bd (pI h as1 6 2 xs0) fun h1 => bd (gI h1 a0 6 3) fun v1 => if 16 ≤ v1 then (some h1) else (bd (gI h1 a0 6 3) fun v2 => bd (pI h1 a0 6 3 (v2 + 1)) fun h2 => some h2)
set_option maxRecDepth 20000 in
theorem tX6_remember_35 {h' : MH}   {h : MH} {a0 : Nat} {xs0 : Int32} {as1 : Nat} (hf : bX6_remember_35  h a0 xs0 as1 = some h') : V TT mX6_remember 1 none h' h 35 [.ref a0, Jk] [.int xs0, .ref as1] := by
  unfold bX6_remember_35 at hf
  obtain ⟨h1, eh1, hf⟩ := bd_ex hf
  refine V.putI (q := 38) (fpX6_26 rfl) rfl eh1 dX6_remember_35 rfl ?_
  refine V.aload_n (q := 39) rfl dX6_remember_38 rfl rfl ?_
  obtain ⟨v1, ev1, hf⟩ := bd_ex hf
  refine V.getI (q := 42) flX6_19 rfl ev1 dX6_remember_39 rfl ?_
  refine V.bipush (q := 44) (v := 16) (by decide) dX6_remember_42 rfl ?_
  refine V.icmp_ge (q := 47) (tgt := 57) dX6_remember_44 rfl (by decide) (fun c => ?_) (fun c => ?_)
  · rw [if_pos c] at hf
    cases hf
    exact V.ret (r := none) trivial dX6_remember_57
  · rw [if_neg c] at hf
    refine V.aload_n (q := 48) rfl dX6_remember_47 rfl rfl ?_
    refine V.dupR (q := 49) dX6_remember_48 rfl ?_
    obtain ⟨v2, ev2, hf⟩ := bd_ex hf
    refine V.getI (q := 52) flX6_19 rfl ev2 dX6_remember_49 rfl ?_
    refine V.iconst (q := 53) (v := 1) (by decide) dX6_remember_52 rfl ?_
    refine V.iadd (q := 54) dX6_remember_53 rfl ?_
    obtain ⟨h2, eh2, hf⟩ := bd_ex hf
    refine V.putI (q := 57) (fpX6_19 rfl) rfl eh2 dX6_remember_54 rfl ?_
    cases hf
    exact V.ret (r := none) trivial dX6_remember_57
def fX6_remember (h : MH) (a0 : Nat) (a1 : Nat) : Option (MH) := bd (gR h a0 6 0) fun b1 => bd (gI h a0 6 2) fun v2 => bd (lR h b1 v2) fun b3 => bd (ck h a1 4) fun _ => bd (fX4_copyTo h a1 b3) fun h1 => bd (gI h1 a0 6 2) fun v5 => if 16 ≤ (v5 + 1) then (bX6_remember_35 h1 a0 0 a0) else (bd (gI h1 a0 6 2) fun v6 => bX6_remember_35 h1 a0 (v6 + 1) a0)
set_option maxRecDepth 20000 in
theorem tX6_remember {h' : MH} {h : MH} {a0 : Nat} {a1 : Nat} (hf : fX6_remember h a0 a1 = some h') : VM mX6_remember 1 none h' h [.ref a0, .ref a1] := by
  show V TT mX6_remember 1 _ h' h 0 [.ref a0, .ref a1] []
  unfold fX6_remember at hf
  refine V.aload_n (q := 1) rfl dX6_remember_0 rfl rfl ?_
  refine V.aload_n (q := 2) rfl dX6_remember_1 rfl rfl ?_
  obtain ⟨b1, eb1, hf⟩ := bd_ex hf
  refine V.getR (q := 5) flX6_13 rfl eb1 dX6_remember_2 rfl ?_
  refine V.aload_n (q := 6) rfl dX6_remember_5 rfl rfl ?_
  obtain ⟨v2, ev2, hf⟩ := bd_ex hf
  refine V.getI (q := 9) flX6_26 rfl ev2 dX6_remember_6 rfl ?_
  obtain ⟨b3, eb3, hf⟩ := bd_ex hf
  refine V.aald (q := 10) eb3 dX6_remember_9 rfl ?_
  obtain ⟨_, e4, hf⟩ := bd_ex hf
  obtain ⟨h1, eh1, hf⟩ := bd_ex hf
  refine V.callV (q := 13) (ci := 4) (vs := [.ref b3]) (st := []) (S2 := []) okX4_copyTo imX4_copyTo seX4_copyTo rfl lkX6_29 (tX4_copyTo eh1) rfl (ck_is e4) (by decide) rfl (Nat.le_of_ble_eq_true rfl) (Nat.le_of_ble_eq_true rfl) rfl dX6_remember_10 rfl rfl ?_
  refine V.aload_n (q := 14) rfl dX6_remember_13 rfl rfl ?_
  refine V.aload_n (q := 15) rfl dX6_remember_14 rfl rfl ?_
  obtain ⟨v5, ev5, hf⟩ := bd_ex hf
  refine V.getI (q := 18) flX6_26 rfl ev5 dX6_remember_15 rfl ?_
  refine V.iconst (q := 19) (v := 1) (by decide) dX6_remember_18 rfl ?_
  refine V.iadd (q := 20) dX6_remember_19 rfl ?_
  refine V.bipush (q := 22) (v := 16) (by decide) dX6_remember_20 rfl ?_
  refine V.icmp_ge (q := 25) (tgt := 34) dX6_remember_22 rfl (by decide) (fun c => ?_) (fun c => ?_)
  · rw [if_pos c] at hf
    refine V.iconst (q := 35) (v := 0) (by decide) dX6_remember_34 rfl ?_
    refine V.forget (L' := [.ref a0, Jk]) ⟨Or.inr rfl, Or.inl rfl, trivial⟩ ?_
    exact tX6_remember_35  hf
  · rw [if_neg c] at hf
    refine V.aload_n (q := 26) rfl dX6_remember_25 rfl rfl ?_
    obtain ⟨v6, ev6, hf⟩ := bd_ex hf
    refine V.getI (q := 29) flX6_26 rfl ev6 dX6_remember_26 rfl ?_
    refine V.iconst (q := 30) (v := 1) (by decide) dX6_remember_29 rfl ?_
    refine V.iadd (q := 31) dX6_remember_30 rfl ?_
    refine V.goto (q := 35) dX6_remember_31 (by decide) ?_
    refine V.forget (L' := [.ref a0, Jk]) ⟨Or.inr rfl, Or.inl rfl, trivial⟩ ?_
    exact tX6_remember_35  hf
def fX11_carve (h : MH) (a0 : Nat) (x1 : Int32) (x2 : Int32) : Option (Int32 × MH) := bd (gR h a0 11 2) fun b1 => bd (ck h b1 5) fun _ => bd2 (fX5_hasRule h b1 x1) fun v3 h1 => if v3 = 0 then (bd (ck h1 a0 11) fun _ => bd2 (fX11_deny h1 a0 1) fun v5 h2 => rB v5 h2) else (bd2 (fX11_isVerdict h1 x2) fun v4 h2 => if v4 = 0 then (bd (ck h2 a0 11) fun _ => bd2 (fX11_deny h2 a0 2) fun v6 h3 => rB v6 h3) else (bd (gR h2 a0 11 2) fun b5 => bd (gR h2 b5 5 0) fun b6 => bd (ck h2 b6 4) fun _ => bd2 (fX4_verdictOf h2 b6 x1) fun v8 h3 => if v8 = x2 then (bd (ck h3 a0 11) fun _ => bd2 (fX11_deny h3 a0 5) fun v10 h4 => rB v10 h4) else (bd (gR h3 a0 11 3) fun b9 => bd (gR h3 a0 11 2) fun b10 => bd (gR h3 b10 5 0) fun b11 => bd (ck h3 b9 6) fun _ => bd (fX6_remember h3 b9 b11) fun h4 => bd (gR h4 a0 11 2) fun b13 => bd (gR h4 b13 5 0) fun b14 => bd (ck h4 b14 4) fun _ => bd (fX4_setVerdict h4 b14 x1 x2) fun h5 => bd (ck h5 a0 11) fun _ => bd2 (fX11_allow h5 a0 ) fun v17 h6 => rB v17 h6)))
set_option maxRecDepth 20000 in
theorem tX11_carve {r : Int32} {h' : MH} {h : MH} {a0 : Nat} {x1 : Int32} {x2 : Int32} (hf : fX11_carve h a0 x1 x2 = some (r, h')) : VM mX11_carve 2 (some (.int r)) h' h [.ref a0, .int x1, .int x2] := by
  show V TT mX11_carve 2 _ h' h 0 [.ref a0, .int x1, .int x2] []
  unfold fX11_carve at hf
  refine V.aload_n (q := 1) rfl dX11_carve_0 rfl rfl ?_
  obtain ⟨b1, eb1, hf⟩ := bd_ex hf
  refine V.getR (q := 4) flX11_28 rfl eb1 dX11_carve_1 rfl ?_
  refine V.iload_n (q := 5) rfl dX11_carve_4 rfl rfl ?_
  obtain ⟨_, e2, hf⟩ := bd_ex hf
  obtain ⟨v3, h1, eh1, hf⟩ := bd2_ex hf
  refine V.callV (q := 8) (ci := 5) (vs := [.int x1]) (st := []) (S2 := [.int v3]) okX5_hasRule imX5_hasRule seX5_hasRule rfl lkX11_182 (tX5_hasRule eh1) rfl (ck_is e2) (by decide) rfl (Nat.le_of_ble_eq_true rfl) (Nat.le_of_ble_eq_true rfl) rfl dX11_carve_5 rfl rfl ?_
  refine V.if_ne (q := 11) (tgt := 17) dX11_carve_8 rfl (by decide) (fun c => ?_) (fun c => ?_)
  · rw [if_neg c] at hf
    refine V.iload_n (q := 18) rfl dX11_carve_17 rfl rfl ?_
    obtain ⟨v4, h2, eh2, hf⟩ := bd2_ex hf
    refine V.callS (q := 21) (vs := [.int x2]) (st := []) (S2 := [.int v4]) okX11_isVerdict stX11_isVerdict lkX11_218 (tX11_isVerdict eh2) rfl (by decide) rfl (Nat.le_of_ble_eq_true rfl) (Nat.le_of_ble_eq_true rfl) rfl dX11_carve_18 rfl rfl ?_
    refine V.if_ne (q := 24) (tgt := 30) dX11_carve_21 rfl (by decide) (fun c => ?_) (fun c => ?_)
    · rw [if_neg c] at hf
      refine V.aload_n (q := 31) rfl dX11_carve_30 rfl rfl ?_
      obtain ⟨b5, eb5, hf⟩ := bd_ex hf
      refine V.getR (q := 34) flX11_28 rfl eb5 dX11_carve_31 rfl ?_
      obtain ⟨b6, eb6, hf⟩ := bd_ex hf
      refine V.getR (q := 37) flX11_137 rfl eb6 dX11_carve_34 rfl ?_
      refine V.iload_n (q := 38) rfl dX11_carve_37 rfl rfl ?_
      obtain ⟨_, e7, hf⟩ := bd_ex hf
      obtain ⟨v8, h3, eh3, hf⟩ := bd2_ex hf
      refine V.callV (q := 41) (ci := 4) (vs := [.int x1]) (st := []) (S2 := [.int v8]) okX4_verdictOf imX4_verdictOf seX4_verdictOf rfl lkX11_194 (tX4_verdictOf eh3) rfl (ck_is e7) (by decide) rfl (Nat.le_of_ble_eq_true rfl) (Nat.le_of_ble_eq_true rfl) rfl dX11_carve_38 rfl rfl ?_
      refine V.iload_n (q := 42) rfl dX11_carve_41 rfl rfl ?_
      refine V.icmp_ne (q := 45) (tgt := 51) dX11_carve_42 rfl (by decide) (fun c => ?_) (fun c => ?_)
      · rw [if_neg c] at hf
        refine V.aload_n (q := 52) rfl dX11_carve_51 rfl rfl ?_
        obtain ⟨b9, eb9, hf⟩ := bd_ex hf
        refine V.getR (q := 55) flX11_35 rfl eb9 dX11_carve_52 rfl ?_
        refine V.aload_n (q := 56) rfl dX11_carve_55 rfl rfl ?_
        obtain ⟨b10, eb10, hf⟩ := bd_ex hf
        refine V.getR (q := 59) flX11_28 rfl eb10 dX11_carve_56 rfl ?_
        obtain ⟨b11, eb11, hf⟩ := bd_ex hf
        refine V.getR (q := 62) flX11_137 rfl eb11 dX11_carve_59 rfl ?_
        obtain ⟨_, e12, hf⟩ := bd_ex hf
        obtain ⟨h4, eh4, hf⟩ := bd_ex hf
        refine V.callV (q := 65) (ci := 6) (vs := [.ref b11]) (st := []) (S2 := []) okX6_remember imX6_remember seX6_remember rfl lkX11_339 (tX6_remember eh4) rfl (ck_is e12) (by decide) rfl (Nat.le_of_ble_eq_true rfl) (Nat.le_of_ble_eq_true rfl) rfl dX11_carve_62 rfl rfl ?_
        refine V.aload_n (q := 66) rfl dX11_carve_65 rfl rfl ?_
        obtain ⟨b13, eb13, hf⟩ := bd_ex hf
        refine V.getR (q := 69) flX11_28 rfl eb13 dX11_carve_66 rfl ?_
        obtain ⟨b14, eb14, hf⟩ := bd_ex hf
        refine V.getR (q := 72) flX11_137 rfl eb14 dX11_carve_69 rfl ?_
        refine V.iload_n (q := 73) rfl dX11_carve_72 rfl rfl ?_
        refine V.iload_n (q := 74) rfl dX11_carve_73 rfl rfl ?_
        obtain ⟨_, e15, hf⟩ := bd_ex hf
        obtain ⟨h5, eh5, hf⟩ := bd_ex hf
        refine V.callV (q := 77) (ci := 4) (vs := [.int x1, .int x2]) (st := []) (S2 := []) okX4_setVerdict imX4_setVerdict seX4_setVerdict rfl lkX11_350 (tX4_setVerdict eh5) rfl (ck_is e15) (by decide) rfl (Nat.le_of_ble_eq_true rfl) (Nat.le_of_ble_eq_true rfl) rfl dX11_carve_74 rfl rfl ?_
        refine V.aload_n (q := 78) rfl dX11_carve_77 rfl rfl ?_
        obtain ⟨_, e16, hf⟩ := bd_ex hf
        obtain ⟨v17, h6, eh6, hf⟩ := bd2_ex hf
        refine V.callV (q := 81) (ci := 11) (vs := []) (st := []) (S2 := [.int v17]) okX11_allow imX11_allow seX11_allow rfl lkX11_353 (tX11_allow eh6) rfl (ck_is e16) (by decide) rfl (Nat.le_of_ble_eq_true rfl) (Nat.le_of_ble_eq_true rfl) rfl dX11_carve_78 rfl rfl ?_
        obtain ⟨hb, rfl, rfl⟩ := rB_inj hf
        exact V.ret (r := some (.int v17)) hb dX11_carve_81
      · rw [if_pos c] at hf
        refine V.aload_n (q := 46) rfl dX11_carve_45 rfl rfl ?_
        refine V.iconst (q := 47) (v := 5) (by decide) dX11_carve_46 rfl ?_
        obtain ⟨_, e9, hf⟩ := bd_ex hf
        obtain ⟨v10, h4, eh4, hf⟩ := bd2_ex hf
        refine V.callV (q := 50) (ci := 11) (vs := [.int 5]) (st := []) (S2 := [.int v10]) okX11_deny imX11_deny seX11_deny rfl lkX11_347 (tX11_deny eh4) rfl (ck_is e9) (by decide) rfl (Nat.le_of_ble_eq_true rfl) (Nat.le_of_ble_eq_true rfl) rfl dX11_carve_47 rfl rfl ?_
        obtain ⟨hb, rfl, rfl⟩ := rB_inj hf
        exact V.ret (r := some (.int v10)) hb dX11_carve_50
    · rw [if_pos c] at hf
      refine V.aload_n (q := 25) rfl dX11_carve_24 rfl rfl ?_
      refine V.iconst (q := 26) (v := 2) (by decide) dX11_carve_25 rfl ?_
      obtain ⟨_, e5, hf⟩ := bd_ex hf
      obtain ⟨v6, h3, eh3, hf⟩ := bd2_ex hf
      refine V.callV (q := 29) (ci := 11) (vs := [.int 2]) (st := []) (S2 := [.int v6]) okX11_deny imX11_deny seX11_deny rfl lkX11_347 (tX11_deny eh3) rfl (ck_is e5) (by decide) rfl (Nat.le_of_ble_eq_true rfl) (Nat.le_of_ble_eq_true rfl) rfl dX11_carve_26 rfl rfl ?_
      obtain ⟨hb, rfl, rfl⟩ := rB_inj hf
      exact V.ret (r := some (.int v6)) hb dX11_carve_29
  · rw [if_pos c] at hf
    refine V.aload_n (q := 12) rfl dX11_carve_11 rfl rfl ?_
    refine V.iconst (q := 13) (v := 1) (by decide) dX11_carve_12 rfl ?_
    obtain ⟨_, e4, hf⟩ := bd_ex hf
    obtain ⟨v5, h2, eh2, hf⟩ := bd2_ex hf
    refine V.callV (q := 16) (ci := 11) (vs := [.int 1]) (st := []) (S2 := [.int v5]) okX11_deny imX11_deny seX11_deny rfl lkX11_347 (tX11_deny eh2) rfl (ck_is e4) (by decide) rfl (Nat.le_of_ble_eq_true rfl) (Nat.le_of_ble_eq_true rfl) rfl dX11_carve_13 rfl rfl ?_
    obtain ⟨hb, rfl, rfl⟩ := rB_inj hf
    exact V.ret (r := some (.int v5)) hb dX11_carve_16
def bX2_mostBy_4 (k4 : MH → Nat → Int32 → Int32 → Int32 → Option (Int32 × MH)) (h : MH) (a0 : Nat) (x1 : Int32) (x2 : Int32) (x3 : Int32) : Option (Int32 × MH) := bd (gR h a0 2 0) fun b1 => bd (gR h b1 5 1) fun b2 => bd (gI h b2 7 14) fun v3 => if v3 ≤ x3 then (some (x2, h)) else (bd (ck h a0 2) fun _ => bd2 (fX2_gain h a0 x1 x3) fun v5 h1 => bd (some (mMax x2 v5)) fun v6 => bd (some (x3 + 1)) fun v7 => k4 h1 a0 x1 v6 v7)
set_option maxRecDepth 20000 in
theorem tX2_mostBy_4 {r : Int32} {h' : MH} (k4 : MH → Nat → Int32 → Int32 → Int32 → Option (Int32 × MH)) (hk4 : ∀ (h : MH) (a0 : Nat) (x1 : Int32) (x2 : Int32) (x3 : Int32), k4 h a0 x1 x2 x3 = some (r, h') → V TT mX2_mostBy 3 (some (.int r)) h' h 4 [.ref a0, .int x1, .int x2, .int x3] [])  {h : MH} {a0 : Nat} {x1 : Int32} {x2 : Int32} {x3 : Int32} (hf : bX2_mostBy_4 k4 h a0 x1 x2 x3 = some (r, h')) : V TT mX2_mostBy 3 (some (.int r)) h' h 4 [.ref a0, .int x1, .int x2, .int x3] [] := by
  unfold bX2_mostBy_4 at hf
  refine V.iload_n (q := 5) rfl dX2_mostBy_4 rfl rfl ?_
  refine V.aload_n (q := 6) rfl dX2_mostBy_5 rfl rfl ?_
  obtain ⟨b1, eb1, hf⟩ := bd_ex hf
  refine V.getR (q := 9) flX2_9 rfl eb1 dX2_mostBy_6 rfl ?_
  obtain ⟨b2, eb2, hf⟩ := bd_ex hf
  refine V.getR (q := 12) flX2_31 rfl eb2 dX2_mostBy_9 rfl ?_
  obtain ⟨v3, ev3, hf⟩ := bd_ex hf
  refine V.getI (q := 15) flX2_41 rfl ev3 dX2_mostBy_12 rfl ?_
  refine V.icmp_ge (q := 18) (tgt := 35) dX2_mostBy_15 rfl (by decide) (fun c => ?_) (fun c => ?_)
  · rw [if_pos c] at hf
    refine V.iload_n (q := 36) rfl dX2_mostBy_35 rfl rfl ?_
    obtain ⟨rfl, rfl⟩ := ret_inj hf
    exact V.ret (r := some (.int x2)) trivial dX2_mostBy_36
  · rw [if_neg c] at hf
    refine V.iload_n (q := 19) rfl dX2_mostBy_18 rfl rfl ?_
    refine V.aload_n (q := 20) rfl dX2_mostBy_19 rfl rfl ?_
    refine V.iload_n (q := 21) rfl dX2_mostBy_20 rfl rfl ?_
    refine V.iload_n (q := 22) rfl dX2_mostBy_21 rfl rfl ?_
    obtain ⟨_, e4, hf⟩ := bd_ex hf
    obtain ⟨v5, h1, eh1, hf⟩ := bd2_ex hf
    refine V.callV (q := 25) (ci := 2) (vs := [.int x1, .int x3]) (st := [.int x2]) (S2 := [.int v5, .int x2]) okX2_gain imX2_gain seX2_gain rfl lkX2_45 (tX2_gain eh1) rfl (ck_is e4) (by decide) rfl (Nat.le_of_ble_eq_true rfl) (Nat.le_of_ble_eq_true rfl) rfl dX2_mostBy_22 rfl rfl ?_
    obtain ⟨v6, ev6, hf⟩ := bd_ex hf
    refine V.mMax (q := 28) lkX2_48 (by decide) (Nat.le_of_ble_eq_true rfl) dX2_mostBy_25 rfl ?_
    refine V.topI (Option.some.inj ev6) ?_
    refine V.istore_n (q := 29) (L' := [.ref a0, .int x1, .int v6, .int x3]) rfl dX2_mostBy_28 rfl (by decide) rfl rfl ?_
    obtain ⟨v7, ev7, hf⟩ := bd_ex hf
    refine V.iinc (q := 32) (v := v7) (L' := [.ref a0, .int x1, .int v6, .int v7]) dX2_mostBy_29 rfl rfl (Option.some.inj ev7) (by decide) rfl rfl ?_
    refine V.goto (q := 4) dX2_mostBy_32 (by decide) ?_
    exact hk4 _ _ _ _ _ hf
def fX2_mostBy_4  : Nat → MH → Nat → Int32 → Int32 → Int32 → Option (Int32 × MH)
  | 0 => fun _ _ _ _ _ => none
  | n + 1 => bX2_mostBy_4  (fX2_mostBy_4  n)
theorem tlX2_mostBy_4 {r : Int32} {h' : MH}   : ∀ (n : Nat) (h : MH) (a0 : Nat) (x1 : Int32) (x2 : Int32) (x3 : Int32), fX2_mostBy_4  n h a0 x1 x2 x3 = some (r, h') → V TT mX2_mostBy 3 (some (.int r)) h' h 4 [.ref a0, .int x1, .int x2, .int x3] [] := by
  intro n
  induction n with
  | zero => intro h a0 x1 x2 x3 hf; exact nomatch (show (none : Option (Int32 × MH)) = some (r, h') from hf)
  | succ n ih => intro h a0 x1 x2 x3 hf; exact tX2_mostBy_4  (fX2_mostBy_4  n) ih hf
def fX2_mostBy (h : MH) (a0 : Nat) (x1 : Int32) : Option (Int32 × MH) := fX2_mostBy_4 FU h a0 x1 0 0
set_option maxRecDepth 20000 in
theorem tX2_mostBy {r : Int32} {h' : MH} {h : MH} {a0 : Nat} {x1 : Int32} (hf : fX2_mostBy h a0 x1 = some (r, h')) : VM mX2_mostBy 3 (some (.int r)) h' h [.ref a0, .int x1] := by
  show V TT mX2_mostBy 3 _ h' h 0 [.ref a0, .int x1, Jk, Jk] []
  unfold fX2_mostBy at hf
  refine V.iconst (q := 1) (v := 0) (by decide) dX2_mostBy_0 rfl ?_
  refine V.istore_n (q := 2) (L' := [.ref a0, .int x1, .int 0, Jk]) rfl dX2_mostBy_1 rfl (by decide) rfl rfl ?_
  refine V.iconst (q := 3) (v := 0) (by decide) dX2_mostBy_2 rfl ?_
  refine V.istore_n (q := 4) (L' := [.ref a0, .int x1, .int 0, .int 0]) rfl dX2_mostBy_3 rfl (by decide) rfl rfl ?_
  exact tlX2_mostBy_4  FU _ _ _ _ _ hf
def bX2_leastOfMost_5 (k5 : MH → Nat → Int32 → Int32 → Option (Int32 × MH)) (h : MH) (a0 : Nat) (x1 : Int32) (x2 : Int32) : Option (Int32 × MH) := bd (gR h a0 2 0) fun b1 => bd (gR h b1 5 1) fun b2 => bd (gI h b2 7 15) fun v3 => if v3 ≤ x2 then (some (x1, h)) else (bd (ck h a0 2) fun _ => bd2 (fX2_mostBy h a0 x2) fun v5 h1 => bd (some (mMin x1 v5)) fun v6 => bd (some (x2 + 1)) fun v7 => k5 h1 a0 v6 v7)
set_option maxRecDepth 20000 in
theorem tX2_leastOfMost_5 {r : Int32} {h' : MH} (k5 : MH → Nat → Int32 → Int32 → Option (Int32 × MH)) (hk5 : ∀ (h : MH) (a0 : Nat) (x1 : Int32) (x2 : Int32), k5 h a0 x1 x2 = some (r, h') → V TT mX2_leastOfMost 4 (some (.int r)) h' h 5 [.ref a0, .int x1, .int x2] [])  {h : MH} {a0 : Nat} {x1 : Int32} {x2 : Int32} (hf : bX2_leastOfMost_5 k5 h a0 x1 x2 = some (r, h')) : V TT mX2_leastOfMost 4 (some (.int r)) h' h 5 [.ref a0, .int x1, .int x2] [] := by
  unfold bX2_leastOfMost_5 at hf
  refine V.iload_n (q := 6) rfl dX2_leastOfMost_5 rfl rfl ?_
  refine V.aload_n (q := 7) rfl dX2_leastOfMost_6 rfl rfl ?_
  obtain ⟨b1, eb1, hf⟩ := bd_ex hf
  refine V.getR (q := 10) flX2_9 rfl eb1 dX2_leastOfMost_7 rfl ?_
  obtain ⟨b2, eb2, hf⟩ := bd_ex hf
  refine V.getR (q := 13) flX2_31 rfl eb2 dX2_leastOfMost_10 rfl ?_
  obtain ⟨v3, ev3, hf⟩ := bd_ex hf
  refine V.getI (q := 16) flX2_53 rfl ev3 dX2_leastOfMost_13 rfl ?_
  refine V.icmp_ge (q := 19) (tgt := 35) dX2_leastOfMost_16 rfl (by decide) (fun c => ?_) (fun c => ?_)
  · rw [if_pos c] at hf
    refine V.iload_n (q := 36) rfl dX2_leastOfMost_35 rfl rfl ?_
    obtain ⟨rfl, rfl⟩ := ret_inj hf
    exact V.ret (r := some (.int x1)) trivial dX2_leastOfMost_36
  · rw [if_neg c] at hf
    refine V.iload_n (q := 20) rfl dX2_leastOfMost_19 rfl rfl ?_
    refine V.aload_n (q := 21) rfl dX2_leastOfMost_20 rfl rfl ?_
    refine V.iload_n (q := 22) rfl dX2_leastOfMost_21 rfl rfl ?_
    obtain ⟨_, e4, hf⟩ := bd_ex hf
    obtain ⟨v5, h1, eh1, hf⟩ := bd2_ex hf
    refine V.callV (q := 25) (ci := 2) (vs := [.int x2]) (st := [.int x1]) (S2 := [.int v5, .int x1]) okX2_mostBy imX2_mostBy seX2_mostBy rfl lkX2_59 (tX2_mostBy eh1) rfl (ck_is e4) (by decide) rfl (Nat.le_of_ble_eq_true rfl) (Nat.le_of_ble_eq_true rfl) rfl dX2_leastOfMost_22 rfl rfl ?_
    obtain ⟨v6, ev6, hf⟩ := bd_ex hf
    refine V.mMin (q := 28) lkX2_56 (by decide) (Nat.le_of_ble_eq_true rfl) dX2_leastOfMost_25 rfl ?_
    refine V.topI (Option.some.inj ev6) ?_
    refine V.istore_n (q := 29) (L' := [.ref a0, .int v6, .int x2]) rfl dX2_leastOfMost_28 rfl (by decide) rfl rfl ?_
    obtain ⟨v7, ev7, hf⟩ := bd_ex hf
    refine V.iinc (q := 32) (v := v7) (L' := [.ref a0, .int v6, .int v7]) dX2_leastOfMost_29 rfl rfl (Option.some.inj ev7) (by decide) rfl rfl ?_
    refine V.goto (q := 5) dX2_leastOfMost_32 (by decide) ?_
    exact hk5 _ _ _ _ hf
def fX2_leastOfMost_5  : Nat → MH → Nat → Int32 → Int32 → Option (Int32 × MH)
  | 0 => fun _ _ _ _ => none
  | n + 1 => bX2_leastOfMost_5  (fX2_leastOfMost_5  n)
theorem tlX2_leastOfMost_5 {r : Int32} {h' : MH}   : ∀ (n : Nat) (h : MH) (a0 : Nat) (x1 : Int32) (x2 : Int32), fX2_leastOfMost_5  n h a0 x1 x2 = some (r, h') → V TT mX2_leastOfMost 4 (some (.int r)) h' h 5 [.ref a0, .int x1, .int x2] [] := by
  intro n
  induction n with
  | zero => intro h a0 x1 x2 hf; exact nomatch (show (none : Option (Int32 × MH)) = some (r, h') from hf)
  | succ n ih => intro h a0 x1 x2 hf; exact tX2_leastOfMost_5  (fX2_leastOfMost_5  n) ih hf
def fX2_leastOfMost (h : MH) (a0 : Nat) : Option (Int32 × MH) := fX2_leastOfMost_5 FU h a0 99 0
set_option maxRecDepth 20000 in
theorem tX2_leastOfMost {r : Int32} {h' : MH} {h : MH} {a0 : Nat} (hf : fX2_leastOfMost h a0 = some (r, h')) : VM mX2_leastOfMost 4 (some (.int r)) h' h [.ref a0] := by
  show V TT mX2_leastOfMost 4 _ h' h 0 [.ref a0, Jk, Jk] []
  unfold fX2_leastOfMost at hf
  refine V.bipush (q := 2) (v := 99) (by decide) dX2_leastOfMost_0 rfl ?_
  refine V.istore_n (q := 3) (L' := [.ref a0, .int 99, Jk]) rfl dX2_leastOfMost_2 rfl (by decide) rfl rfl ?_
  refine V.iconst (q := 4) (v := 0) (by decide) dX2_leastOfMost_3 rfl ?_
  refine V.istore_n (q := 5) (L' := [.ref a0, .int 99, .int 0]) rfl dX2_leastOfMost_4 rfl (by decide) rfl rfl ?_
  exact tlX2_leastOfMost_5  FU _ _ _ _ hf
def bX2_stampOfClerk_7 (k7 : MH → Nat → Int32 → Int32 → Option (Int32 × MH)) (h : MH) (a0 : Nat) (x1 : Int32) (x2 : Int32) : Option (Int32 × MH) := bd (gR h a0 2 0) fun b1 => bd (gR h b1 5 1) fun b2 => bd (gI h b2 7 15) fun v3 => if v3 ≤ x2 then (some ((-1), h)) else (bd (ck h a0 2) fun _ => bd2 (fX2_mostBy h a0 x2) fun v5 h1 => if v5 = x1 then (some (x2, h1)) else (bd (some (x2 + 1)) fun v6 => k7 h1 a0 x1 v6))
set_option maxRecDepth 20000 in
theorem tX2_stampOfClerk_7 {r : Int32} {h' : MH} (k7 : MH → Nat → Int32 → Int32 → Option (Int32 × MH)) (hk7 : ∀ (h : MH) (a0 : Nat) (x1 : Int32) (x2 : Int32), k7 h a0 x1 x2 = some (r, h') → V TT mX2_stampOfClerk 5 (some (.int r)) h' h 7 [.ref a0, .int x1, .int x2] [])  {h : MH} {a0 : Nat} {x1 : Int32} {x2 : Int32} (hf : bX2_stampOfClerk_7 k7 h a0 x1 x2 = some (r, h')) : V TT mX2_stampOfClerk 5 (some (.int r)) h' h 7 [.ref a0, .int x1, .int x2] [] := by
  unfold bX2_stampOfClerk_7 at hf
  refine V.iload_n (q := 8) rfl dX2_stampOfClerk_7 rfl rfl ?_
  refine V.aload_n (q := 9) rfl dX2_stampOfClerk_8 rfl rfl ?_
  obtain ⟨b1, eb1, hf⟩ := bd_ex hf
  refine V.getR (q := 12) flX2_9 rfl eb1 dX2_stampOfClerk_9 rfl ?_
  obtain ⟨b2, eb2, hf⟩ := bd_ex hf
  refine V.getR (q := 15) flX2_31 rfl eb2 dX2_stampOfClerk_12 rfl ?_
  obtain ⟨v3, ev3, hf⟩ := bd_ex hf
  refine V.getI (q := 18) flX2_53 rfl ev3 dX2_stampOfClerk_15 rfl ?_
  refine V.icmp_ge (q := 21) (tgt := 38) dX2_stampOfClerk_18 rfl (by decide) (fun c => ?_) (fun c => ?_)
  · rw [if_pos c] at hf
    refine V.iconst (q := 39) (v := (-1)) (by decide) dX2_stampOfClerk_38 rfl ?_
    obtain ⟨rfl, rfl⟩ := ret_inj hf
    exact V.ret (r := some (.int (-1))) trivial dX2_stampOfClerk_39
  · rw [if_neg c] at hf
    refine V.aload_n (q := 22) rfl dX2_stampOfClerk_21 rfl rfl ?_
    refine V.iload_n (q := 23) rfl dX2_stampOfClerk_22 rfl rfl ?_
    obtain ⟨_, e4, hf⟩ := bd_ex hf
    obtain ⟨v5, h1, eh1, hf⟩ := bd2_ex hf
    refine V.callV (q := 26) (ci := 2) (vs := [.int x2]) (st := []) (S2 := [.int v5]) okX2_mostBy imX2_mostBy seX2_mostBy rfl lkX2_59 (tX2_mostBy eh1) rfl (ck_is e4) (by decide) rfl (Nat.le_of_ble_eq_true rfl) (Nat.le_of_ble_eq_true rfl) rfl dX2_stampOfClerk_23 rfl rfl ?_
    refine V.iload_n (q := 27) rfl dX2_stampOfClerk_26 rfl rfl ?_
    refine V.icmp_ne (q := 30) (tgt := 32) dX2_stampOfClerk_27 rfl (by decide) (fun c => ?_) (fun c => ?_)
    · rw [if_neg c] at hf
      obtain ⟨v6, ev6, hf⟩ := bd_ex hf
      refine V.iinc (q := 35) (v := v6) (L' := [.ref a0, .int x1, .int v6]) dX2_stampOfClerk_32 rfl rfl (Option.some.inj ev6) (by decide) rfl rfl ?_
      refine V.goto (q := 7) dX2_stampOfClerk_35 (by decide) ?_
      exact hk7 _ _ _ _ hf
    · rw [if_pos c] at hf
      refine V.iload_n (q := 31) rfl dX2_stampOfClerk_30 rfl rfl ?_
      obtain ⟨rfl, rfl⟩ := ret_inj hf
      exact V.ret (r := some (.int x2)) trivial dX2_stampOfClerk_31
def fX2_stampOfClerk_7  : Nat → MH → Nat → Int32 → Int32 → Option (Int32 × MH)
  | 0 => fun _ _ _ _ => none
  | n + 1 => bX2_stampOfClerk_7  (fX2_stampOfClerk_7  n)
theorem tlX2_stampOfClerk_7 {r : Int32} {h' : MH}   : ∀ (n : Nat) (h : MH) (a0 : Nat) (x1 : Int32) (x2 : Int32), fX2_stampOfClerk_7  n h a0 x1 x2 = some (r, h') → V TT mX2_stampOfClerk 5 (some (.int r)) h' h 7 [.ref a0, .int x1, .int x2] [] := by
  intro n
  induction n with
  | zero => intro h a0 x1 x2 hf; exact nomatch (show (none : Option (Int32 × MH)) = some (r, h') from hf)
  | succ n ih => intro h a0 x1 x2 hf; exact tX2_stampOfClerk_7  (fX2_stampOfClerk_7  n) ih hf
def fX2_stampOfClerk (h : MH) (a0 : Nat) : Option (Int32 × MH) := bd (ck h a0 2) fun _ => bd2 (fX2_leastOfMost h a0 ) fun v2 h1 => fX2_stampOfClerk_7 FU h1 a0 v2 0
set_option maxRecDepth 20000 in
theorem tX2_stampOfClerk {r : Int32} {h' : MH} {h : MH} {a0 : Nat} (hf : fX2_stampOfClerk h a0 = some (r, h')) : VM mX2_stampOfClerk 5 (some (.int r)) h' h [.ref a0] := by
  show V TT mX2_stampOfClerk 5 _ h' h 0 [.ref a0, Jk, Jk] []
  unfold fX2_stampOfClerk at hf
  refine V.aload_n (q := 1) rfl dX2_stampOfClerk_0 rfl rfl ?_
  obtain ⟨_, e1, hf⟩ := bd_ex hf
  obtain ⟨v2, h1, eh1, hf⟩ := bd2_ex hf
  refine V.callV (q := 4) (ci := 2) (vs := []) (st := []) (S2 := [.int v2]) okX2_leastOfMost imX2_leastOfMost seX2_leastOfMost rfl lkX2_65 (tX2_leastOfMost eh1) rfl (ck_is e1) (by decide) rfl (Nat.le_of_ble_eq_true rfl) (Nat.le_of_ble_eq_true rfl) rfl dX2_stampOfClerk_1 rfl rfl ?_
  refine V.istore_n (q := 5) (L' := [.ref a0, .int v2, Jk]) rfl dX2_stampOfClerk_4 rfl (by decide) rfl rfl ?_
  refine V.iconst (q := 6) (v := 0) (by decide) dX2_stampOfClerk_5 rfl ?_
  refine V.istore_n (q := 7) (L' := [.ref a0, .int v2, .int 0]) rfl dX2_stampOfClerk_6 rfl (by decide) rfl rfl ?_
  exact tlX2_stampOfClerk_7  FU _ _ _ _ hf
def fX11_clerkPicks (h : MH) (a0 : Nat) : Option (Int32 × MH) := bd (ck h a0 11) fun _ => bd2 (fX11_troubleOfGame h a0 ) fun v2 h1 => if v2 = 0 then (bd (gR h1 a0 11 7) fun b3 => bd (ck h1 b3 2) fun _ => bd2 (fX2_stampOfClerk h1 b3 ) fun v5 h2 => bd (ck h2 a0 11) fun _ => bd2 (fX11_answer h2 a0 v5) fun v7 h3 => some (v7, h3)) else (bd (ck h1 a0 11) fun _ => bd2 (fX11_refuse h1 a0 v2) fun v4 h2 => some (v4, h2))
set_option maxRecDepth 20000 in
theorem tX11_clerkPicks {r : Int32} {h' : MH} {h : MH} {a0 : Nat} (hf : fX11_clerkPicks h a0 = some (r, h')) : VM mX11_clerkPicks 6 (some (.int r)) h' h [.ref a0] := by
  show V TT mX11_clerkPicks 6 _ h' h 0 [.ref a0, Jk] []
  unfold fX11_clerkPicks at hf
  refine V.aload_n (q := 1) rfl dX11_clerkPicks_0 rfl rfl ?_
  obtain ⟨_, e1, hf⟩ := bd_ex hf
  obtain ⟨v2, h1, eh1, hf⟩ := bd2_ex hf
  refine V.callV (q := 4) (ci := 11) (vs := []) (st := []) (S2 := [.int v2]) okX11_troubleOfGame imX11_troubleOfGame seX11_troubleOfGame rfl lkX11_300 (tX11_troubleOfGame eh1) rfl (ck_is e1) (by decide) rfl (Nat.le_of_ble_eq_true rfl) (Nat.le_of_ble_eq_true rfl) rfl dX11_clerkPicks_1 rfl rfl ?_
  refine V.istore_n (q := 5) (L' := [.ref a0, .int v2]) rfl dX11_clerkPicks_4 rfl (by decide) rfl rfl ?_
  refine V.iload_n (q := 6) rfl dX11_clerkPicks_5 rfl rfl ?_
  refine V.if_eq (q := 9) (tgt := 17) dX11_clerkPicks_6 rfl (by decide) (fun c => ?_) (fun c => ?_)
  · rw [if_pos c] at hf
    refine V.aload_n (q := 18) rfl dX11_clerkPicks_17 rfl rfl ?_
    refine V.aload_n (q := 19) rfl dX11_clerkPicks_18 rfl rfl ?_
    obtain ⟨b3, eb3, hf⟩ := bd_ex hf
    refine V.getR (q := 22) flX11_65 rfl eb3 dX11_clerkPicks_19 rfl ?_
    obtain ⟨_, e4, hf⟩ := bd_ex hf
    obtain ⟨v5, h2, eh2, hf⟩ := bd2_ex hf
    refine V.callV (q := 25) (ci := 2) (vs := []) (st := [.ref a0]) (S2 := [.int v5, .ref a0]) okX2_stampOfClerk imX2_stampOfClerk seX2_stampOfClerk rfl lkX11_309 (tX2_stampOfClerk eh2) rfl (ck_is e4) (by decide) rfl (Nat.le_of_ble_eq_true rfl) (Nat.le_of_ble_eq_true rfl) rfl dX11_clerkPicks_22 rfl rfl ?_
    obtain ⟨_, e6, hf⟩ := bd_ex hf
    obtain ⟨v7, h3, eh3, hf⟩ := bd2_ex hf
    refine V.callV (q := 28) (ci := 11) (vs := [.int v5]) (st := []) (S2 := [.int v7]) okX11_answer imX11_answer seX11_answer rfl lkX11_127 (tX11_answer eh3) rfl (ck_is e6) (by decide) rfl (Nat.le_of_ble_eq_true rfl) (Nat.le_of_ble_eq_true rfl) rfl dX11_clerkPicks_25 rfl rfl ?_
    obtain ⟨rfl, rfl⟩ := ret_inj hf
    exact V.ret (r := some (.int v7)) trivial dX11_clerkPicks_28
  · rw [if_neg c] at hf
    refine V.aload_n (q := 10) rfl dX11_clerkPicks_9 rfl rfl ?_
    refine V.iload_n (q := 11) rfl dX11_clerkPicks_10 rfl rfl ?_
    obtain ⟨_, e3, hf⟩ := bd_ex hf
    obtain ⟨v4, h2, eh2, hf⟩ := bd2_ex hf
    refine V.callV (q := 14) (ci := 11) (vs := [.int v2]) (st := []) (S2 := [.int v4]) okX11_refuse imX11_refuse seX11_refuse rfl lkX11_101 (tX11_refuse eh2) rfl (ck_is e3) (by decide) rfl (Nat.le_of_ble_eq_true rfl) (Nat.le_of_ble_eq_true rfl) rfl dX11_clerkPicks_11 rfl rfl ?_
    refine V.goto (q := 28) dX11_clerkPicks_14 (by decide) ?_
    obtain ⟨rfl, rfl⟩ := ret_inj hf
    exact V.ret (r := some (.int v4)) trivial dX11_clerkPicks_28
def fX11_clerks (h : MH) (a0 : Nat) : Option (Int32 × MH) := bd (ck h a0 11) fun _ => bd2 (fX11_troubleOfGame h a0 ) fun v2 h1 => if v2 = 0 then (bd (gR h1 a0 11 7) fun b3 => bd (ck h1 b3 2) fun _ => bd2 (fX2_leastOfMost h1 b3 ) fun v5 h2 => bd (ck h2 a0 11) fun _ => bd2 (fX11_answer h2 a0 v5) fun v7 h3 => some (v7, h3)) else (bd (ck h1 a0 11) fun _ => bd2 (fX11_refuse h1 a0 v2) fun v4 h2 => some (v4, h2))
set_option maxRecDepth 20000 in
theorem tX11_clerks {r : Int32} {h' : MH} {h : MH} {a0 : Nat} (hf : fX11_clerks h a0 = some (r, h')) : VM mX11_clerks 5 (some (.int r)) h' h [.ref a0] := by
  show V TT mX11_clerks 5 _ h' h 0 [.ref a0, Jk] []
  unfold fX11_clerks at hf
  refine V.aload_n (q := 1) rfl dX11_clerks_0 rfl rfl ?_
  obtain ⟨_, e1, hf⟩ := bd_ex hf
  obtain ⟨v2, h1, eh1, hf⟩ := bd2_ex hf
  refine V.callV (q := 4) (ci := 11) (vs := []) (st := []) (S2 := [.int v2]) okX11_troubleOfGame imX11_troubleOfGame seX11_troubleOfGame rfl lkX11_300 (tX11_troubleOfGame eh1) rfl (ck_is e1) (by decide) rfl (Nat.le_of_ble_eq_true rfl) (Nat.le_of_ble_eq_true rfl) rfl dX11_clerks_1 rfl rfl ?_
  refine V.istore_n (q := 5) (L' := [.ref a0, .int v2]) rfl dX11_clerks_4 rfl (by decide) rfl rfl ?_
  refine V.iload_n (q := 6) rfl dX11_clerks_5 rfl rfl ?_
  refine V.if_eq (q := 9) (tgt := 17) dX11_clerks_6 rfl (by decide) (fun c => ?_) (fun c => ?_)
  · rw [if_pos c] at hf
    refine V.aload_n (q := 18) rfl dX11_clerks_17 rfl rfl ?_
    refine V.aload_n (q := 19) rfl dX11_clerks_18 rfl rfl ?_
    obtain ⟨b3, eb3, hf⟩ := bd_ex hf
    refine V.getR (q := 22) flX11_65 rfl eb3 dX11_clerks_19 rfl ?_
    obtain ⟨_, e4, hf⟩ := bd_ex hf
    obtain ⟨v5, h2, eh2, hf⟩ := bd2_ex hf
    refine V.callV (q := 25) (ci := 2) (vs := []) (st := [.ref a0]) (S2 := [.int v5, .ref a0]) okX2_leastOfMost imX2_leastOfMost seX2_leastOfMost rfl lkX11_303 (tX2_leastOfMost eh2) rfl (ck_is e4) (by decide) rfl (Nat.le_of_ble_eq_true rfl) (Nat.le_of_ble_eq_true rfl) rfl dX11_clerks_22 rfl rfl ?_
    obtain ⟨_, e6, hf⟩ := bd_ex hf
    obtain ⟨v7, h3, eh3, hf⟩ := bd2_ex hf
    refine V.callV (q := 28) (ci := 11) (vs := [.int v5]) (st := []) (S2 := [.int v7]) okX11_answer imX11_answer seX11_answer rfl lkX11_127 (tX11_answer eh3) rfl (ck_is e6) (by decide) rfl (Nat.le_of_ble_eq_true rfl) (Nat.le_of_ble_eq_true rfl) rfl dX11_clerks_25 rfl rfl ?_
    obtain ⟨rfl, rfl⟩ := ret_inj hf
    exact V.ret (r := some (.int v7)) trivial dX11_clerks_28
  · rw [if_neg c] at hf
    refine V.aload_n (q := 10) rfl dX11_clerks_9 rfl rfl ?_
    refine V.iload_n (q := 11) rfl dX11_clerks_10 rfl rfl ?_
    obtain ⟨_, e3, hf⟩ := bd_ex hf
    obtain ⟨v4, h2, eh2, hf⟩ := bd2_ex hf
    refine V.callV (q := 14) (ci := 11) (vs := [.int v2]) (st := []) (S2 := [.int v4]) okX11_refuse imX11_refuse seX11_refuse rfl lkX11_101 (tX11_refuse eh2) rfl (ck_is e3) (by decide) rfl (Nat.le_of_ble_eq_true rfl) (Nat.le_of_ble_eq_true rfl) rfl dX11_clerks_11 rfl rfl ?_
    refine V.goto (q := 28) dX11_clerks_14 (by decide) ?_
    obtain ⟨rfl, rfl⟩ := ret_inj hf
    exact V.ret (r := some (.int v4)) trivial dX11_clerks_28
def fX7_markSets (h : MH) (a0 : Nat) : Option (Int32 × MH) := bd (gI h a0 7 13) fun v1 => some ((1 <<< (v1 &&& 31)), h)
set_option maxRecDepth 20000 in
theorem tX7_markSets {r : Int32} {h' : MH} {h : MH} {a0 : Nat} (hf : fX7_markSets h a0 = some (r, h')) : VM mX7_markSets 0 (some (.int r)) h' h [.ref a0] := by
  show V TT mX7_markSets 0 _ h' h 0 [.ref a0] []
  unfold fX7_markSets at hf
  refine V.iconst (q := 1) (v := 1) (by decide) dX7_markSets_0 rfl ?_
  refine V.aload_n (q := 2) rfl dX7_markSets_1 rfl rfl ?_
  obtain ⟨v1, ev1, hf⟩ := bd_ex hf
  refine V.getI (q := 5) flX7_52 rfl ev1 dX7_markSets_2 rfl ?_
  refine V.ishl (q := 6) dX7_markSets_5 rfl ?_
  obtain ⟨rfl, rfl⟩ := ret_inj hf
  exact V.ret (r := some (.int (1 <<< (v1 &&& 31)))) trivial dX7_markSets_6
def bX5_setsSaidUnlike_5 (k5 : MH → Nat → Int32 → Int32 → Int32 → Int32 → Option (Int32 × MH)) (h : MH) (a0 : Nat) (x1 : Int32) (x2 : Int32) (x3 : Int32) (x4 : Int32) : Option (Int32 × MH) := bd (gR h a0 5 1) fun b1 => bd (ck h b1 7) fun _ => bd2 (fX7_markSets h b1 ) fun v3 h1 => if v3 ≤ x4 then (some (x3, h1)) else (bd (ck h1 a0 5) fun _ => bd2 (fX5_sayOf h1 a0 x1 x4) fun v5 h2 => bd (ck h2 a0 5) fun _ => bd2 (fX5_sayOf h2 a0 x2 x4) fun v7 h3 => if v5 = v7 then (bd (some (x4 + 1)) fun v8 => k5 h3 a0 x1 x2 x3 v8) else (bd (some (x3 + 1)) fun v8 => bd (some (x4 + 1)) fun v9 => k5 h3 a0 x1 x2 v8 v9))
set_option maxRecDepth 20000 in
theorem tX5_setsSaidUnlike_5 {r : Int32} {h' : MH} (k5 : MH → Nat → Int32 → Int32 → Int32 → Int32 → Option (Int32 × MH)) (hk5 : ∀ (h : MH) (a0 : Nat) (x1 : Int32) (x2 : Int32) (x3 : Int32) (x4 : Int32), k5 h a0 x1 x2 x3 x4 = some (r, h') → V TT mX5_setsSaidUnlike 2 (some (.int r)) h' h 5 [.ref a0, .int x1, .int x2, .int x3, .int x4] [])  {h : MH} {a0 : Nat} {x1 : Int32} {x2 : Int32} {x3 : Int32} {x4 : Int32} (hf : bX5_setsSaidUnlike_5 k5 h a0 x1 x2 x3 x4 = some (r, h')) : V TT mX5_setsSaidUnlike 2 (some (.int r)) h' h 5 [.ref a0, .int x1, .int x2, .int x3, .int x4] [] := by
  unfold bX5_setsSaidUnlike_5 at hf
  refine V.iload (q := 7) dX5_setsSaidUnlike_5 rfl rfl ?_
  refine V.aload_n (q := 8) rfl dX5_setsSaidUnlike_7 rfl rfl ?_
  obtain ⟨b1, eb1, hf⟩ := bd_ex hf
  refine V.getR (q := 11) flX5_21 rfl eb1 dX5_setsSaidUnlike_8 rfl ?_
  obtain ⟨_, e2, hf⟩ := bd_ex hf
  obtain ⟨v3, h1, eh1, hf⟩ := bd2_ex hf
  refine V.callV (q := 14) (ci := 7) (vs := []) (st := [.int x4]) (S2 := [.int v3, .int x4]) okX7_markSets imX7_markSets seX7_markSets rfl lkX5_97 (tX7_markSets eh1) rfl (ck_is e2) (by decide) rfl (Nat.le_of_ble_eq_true rfl) (Nat.le_of_ble_eq_true rfl) rfl dX5_setsSaidUnlike_11 rfl rfl ?_
  refine V.icmp_ge (q := 17) (tgt := 43) dX5_setsSaidUnlike_14 rfl (by decide) (fun c => ?_) (fun c => ?_)
  · rw [if_pos c] at hf
    refine V.iload_n (q := 44) rfl dX5_setsSaidUnlike_43 rfl rfl ?_
    obtain ⟨rfl, rfl⟩ := ret_inj hf
    exact V.ret (r := some (.int x3)) trivial dX5_setsSaidUnlike_44
  · rw [if_neg c] at hf
    refine V.aload_n (q := 18) rfl dX5_setsSaidUnlike_17 rfl rfl ?_
    refine V.iload_n (q := 19) rfl dX5_setsSaidUnlike_18 rfl rfl ?_
    refine V.iload (q := 21) dX5_setsSaidUnlike_19 rfl rfl ?_
    obtain ⟨_, e4, hf⟩ := bd_ex hf
    obtain ⟨v5, h2, eh2, hf⟩ := bd2_ex hf
    refine V.callV (q := 24) (ci := 5) (vs := [.int x1, .int x4]) (st := []) (S2 := [.int v5]) okX5_sayOf imX5_sayOf seX5_sayOf rfl lkX5_75 (tX5_sayOf eh2) rfl (ck_is e4) (by decide) rfl (Nat.le_of_ble_eq_true rfl) (Nat.le_of_ble_eq_true rfl) rfl dX5_setsSaidUnlike_21 rfl rfl ?_
    refine V.aload_n (q := 25) rfl dX5_setsSaidUnlike_24 rfl rfl ?_
    refine V.iload_n (q := 26) rfl dX5_setsSaidUnlike_25 rfl rfl ?_
    refine V.iload (q := 28) dX5_setsSaidUnlike_26 rfl rfl ?_
    obtain ⟨_, e6, hf⟩ := bd_ex hf
    obtain ⟨v7, h3, eh3, hf⟩ := bd2_ex hf
    refine V.callV (q := 31) (ci := 5) (vs := [.int x2, .int x4]) (st := [.int v5]) (S2 := [.int v7, .int v5]) okX5_sayOf imX5_sayOf seX5_sayOf rfl lkX5_75 (tX5_sayOf eh3) rfl (ck_is e6) (by decide) rfl (Nat.le_of_ble_eq_true rfl) (Nat.le_of_ble_eq_true rfl) rfl dX5_setsSaidUnlike_28 rfl rfl ?_
    refine V.icmp_eq (q := 34) (tgt := 37) dX5_setsSaidUnlike_31 rfl (by decide) (fun c => ?_) (fun c => ?_)
    · rw [if_pos c] at hf
      obtain ⟨v8, ev8, hf⟩ := bd_ex hf
      refine V.iinc (q := 40) (v := v8) (L' := [.ref a0, .int x1, .int x2, .int x3, .int v8]) dX5_setsSaidUnlike_37 rfl rfl (Option.some.inj ev8) (by decide) rfl rfl ?_
      refine V.goto (q := 5) dX5_setsSaidUnlike_40 (by decide) ?_
      exact hk5 _ _ _ _ _ _ hf
    · rw [if_neg c] at hf
      obtain ⟨v8, ev8, hf⟩ := bd_ex hf
      refine V.iinc (q := 37) (v := v8) (L' := [.ref a0, .int x1, .int x2, .int v8, .int x4]) dX5_setsSaidUnlike_34 rfl rfl (Option.some.inj ev8) (by decide) rfl rfl ?_
      obtain ⟨v9, ev9, hf⟩ := bd_ex hf
      refine V.iinc (q := 40) (v := v9) (L' := [.ref a0, .int x1, .int x2, .int v8, .int v9]) dX5_setsSaidUnlike_37 rfl rfl (Option.some.inj ev9) (by decide) rfl rfl ?_
      refine V.goto (q := 5) dX5_setsSaidUnlike_40 (by decide) ?_
      exact hk5 _ _ _ _ _ _ hf
def fX5_setsSaidUnlike_5  : Nat → MH → Nat → Int32 → Int32 → Int32 → Int32 → Option (Int32 × MH)
  | 0 => fun _ _ _ _ _ _ => none
  | n + 1 => bX5_setsSaidUnlike_5  (fX5_setsSaidUnlike_5  n)
theorem tlX5_setsSaidUnlike_5 {r : Int32} {h' : MH}   : ∀ (n : Nat) (h : MH) (a0 : Nat) (x1 : Int32) (x2 : Int32) (x3 : Int32) (x4 : Int32), fX5_setsSaidUnlike_5  n h a0 x1 x2 x3 x4 = some (r, h') → V TT mX5_setsSaidUnlike 2 (some (.int r)) h' h 5 [.ref a0, .int x1, .int x2, .int x3, .int x4] [] := by
  intro n
  induction n with
  | zero => intro h a0 x1 x2 x3 x4 hf; exact nomatch (show (none : Option (Int32 × MH)) = some (r, h') from hf)
  | succ n ih => intro h a0 x1 x2 x3 x4 hf; exact tX5_setsSaidUnlike_5  (fX5_setsSaidUnlike_5  n) ih hf
def fX5_setsSaidUnlike (h : MH) (a0 : Nat) (x1 : Int32) (x2 : Int32) : Option (Int32 × MH) := fX5_setsSaidUnlike_5 FU h a0 x1 x2 0 0
set_option maxRecDepth 20000 in
theorem tX5_setsSaidUnlike {r : Int32} {h' : MH} {h : MH} {a0 : Nat} {x1 : Int32} {x2 : Int32} (hf : fX5_setsSaidUnlike h a0 x1 x2 = some (r, h')) : VM mX5_setsSaidUnlike 2 (some (.int r)) h' h [.ref a0, .int x1, .int x2] := by
  show V TT mX5_setsSaidUnlike 2 _ h' h 0 [.ref a0, .int x1, .int x2, Jk, Jk] []
  unfold fX5_setsSaidUnlike at hf
  refine V.iconst (q := 1) (v := 0) (by decide) dX5_setsSaidUnlike_0 rfl ?_
  refine V.istore_n (q := 2) (L' := [.ref a0, .int x1, .int x2, .int 0, Jk]) rfl dX5_setsSaidUnlike_1 rfl (by decide) rfl rfl ?_
  refine V.iconst (q := 3) (v := 0) (by decide) dX5_setsSaidUnlike_2 rfl ?_
  refine V.istore (q := 5) (L' := [.ref a0, .int x1, .int x2, .int 0, .int 0]) dX5_setsSaidUnlike_3 rfl (by decide) rfl rfl ?_
  exact tlX5_setsSaidUnlike_5  FU _ _ _ _ _ _ hf
def fX11_differ (h : MH) (a0 : Nat) (x1 : Int32) (x2 : Int32) : Option (Int32 × MH) := bd (gR h a0 11 2) fun b1 => bd (ck h b1 5) fun _ => bd2 (fX5_hasStamp h b1 x1) fun v3 h1 => if v3 = 0 then (bd (ck h1 a0 11) fun _ => bd2 (fX11_refuse h1 a0 1) fun v5 h2 => some (v5, h2)) else (bd (gR h1 a0 11 2) fun b4 => bd (ck h1 b4 5) fun _ => bd2 (fX5_hasStamp h1 b4 x2) fun v6 h2 => if v6 = 0 then (bd (ck h2 a0 11) fun _ => bd2 (fX11_refuse h2 a0 1) fun v8 h3 => some (v8, h3)) else (if x1 = x2 then (bd (ck h2 a0 11) fun _ => bd2 (fX11_refuse h2 a0 1) fun v8 h3 => some (v8, h3)) else (bd (gR h2 a0 11 2) fun b7 => bd (ck h2 b7 5) fun _ => bd2 (fX5_setsSaidUnlike h2 b7 x1 x2) fun v9 h3 => bd (ck h3 a0 11) fun _ => bd2 (fX11_answer h3 a0 v9) fun v11 h4 => some (v11, h4))))
set_option maxRecDepth 20000 in
theorem tX11_differ {r : Int32} {h' : MH} {h : MH} {a0 : Nat} {x1 : Int32} {x2 : Int32} (hf : fX11_differ h a0 x1 x2 = some (r, h')) : VM mX11_differ 3 (some (.int r)) h' h [.ref a0, .int x1, .int x2] := by
  show V TT mX11_differ 3 _ h' h 0 [.ref a0, .int x1, .int x2] []
  unfold fX11_differ at hf
  refine V.aload_n (q := 1) rfl dX11_differ_0 rfl rfl ?_
  obtain ⟨b1, eb1, hf⟩ := bd_ex hf
  refine V.getR (q := 4) flX11_28 rfl eb1 dX11_differ_1 rfl ?_
  refine V.iload_n (q := 5) rfl dX11_differ_4 rfl rfl ?_
  obtain ⟨_, e2, hf⟩ := bd_ex hf
  obtain ⟨v3, h1, eh1, hf⟩ := bd2_ex hf
  refine V.callV (q := 8) (ci := 5) (vs := [.int x1]) (st := []) (S2 := [.int v3]) okX5_hasStamp imX5_hasStamp seX5_hasStamp rfl lkX11_152 (tX5_hasStamp eh1) rfl (ck_is e2) (by decide) rfl (Nat.le_of_ble_eq_true rfl) (Nat.le_of_ble_eq_true rfl) rfl dX11_differ_5 rfl rfl ?_
  refine V.if_eq (q := 11) (tgt := 27) dX11_differ_8 rfl (by decide) (fun c => ?_) (fun c => ?_)
  · rw [if_pos c] at hf
    refine V.aload_n (q := 28) rfl dX11_differ_27 rfl rfl ?_
    refine V.iconst (q := 29) (v := 1) (by decide) dX11_differ_28 rfl ?_
    obtain ⟨_, e4, hf⟩ := bd_ex hf
    obtain ⟨v5, h2, eh2, hf⟩ := bd2_ex hf
    refine V.callV (q := 32) (ci := 11) (vs := [.int 1]) (st := []) (S2 := [.int v5]) okX11_refuse imX11_refuse seX11_refuse rfl lkX11_101 (tX11_refuse eh2) rfl (ck_is e4) (by decide) rfl (Nat.le_of_ble_eq_true rfl) (Nat.le_of_ble_eq_true rfl) rfl dX11_differ_29 rfl rfl ?_
    obtain ⟨rfl, rfl⟩ := ret_inj hf
    exact V.ret (r := some (.int v5)) trivial dX11_differ_32
  · rw [if_neg c] at hf
    refine V.aload_n (q := 12) rfl dX11_differ_11 rfl rfl ?_
    obtain ⟨b4, eb4, hf⟩ := bd_ex hf
    refine V.getR (q := 15) flX11_28 rfl eb4 dX11_differ_12 rfl ?_
    refine V.iload_n (q := 16) rfl dX11_differ_15 rfl rfl ?_
    obtain ⟨_, e5, hf⟩ := bd_ex hf
    obtain ⟨v6, h2, eh2, hf⟩ := bd2_ex hf
    refine V.callV (q := 19) (ci := 5) (vs := [.int x2]) (st := []) (S2 := [.int v6]) okX5_hasStamp imX5_hasStamp seX5_hasStamp rfl lkX11_152 (tX5_hasStamp eh2) rfl (ck_is e5) (by decide) rfl (Nat.le_of_ble_eq_true rfl) (Nat.le_of_ble_eq_true rfl) rfl dX11_differ_16 rfl rfl ?_
    refine V.if_eq (q := 22) (tgt := 27) dX11_differ_19 rfl (by decide) (fun c => ?_) (fun c => ?_)
    · rw [if_pos c] at hf
      refine V.aload_n (q := 28) rfl dX11_differ_27 rfl rfl ?_
      refine V.iconst (q := 29) (v := 1) (by decide) dX11_differ_28 rfl ?_
      obtain ⟨_, e7, hf⟩ := bd_ex hf
      obtain ⟨v8, h3, eh3, hf⟩ := bd2_ex hf
      refine V.callV (q := 32) (ci := 11) (vs := [.int 1]) (st := []) (S2 := [.int v8]) okX11_refuse imX11_refuse seX11_refuse rfl lkX11_101 (tX11_refuse eh3) rfl (ck_is e7) (by decide) rfl (Nat.le_of_ble_eq_true rfl) (Nat.le_of_ble_eq_true rfl) rfl dX11_differ_29 rfl rfl ?_
      obtain ⟨rfl, rfl⟩ := ret_inj hf
      exact V.ret (r := some (.int v8)) trivial dX11_differ_32
    · rw [if_neg c] at hf
      refine V.iload_n (q := 23) rfl dX11_differ_22 rfl rfl ?_
      refine V.iload_n (q := 24) rfl dX11_differ_23 rfl rfl ?_
      refine V.icmp_ne (q := 27) (tgt := 33) dX11_differ_24 rfl (by decide) (fun c => ?_) (fun c => ?_)
      · rw [if_neg c] at hf
        refine V.aload_n (q := 34) rfl dX11_differ_33 rfl rfl ?_
        refine V.aload_n (q := 35) rfl dX11_differ_34 rfl rfl ?_
        obtain ⟨b7, eb7, hf⟩ := bd_ex hf
        refine V.getR (q := 38) flX11_28 rfl eb7 dX11_differ_35 rfl ?_
        refine V.iload_n (q := 39) rfl dX11_differ_38 rfl rfl ?_
        refine V.iload_n (q := 40) rfl dX11_differ_39 rfl rfl ?_
        obtain ⟨_, e8, hf⟩ := bd_ex hf
        obtain ⟨v9, h3, eh3, hf⟩ := bd2_ex hf
        refine V.callV (q := 43) (ci := 5) (vs := [.int x1, .int x2]) (st := [.ref a0]) (S2 := [.int v9, .ref a0]) okX5_setsSaidUnlike imX5_setsSaidUnlike seX5_setsSaidUnlike rfl lkX11_227 (tX5_setsSaidUnlike eh3) rfl (ck_is e8) (by decide) rfl (Nat.le_of_ble_eq_true rfl) (Nat.le_of_ble_eq_true rfl) rfl dX11_differ_40 rfl rfl ?_
        obtain ⟨_, e10, hf⟩ := bd_ex hf
        obtain ⟨v11, h4, eh4, hf⟩ := bd2_ex hf
        refine V.callV (q := 46) (ci := 11) (vs := [.int v9]) (st := []) (S2 := [.int v11]) okX11_answer imX11_answer seX11_answer rfl lkX11_127 (tX11_answer eh4) rfl (ck_is e10) (by decide) rfl (Nat.le_of_ble_eq_true rfl) (Nat.le_of_ble_eq_true rfl) rfl dX11_differ_43 rfl rfl ?_
        obtain ⟨rfl, rfl⟩ := ret_inj hf
        exact V.ret (r := some (.int v11)) trivial dX11_differ_46
      · rw [if_pos c] at hf
        refine V.aload_n (q := 28) rfl dX11_differ_27 rfl rfl ?_
        refine V.iconst (q := 29) (v := 1) (by decide) dX11_differ_28 rfl ?_
        obtain ⟨_, e7, hf⟩ := bd_ex hf
        obtain ⟨v8, h3, eh3, hf⟩ := bd2_ex hf
        refine V.callV (q := 32) (ci := 11) (vs := [.int 1]) (st := []) (S2 := [.int v8]) okX11_refuse imX11_refuse seX11_refuse rfl lkX11_101 (tX11_refuse eh3) rfl (ck_is e7) (by decide) rfl (Nat.le_of_ble_eq_true rfl) (Nat.le_of_ble_eq_true rfl) rfl dX11_differ_29 rfl rfl ?_
        obtain ⟨rfl, rfl⟩ := ret_inj hf
        exact V.ret (r := some (.int v8)) trivial dX11_differ_32
def bX2_evenPairs_20 (k4 : MH → Nat → Int32 → Int32 → Option (Int32 × MH)) (k20 : MH → Nat → Int32 → Int32 → Int32 → Option (Int32 × MH)) (h : MH) (a0 : Nat) (x1 : Int32) (x2 : Int32) (x3 : Int32) : Option (Int32 × MH) := bd (gR h a0 2 0) fun b1 => bd (gR h b1 5 1) fun b2 => bd (gI h b2 7 14) fun v3 => if v3 ≤ x3 then (bd (some (x2 + 1)) fun v4 => k4 h a0 x1 v4) else (bd (ck h a0 2) fun _ => bd2 (fX2_gain h a0 x2 x3) fun v5 h1 => bd (ck h1 a0 2) fun _ => bd2 (fX2_mostBy h1 a0 x2) fun v7 h2 => if v5 = v7 then (bd (ck h2 a0 2) fun _ => bd2 (fX2_leastFor h2 a0 x3) fun v9 h3 => if v5 = v9 then (bd (some (x1 + 1)) fun v10 => bd (some (x3 + 1)) fun v11 => k20 h3 a0 v10 x2 v11) else (bd (some (x3 + 1)) fun v10 => k20 h3 a0 x1 x2 v10)) else (bd (some (x3 + 1)) fun v8 => k20 h2 a0 x1 x2 v8))
set_option maxRecDepth 20000 in
theorem tX2_evenPairs_20 {r : Int32} {h' : MH} (k4 : MH → Nat → Int32 → Int32 → Option (Int32 × MH)) (hk4 : ∀ (h : MH) (a0 : Nat) (x1 : Int32) (x2 : Int32), k4 h a0 x1 x2 = some (r, h') → V TT mX2_evenPairs 4 (some (.int r)) h' h 4 [.ref a0, .int x1, .int x2, Jk, Jk] []) (k20 : MH → Nat → Int32 → Int32 → Int32 → Option (Int32 × MH)) (hk20 : ∀ (h : MH) (a0 : Nat) (x1 : Int32) (x2 : Int32) (x3 : Int32), k20 h a0 x1 x2 x3 = some (r, h') → V TT mX2_evenPairs 4 (some (.int r)) h' h 20 [.ref a0, .int x1, .int x2, .int x3, Jk] [])  {h : MH} {a0 : Nat} {x1 : Int32} {x2 : Int32} {x3 : Int32} (hf : bX2_evenPairs_20 k4 k20 h a0 x1 x2 x3 = some (r, h')) : V TT mX2_evenPairs 4 (some (.int r)) h' h 20 [.ref a0, .int x1, .int x2, .int x3, Jk] [] := by
  unfold bX2_evenPairs_20 at hf
  refine V.iload_n (q := 21) rfl dX2_evenPairs_20 rfl rfl ?_
  refine V.aload_n (q := 22) rfl dX2_evenPairs_21 rfl rfl ?_
  obtain ⟨b1, eb1, hf⟩ := bd_ex hf
  refine V.getR (q := 25) flX2_9 rfl eb1 dX2_evenPairs_22 rfl ?_
  obtain ⟨b2, eb2, hf⟩ := bd_ex hf
  refine V.getR (q := 28) flX2_31 rfl eb2 dX2_evenPairs_25 rfl ?_
  obtain ⟨v3, ev3, hf⟩ := bd_ex hf
  refine V.getI (q := 31) flX2_41 rfl ev3 dX2_evenPairs_28 rfl ?_
  refine V.icmp_ge (q := 34) (tgt := 71) dX2_evenPairs_31 rfl (by decide) (fun c => ?_) (fun c => ?_)
  · rw [if_pos c] at hf
    obtain ⟨v4, ev4, hf⟩ := bd_ex hf
    refine V.iinc (q := 74) (v := v4) (L' := [.ref a0, .int x1, .int v4, .int x3, Jk]) dX2_evenPairs_71 rfl rfl (Option.some.inj ev4) (by decide) rfl rfl ?_
    refine V.goto (q := 4) dX2_evenPairs_74 (by decide) ?_
    refine V.forget (L' := [.ref a0, .int x1, .int v4, Jk, Jk]) ⟨Or.inr rfl, Or.inr rfl, Or.inr rfl, Or.inl rfl, Or.inl rfl, trivial⟩ ?_
    exact hk4 _ _ _ _ hf
  · rw [if_neg c] at hf
    refine V.aload_n (q := 35) rfl dX2_evenPairs_34 rfl rfl ?_
    refine V.iload_n (q := 36) rfl dX2_evenPairs_35 rfl rfl ?_
    refine V.iload_n (q := 37) rfl dX2_evenPairs_36 rfl rfl ?_
    obtain ⟨_, e4, hf⟩ := bd_ex hf
    obtain ⟨v5, h1, eh1, hf⟩ := bd2_ex hf
    refine V.callV (q := 40) (ci := 2) (vs := [.int x2, .int x3]) (st := []) (S2 := [.int v5]) okX2_gain imX2_gain seX2_gain rfl lkX2_45 (tX2_gain eh1) rfl (ck_is e4) (by decide) rfl (Nat.le_of_ble_eq_true rfl) (Nat.le_of_ble_eq_true rfl) rfl dX2_evenPairs_37 rfl rfl ?_
    refine V.istore (q := 42) (L' := [.ref a0, .int x1, .int x2, .int x3, .int v5]) dX2_evenPairs_40 rfl (by decide) rfl rfl ?_
    refine V.iload (q := 44) dX2_evenPairs_42 rfl rfl ?_
    refine V.aload_n (q := 45) rfl dX2_evenPairs_44 rfl rfl ?_
    refine V.iload_n (q := 46) rfl dX2_evenPairs_45 rfl rfl ?_
    obtain ⟨_, e6, hf⟩ := bd_ex hf
    obtain ⟨v7, h2, eh2, hf⟩ := bd2_ex hf
    refine V.callV (q := 49) (ci := 2) (vs := [.int x2]) (st := [.int v5]) (S2 := [.int v7, .int v5]) okX2_mostBy imX2_mostBy seX2_mostBy rfl lkX2_59 (tX2_mostBy eh2) rfl (ck_is e6) (by decide) rfl (Nat.le_of_ble_eq_true rfl) (Nat.le_of_ble_eq_true rfl) rfl dX2_evenPairs_46 rfl rfl ?_
    refine V.icmp_ne (q := 52) (tgt := 65) dX2_evenPairs_49 rfl (by decide) (fun c => ?_) (fun c => ?_)
    · rw [if_neg c] at hf
      obtain ⟨v8, ev8, hf⟩ := bd_ex hf
      refine V.iinc (q := 68) (v := v8) (L' := [.ref a0, .int x1, .int x2, .int v8, .int v5]) dX2_evenPairs_65 rfl rfl (Option.some.inj ev8) (by decide) rfl rfl ?_
      refine V.goto (q := 20) dX2_evenPairs_68 (by decide) ?_
      refine V.forget (L' := [.ref a0, .int x1, .int x2, .int v8, Jk]) ⟨Or.inr rfl, Or.inr rfl, Or.inr rfl, Or.inr rfl, Or.inl rfl, trivial⟩ ?_
      exact hk20 _ _ _ _ _ hf
    · rw [if_pos c] at hf
      refine V.iload (q := 54) dX2_evenPairs_52 rfl rfl ?_
      refine V.aload_n (q := 55) rfl dX2_evenPairs_54 rfl rfl ?_
      refine V.iload_n (q := 56) rfl dX2_evenPairs_55 rfl rfl ?_
      obtain ⟨_, e8, hf⟩ := bd_ex hf
      obtain ⟨v9, h3, eh3, hf⟩ := bd2_ex hf
      refine V.callV (q := 59) (ci := 2) (vs := [.int x3]) (st := [.int v5]) (S2 := [.int v9, .int v5]) okX2_leastFor imX2_leastFor seX2_leastFor rfl lkX2_62 (tX2_leastFor eh3) rfl (ck_is e8) (by decide) rfl (Nat.le_of_ble_eq_true rfl) (Nat.le_of_ble_eq_true rfl) rfl dX2_evenPairs_56 rfl rfl ?_
      refine V.icmp_ne (q := 62) (tgt := 65) dX2_evenPairs_59 rfl (by decide) (fun c => ?_) (fun c => ?_)
      · rw [if_neg c] at hf
        obtain ⟨v10, ev10, hf⟩ := bd_ex hf
        refine V.iinc (q := 68) (v := v10) (L' := [.ref a0, .int x1, .int x2, .int v10, .int v5]) dX2_evenPairs_65 rfl rfl (Option.some.inj ev10) (by decide) rfl rfl ?_
        refine V.goto (q := 20) dX2_evenPairs_68 (by decide) ?_
        refine V.forget (L' := [.ref a0, .int x1, .int x2, .int v10, Jk]) ⟨Or.inr rfl, Or.inr rfl, Or.inr rfl, Or.inr rfl, Or.inl rfl, trivial⟩ ?_
        exact hk20 _ _ _ _ _ hf
      · rw [if_pos c] at hf
        obtain ⟨v10, ev10, hf⟩ := bd_ex hf
        refine V.iinc (q := 65) (v := v10) (L' := [.ref a0, .int v10, .int x2, .int x3, .int v5]) dX2_evenPairs_62 rfl rfl (Option.some.inj ev10) (by decide) rfl rfl ?_
        obtain ⟨v11, ev11, hf⟩ := bd_ex hf
        refine V.iinc (q := 68) (v := v11) (L' := [.ref a0, .int v10, .int x2, .int v11, .int v5]) dX2_evenPairs_65 rfl rfl (Option.some.inj ev11) (by decide) rfl rfl ?_
        refine V.goto (q := 20) dX2_evenPairs_68 (by decide) ?_
        refine V.forget (L' := [.ref a0, .int v10, .int x2, .int v11, Jk]) ⟨Or.inr rfl, Or.inr rfl, Or.inr rfl, Or.inr rfl, Or.inl rfl, trivial⟩ ?_
        exact hk20 _ _ _ _ _ hf
def fX2_evenPairs_20 (k4 : MH → Nat → Int32 → Int32 → Option (Int32 × MH)) : Nat → MH → Nat → Int32 → Int32 → Int32 → Option (Int32 × MH)
  | 0 => fun _ _ _ _ _ => none
  | n + 1 => bX2_evenPairs_20 k4 (fX2_evenPairs_20 k4 n)
theorem tlX2_evenPairs_20 {r : Int32} {h' : MH} (k4 : MH → Nat → Int32 → Int32 → Option (Int32 × MH)) (hk4 : ∀ (h : MH) (a0 : Nat) (x1 : Int32) (x2 : Int32), k4 h a0 x1 x2 = some (r, h') → V TT mX2_evenPairs 4 (some (.int r)) h' h 4 [.ref a0, .int x1, .int x2, Jk, Jk] [])  : ∀ (n : Nat) (h : MH) (a0 : Nat) (x1 : Int32) (x2 : Int32) (x3 : Int32), fX2_evenPairs_20 k4 n h a0 x1 x2 x3 = some (r, h') → V TT mX2_evenPairs 4 (some (.int r)) h' h 20 [.ref a0, .int x1, .int x2, .int x3, Jk] [] := by
  intro n
  induction n with
  | zero => intro h a0 x1 x2 x3 hf; exact nomatch (show (none : Option (Int32 × MH)) = some (r, h') from hf)
  | succ n ih => intro h a0 x1 x2 x3 hf; exact tX2_evenPairs_20 k4 hk4 (fX2_evenPairs_20 k4 n) ih hf
def bX2_evenPairs_4 (k4 : MH → Nat → Int32 → Int32 → Option (Int32 × MH)) (h : MH) (a0 : Nat) (x1 : Int32) (x2 : Int32) : Option (Int32 × MH) := bd (gR h a0 2 0) fun b1 => bd (gR h b1 5 1) fun b2 => bd (gI h b2 7 15) fun v3 => if v3 ≤ x2 then (some (x1, h)) else (fX2_evenPairs_20 k4 FU h a0 x1 x2 0)
set_option maxRecDepth 20000 in
theorem tX2_evenPairs_4 {r : Int32} {h' : MH} (k4 : MH → Nat → Int32 → Int32 → Option (Int32 × MH)) (hk4 : ∀ (h : MH) (a0 : Nat) (x1 : Int32) (x2 : Int32), k4 h a0 x1 x2 = some (r, h') → V TT mX2_evenPairs 4 (some (.int r)) h' h 4 [.ref a0, .int x1, .int x2, Jk, Jk] [])  {h : MH} {a0 : Nat} {x1 : Int32} {x2 : Int32} (hf : bX2_evenPairs_4 k4 h a0 x1 x2 = some (r, h')) : V TT mX2_evenPairs 4 (some (.int r)) h' h 4 [.ref a0, .int x1, .int x2, Jk, Jk] [] := by
  unfold bX2_evenPairs_4 at hf
  refine V.iload_n (q := 5) rfl dX2_evenPairs_4 rfl rfl ?_
  refine V.aload_n (q := 6) rfl dX2_evenPairs_5 rfl rfl ?_
  obtain ⟨b1, eb1, hf⟩ := bd_ex hf
  refine V.getR (q := 9) flX2_9 rfl eb1 dX2_evenPairs_6 rfl ?_
  obtain ⟨b2, eb2, hf⟩ := bd_ex hf
  refine V.getR (q := 12) flX2_31 rfl eb2 dX2_evenPairs_9 rfl ?_
  obtain ⟨v3, ev3, hf⟩ := bd_ex hf
  refine V.getI (q := 15) flX2_53 rfl ev3 dX2_evenPairs_12 rfl ?_
  refine V.icmp_ge (q := 18) (tgt := 77) dX2_evenPairs_15 rfl (by decide) (fun c => ?_) (fun c => ?_)
  · rw [if_pos c] at hf
    refine V.iload_n (q := 78) rfl dX2_evenPairs_77 rfl rfl ?_
    obtain ⟨rfl, rfl⟩ := ret_inj hf
    exact V.ret (r := some (.int x1)) trivial dX2_evenPairs_78
  · rw [if_neg c] at hf
    refine V.iconst (q := 19) (v := 0) (by decide) dX2_evenPairs_18 rfl ?_
    refine V.istore_n (q := 20) (L' := [.ref a0, .int x1, .int x2, .int 0, Jk]) rfl dX2_evenPairs_19 rfl (by decide) rfl rfl ?_
    exact tlX2_evenPairs_20 k4 hk4 FU _ _ _ _ _ hf
def fX2_evenPairs_4  : Nat → MH → Nat → Int32 → Int32 → Option (Int32 × MH)
  | 0 => fun _ _ _ _ => none
  | n + 1 => bX2_evenPairs_4  (fX2_evenPairs_4  n)
theorem tlX2_evenPairs_4 {r : Int32} {h' : MH}   : ∀ (n : Nat) (h : MH) (a0 : Nat) (x1 : Int32) (x2 : Int32), fX2_evenPairs_4  n h a0 x1 x2 = some (r, h') → V TT mX2_evenPairs 4 (some (.int r)) h' h 4 [.ref a0, .int x1, .int x2, Jk, Jk] [] := by
  intro n
  induction n with
  | zero => intro h a0 x1 x2 hf; exact nomatch (show (none : Option (Int32 × MH)) = some (r, h') from hf)
  | succ n ih => intro h a0 x1 x2 hf; exact tX2_evenPairs_4  (fX2_evenPairs_4  n) ih hf
def fX2_evenPairs (h : MH) (a0 : Nat) : Option (Int32 × MH) := fX2_evenPairs_4 FU h a0 0 0
set_option maxRecDepth 20000 in
theorem tX2_evenPairs {r : Int32} {h' : MH} {h : MH} {a0 : Nat} (hf : fX2_evenPairs h a0 = some (r, h')) : VM mX2_evenPairs 4 (some (.int r)) h' h [.ref a0] := by
  show V TT mX2_evenPairs 4 _ h' h 0 [.ref a0, Jk, Jk, Jk, Jk] []
  unfold fX2_evenPairs at hf
  refine V.iconst (q := 1) (v := 0) (by decide) dX2_evenPairs_0 rfl ?_
  refine V.istore_n (q := 2) (L' := [.ref a0, .int 0, Jk, Jk, Jk]) rfl dX2_evenPairs_1 rfl (by decide) rfl rfl ?_
  refine V.iconst (q := 3) (v := 0) (by decide) dX2_evenPairs_2 rfl ?_
  refine V.istore_n (q := 4) (L' := [.ref a0, .int 0, .int 0, Jk, Jk]) rfl dX2_evenPairs_3 rfl (by decide) rfl rfl ?_
  exact tlX2_evenPairs_4  FU _ _ _ _ hf
def fX11_even (h : MH) (a0 : Nat) : Option (Int32 × MH) := bd (ck h a0 11) fun _ => bd2 (fX11_troubleOfGame h a0 ) fun v2 h1 => if v2 = 0 then (bd (gR h1 a0 11 7) fun b3 => bd (ck h1 b3 2) fun _ => bd2 (fX2_evenPairs h1 b3 ) fun v5 h2 => bd (ck h2 a0 11) fun _ => bd2 (fX11_answer h2 a0 v5) fun v7 h3 => some (v7, h3)) else (bd (ck h1 a0 11) fun _ => bd2 (fX11_refuse h1 a0 v2) fun v4 h2 => some (v4, h2))
set_option maxRecDepth 20000 in
theorem tX11_even {r : Int32} {h' : MH} {h : MH} {a0 : Nat} (hf : fX11_even h a0 = some (r, h')) : VM mX11_even 5 (some (.int r)) h' h [.ref a0] := by
  show V TT mX11_even 5 _ h' h 0 [.ref a0, Jk] []
  unfold fX11_even at hf
  refine V.aload_n (q := 1) rfl dX11_even_0 rfl rfl ?_
  obtain ⟨_, e1, hf⟩ := bd_ex hf
  obtain ⟨v2, h1, eh1, hf⟩ := bd2_ex hf
  refine V.callV (q := 4) (ci := 11) (vs := []) (st := []) (S2 := [.int v2]) okX11_troubleOfGame imX11_troubleOfGame seX11_troubleOfGame rfl lkX11_300 (tX11_troubleOfGame eh1) rfl (ck_is e1) (by decide) rfl (Nat.le_of_ble_eq_true rfl) (Nat.le_of_ble_eq_true rfl) rfl dX11_even_1 rfl rfl ?_
  refine V.istore_n (q := 5) (L' := [.ref a0, .int v2]) rfl dX11_even_4 rfl (by decide) rfl rfl ?_
  refine V.iload_n (q := 6) rfl dX11_even_5 rfl rfl ?_
  refine V.if_eq (q := 9) (tgt := 17) dX11_even_6 rfl (by decide) (fun c => ?_) (fun c => ?_)
  · rw [if_pos c] at hf
    refine V.aload_n (q := 18) rfl dX11_even_17 rfl rfl ?_
    refine V.aload_n (q := 19) rfl dX11_even_18 rfl rfl ?_
    obtain ⟨b3, eb3, hf⟩ := bd_ex hf
    refine V.getR (q := 22) flX11_65 rfl eb3 dX11_even_19 rfl ?_
    obtain ⟨_, e4, hf⟩ := bd_ex hf
    obtain ⟨v5, h2, eh2, hf⟩ := bd2_ex hf
    refine V.callV (q := 25) (ci := 2) (vs := []) (st := [.ref a0]) (S2 := [.int v5, .ref a0]) okX2_evenPairs imX2_evenPairs seX2_evenPairs rfl lkX11_312 (tX2_evenPairs eh2) rfl (ck_is e4) (by decide) rfl (Nat.le_of_ble_eq_true rfl) (Nat.le_of_ble_eq_true rfl) rfl dX11_even_22 rfl rfl ?_
    obtain ⟨_, e6, hf⟩ := bd_ex hf
    obtain ⟨v7, h3, eh3, hf⟩ := bd2_ex hf
    refine V.callV (q := 28) (ci := 11) (vs := [.int v5]) (st := []) (S2 := [.int v7]) okX11_answer imX11_answer seX11_answer rfl lkX11_127 (tX11_answer eh3) rfl (ck_is e6) (by decide) rfl (Nat.le_of_ble_eq_true rfl) (Nat.le_of_ble_eq_true rfl) rfl dX11_even_25 rfl rfl ?_
    obtain ⟨rfl, rfl⟩ := ret_inj hf
    exact V.ret (r := some (.int v7)) trivial dX11_even_28
  · rw [if_neg c] at hf
    refine V.aload_n (q := 10) rfl dX11_even_9 rfl rfl ?_
    refine V.iload_n (q := 11) rfl dX11_even_10 rfl rfl ?_
    obtain ⟨_, e3, hf⟩ := bd_ex hf
    obtain ⟨v4, h2, eh2, hf⟩ := bd2_ex hf
    refine V.callV (q := 14) (ci := 11) (vs := [.int v2]) (st := []) (S2 := [.int v4]) okX11_refuse imX11_refuse seX11_refuse rfl lkX11_101 (tX11_refuse eh2) rfl (ck_is e3) (by decide) rfl (Nat.le_of_ble_eq_true rfl) (Nat.le_of_ble_eq_true rfl) rfl dX11_even_11 rfl rfl ?_
    refine V.goto (q := 28) dX11_even_14 (by decide) ?_
    obtain ⟨rfl, rfl⟩ := ret_inj hf
    exact V.ret (r := some (.int v4)) trivial dX11_even_28
def fX11_fault (h : MH) (a0 : Nat) : Option (Int32 × MH) := bd (gI h a0 11 11) fun v1 => some (v1, h)
set_option maxRecDepth 20000 in
theorem tX11_fault {r : Int32} {h' : MH} {h : MH} {a0 : Nat} (hf : fX11_fault h a0 = some (r, h')) : VM mX11_fault 0 (some (.int r)) h' h [.ref a0] := by
  show V TT mX11_fault 0 _ h' h 0 [.ref a0] []
  unfold fX11_fault at hf
  refine V.aload_n (q := 1) rfl dX11_fault_0 rfl rfl ?_
  obtain ⟨v1, ev1, hf⟩ := bd_ex hf
  refine V.getI (q := 4) flX11_84 rfl ev1 dX11_fault_1 rfl ?_
  obtain ⟨rfl, rfl⟩ := ret_inj hf
  exact V.ret (r := some (.int v1)) trivial dX11_fault_4
def fX11_feed (h : MH) (a0 : Nat) (x1 : Int32) (x2 : Int32) (x3 : Int32) (x4 : Int32) (x5 : Int32) : Option (Int32 × MH) := bd (gR h a0 11 0) fun b1 => bd (ck h b1 10) fun _ => bd2 (fX10_hasRoom h b1 ) fun v3 h1 => if v3 = 0 then (some ((-1), h1)) else (bd (gR h1 a0 11 0) fun b4 => bd (ck h1 b4 10) fun _ => bd (fX10_put h1 b4 x1) fun h2 => bd (gR h2 a0 11 0) fun b6 => bd (ck h2 b6 10) fun _ => bd (fX10_put h2 b6 x2) fun h3 => bd (gR h3 a0 11 0) fun b8 => bd (ck h3 b8 10) fun _ => bd (fX10_put h3 b8 x3) fun h4 => bd (gR h4 a0 11 0) fun b10 => bd (ck h4 b10 10) fun _ => bd (fX10_put h4 b10 x4) fun h5 => bd (gR h5 a0 11 0) fun b12 => bd (ck h5 b12 10) fun _ => bd (fX10_put h5 b12 x5) fun h6 => bd (gR h6 a0 11 0) fun b14 => bd (gI h6 b14 10 1) fun v15 => some (v15, h6))
set_option maxRecDepth 20000 in
theorem tX11_feed {r : Int32} {h' : MH} {h : MH} {a0 : Nat} {x1 : Int32} {x2 : Int32} {x3 : Int32} {x4 : Int32} {x5 : Int32} (hf : fX11_feed h a0 x1 x2 x3 x4 x5 = some (r, h')) : VM mX11_feed 1 (some (.int r)) h' h [.ref a0, .int x1, .int x2, .int x3, .int x4, .int x5] := by
  show V TT mX11_feed 1 _ h' h 0 [.ref a0, .int x1, .int x2, .int x3, .int x4, .int x5] []
  unfold fX11_feed at hf
  refine V.aload_n (q := 1) rfl dX11_feed_0 rfl rfl ?_
  obtain ⟨b1, eb1, hf⟩ := bd_ex hf
  refine V.getR (q := 4) flX11_10 rfl eb1 dX11_feed_1 rfl ?_
  obtain ⟨_, e2, hf⟩ := bd_ex hf
  obtain ⟨v3, h1, eh1, hf⟩ := bd2_ex hf
  refine V.callV (q := 7) (ci := 10) (vs := []) (st := []) (S2 := [.int v3]) okX10_hasRoom imX10_hasRoom seX10_hasRoom rfl lkX11_90 (tX10_hasRoom eh1) rfl (ck_is e2) (by decide) rfl (Nat.le_of_ble_eq_true rfl) (Nat.le_of_ble_eq_true rfl) rfl dX11_feed_4 rfl rfl ?_
  refine V.if_ne (q := 10) (tgt := 12) dX11_feed_7 rfl (by decide) (fun c => ?_) (fun c => ?_)
  · rw [if_neg c] at hf
    refine V.aload_n (q := 13) rfl dX11_feed_12 rfl rfl ?_
    obtain ⟨b4, eb4, hf⟩ := bd_ex hf
    refine V.getR (q := 16) flX11_10 rfl eb4 dX11_feed_13 rfl ?_
    refine V.iload_n (q := 17) rfl dX11_feed_16 rfl rfl ?_
    obtain ⟨_, e5, hf⟩ := bd_ex hf
    obtain ⟨h2, eh2, hf⟩ := bd_ex hf
    refine V.callV (q := 20) (ci := 10) (vs := [.int x1]) (st := []) (S2 := []) okX10_put imX10_put seX10_put rfl lkX11_94 (tX10_put eh2) rfl (ck_is e5) (by decide) rfl (Nat.le_of_ble_eq_true rfl) (Nat.le_of_ble_eq_true rfl) rfl dX11_feed_17 rfl rfl ?_
    refine V.aload_n (q := 21) rfl dX11_feed_20 rfl rfl ?_
    obtain ⟨b6, eb6, hf⟩ := bd_ex hf
    refine V.getR (q := 24) flX11_10 rfl eb6 dX11_feed_21 rfl ?_
    refine V.iload_n (q := 25) rfl dX11_feed_24 rfl rfl ?_
    obtain ⟨_, e7, hf⟩ := bd_ex hf
    obtain ⟨h3, eh3, hf⟩ := bd_ex hf
    refine V.callV (q := 28) (ci := 10) (vs := [.int x2]) (st := []) (S2 := []) okX10_put imX10_put seX10_put rfl lkX11_94 (tX10_put eh3) rfl (ck_is e7) (by decide) rfl (Nat.le_of_ble_eq_true rfl) (Nat.le_of_ble_eq_true rfl) rfl dX11_feed_25 rfl rfl ?_
    refine V.aload_n (q := 29) rfl dX11_feed_28 rfl rfl ?_
    obtain ⟨b8, eb8, hf⟩ := bd_ex hf
    refine V.getR (q := 32) flX11_10 rfl eb8 dX11_feed_29 rfl ?_
    refine V.iload_n (q := 33) rfl dX11_feed_32 rfl rfl ?_
    obtain ⟨_, e9, hf⟩ := bd_ex hf
    obtain ⟨h4, eh4, hf⟩ := bd_ex hf
    refine V.callV (q := 36) (ci := 10) (vs := [.int x3]) (st := []) (S2 := []) okX10_put imX10_put seX10_put rfl lkX11_94 (tX10_put eh4) rfl (ck_is e9) (by decide) rfl (Nat.le_of_ble_eq_true rfl) (Nat.le_of_ble_eq_true rfl) rfl dX11_feed_33 rfl rfl ?_
    refine V.aload_n (q := 37) rfl dX11_feed_36 rfl rfl ?_
    obtain ⟨b10, eb10, hf⟩ := bd_ex hf
    refine V.getR (q := 40) flX11_10 rfl eb10 dX11_feed_37 rfl ?_
    refine V.iload (q := 42) dX11_feed_40 rfl rfl ?_
    obtain ⟨_, e11, hf⟩ := bd_ex hf
    obtain ⟨h5, eh5, hf⟩ := bd_ex hf
    refine V.callV (q := 45) (ci := 10) (vs := [.int x4]) (st := []) (S2 := []) okX10_put imX10_put seX10_put rfl lkX11_94 (tX10_put eh5) rfl (ck_is e11) (by decide) rfl (Nat.le_of_ble_eq_true rfl) (Nat.le_of_ble_eq_true rfl) rfl dX11_feed_42 rfl rfl ?_
    refine V.aload_n (q := 46) rfl dX11_feed_45 rfl rfl ?_
    obtain ⟨b12, eb12, hf⟩ := bd_ex hf
    refine V.getR (q := 49) flX11_10 rfl eb12 dX11_feed_46 rfl ?_
    refine V.iload (q := 51) dX11_feed_49 rfl rfl ?_
    obtain ⟨_, e13, hf⟩ := bd_ex hf
    obtain ⟨h6, eh6, hf⟩ := bd_ex hf
    refine V.callV (q := 54) (ci := 10) (vs := [.int x5]) (st := []) (S2 := []) okX10_put imX10_put seX10_put rfl lkX11_94 (tX10_put eh6) rfl (ck_is e13) (by decide) rfl (Nat.le_of_ble_eq_true rfl) (Nat.le_of_ble_eq_true rfl) rfl dX11_feed_51 rfl rfl ?_
    refine V.aload_n (q := 55) rfl dX11_feed_54 rfl rfl ?_
    obtain ⟨b14, eb14, hf⟩ := bd_ex hf
    refine V.getR (q := 58) flX11_10 rfl eb14 dX11_feed_55 rfl ?_
    obtain ⟨v15, ev15, hf⟩ := bd_ex hf
    refine V.getI (q := 61) flX11_98 rfl ev15 dX11_feed_58 rfl ?_
    obtain ⟨rfl, rfl⟩ := ret_inj hf
    exact V.ret (r := some (.int v15)) trivial dX11_feed_61
  · rw [if_pos c] at hf
    refine V.iconst (q := 11) (v := (-1)) (by decide) dX11_feed_10 rfl ?_
    obtain ⟨rfl, rfl⟩ := ret_inj hf
    exact V.ret (r := some (.int (-1))) trivial dX11_feed_11
def fX4_inkOf (h : MH) (a0 : Nat) (x1 : Int32) : Option (Int32 × MH) := bd (gR h a0 4 0) fun b1 => bd (lI h b1 (10 + x1)) fun v2 => some (v2, h)
set_option maxRecDepth 20000 in
theorem tX4_inkOf {r : Int32} {h' : MH} {h : MH} {a0 : Nat} {x1 : Int32} (hf : fX4_inkOf h a0 x1 = some (r, h')) : VM mX4_inkOf 0 (some (.int r)) h' h [.ref a0, .int x1] := by
  show V TT mX4_inkOf 0 _ h' h 0 [.ref a0, .int x1] []
  unfold fX4_inkOf at hf
  refine V.aload_n (q := 1) rfl dX4_inkOf_0 rfl rfl ?_
  obtain ⟨b1, eb1, hf⟩ := bd_ex hf
  refine V.getR (q := 4) flX4_11 rfl eb1 dX4_inkOf_1 rfl ?_
  refine V.bipush (q := 6) (v := 10) (by decide) dX4_inkOf_4 rfl ?_
  refine V.iload_n (q := 7) rfl dX4_inkOf_6 rfl rfl ?_
  refine V.iadd (q := 8) dX4_inkOf_7 rfl ?_
  obtain ⟨v2, ev2, hf⟩ := bd_ex hf
  refine V.iald (q := 9) ev2 dX4_inkOf_8 rfl ?_
  obtain ⟨rfl, rfl⟩ := ret_inj hf
  exact V.ret (r := some (.int v2)) trivial dX4_inkOf_9
def fX4_setInk (h : MH) (a0 : Nat) (x1 : Int32) (x2 : Int32) : Option (MH) := bd (gR h a0 4 0) fun b1 => bd (tI h b1 (10 + x1) x2) fun h1 => some h1
set_option maxRecDepth 20000 in
theorem tX4_setInk {h' : MH} {h : MH} {a0 : Nat} {x1 : Int32} {x2 : Int32} (hf : fX4_setInk h a0 x1 x2 = some h') : VM mX4_setInk 0 none h' h [.ref a0, .int x1, .int x2] := by
  show V TT mX4_setInk 0 _ h' h 0 [.ref a0, .int x1, .int x2] []
  unfold fX4_setInk at hf
  refine V.aload_n (q := 1) rfl dX4_setInk_0 rfl rfl ?_
  obtain ⟨b1, eb1, hf⟩ := bd_ex hf
  refine V.getR (q := 4) flX4_11 rfl eb1 dX4_setInk_1 rfl ?_
  refine V.bipush (q := 6) (v := 10) (by decide) dX4_setInk_4 rfl ?_
  refine V.iload_n (q := 7) rfl dX4_setInk_6 rfl rfl ?_
  refine V.iadd (q := 8) dX4_setInk_7 rfl ?_
  refine V.iload_n (q := 9) rfl dX4_setInk_8 rfl rfl ?_
  obtain ⟨h1, eh1, hf⟩ := bd_ex hf
  refine V.iast (q := 10) eh1 dX4_setInk_9 rfl ?_
  cases hf
  exact V.ret (r := none) trivial dX4_setInk_10
def fX11_fill (h : MH) (a0 : Nat) (x1 : Int32) (x2 : Int32) : Option (Int32 × MH) := bd (gR h a0 11 2) fun b1 => bd (ck h b1 5) fun _ => bd2 (fX5_hasStamp h b1 x1) fun v3 h1 => if v3 = 0 then (bd (ck h1 a0 11) fun _ => bd2 (fX11_deny h1 a0 1) fun v5 h2 => rB v5 h2) else (if x2 < 1 then (bd (ck h1 a0 11) fun _ => bd2 (fX11_deny h1 a0 2) fun v5 h2 => rB v5 h2) else (if x2 ≤ 9 then (bd (gR h1 a0 11 2) fun b4 => bd (gR h1 b4 5 0) fun b5 => bd (ck h1 b5 4) fun _ => bd2 (fX4_inkOf h1 b5 x1) fun v7 h2 => if v7 < x2 then (bd (gR h2 a0 11 3) fun b8 => bd (gR h2 a0 11 2) fun b9 => bd (gR h2 b9 5 0) fun b10 => bd (ck h2 b8 6) fun _ => bd (fX6_remember h2 b8 b10) fun h3 => bd (gR h3 a0 11 2) fun b12 => bd (gR h3 b12 5 0) fun b13 => bd (ck h3 b13 4) fun _ => bd (fX4_setInk h3 b13 x1 x2) fun h4 => bd (ck h4 a0 11) fun _ => bd2 (fX11_allow h4 a0 ) fun v16 h5 => rB v16 h5) else (bd (ck h2 a0 11) fun _ => bd2 (fX11_deny h2 a0 5) fun v9 h3 => rB v9 h3)) else (bd (ck h1 a0 11) fun _ => bd2 (fX11_deny h1 a0 2) fun v5 h2 => rB v5 h2)))
set_option maxRecDepth 20000 in
theorem tX11_fill {r : Int32} {h' : MH} {h : MH} {a0 : Nat} {x1 : Int32} {x2 : Int32} (hf : fX11_fill h a0 x1 x2 = some (r, h')) : VM mX11_fill 2 (some (.int r)) h' h [.ref a0, .int x1, .int x2] := by
  show V TT mX11_fill 2 _ h' h 0 [.ref a0, .int x1, .int x2] []
  unfold fX11_fill at hf
  refine V.aload_n (q := 1) rfl dX11_fill_0 rfl rfl ?_
  obtain ⟨b1, eb1, hf⟩ := bd_ex hf
  refine V.getR (q := 4) flX11_28 rfl eb1 dX11_fill_1 rfl ?_
  refine V.iload_n (q := 5) rfl dX11_fill_4 rfl rfl ?_
  obtain ⟨_, e2, hf⟩ := bd_ex hf
  obtain ⟨v3, h1, eh1, hf⟩ := bd2_ex hf
  refine V.callV (q := 8) (ci := 5) (vs := [.int x1]) (st := []) (S2 := [.int v3]) okX5_hasStamp imX5_hasStamp seX5_hasStamp rfl lkX11_152 (tX5_hasStamp eh1) rfl (ck_is e2) (by decide) rfl (Nat.le_of_ble_eq_true rfl) (Nat.le_of_ble_eq_true rfl) rfl dX11_fill_5 rfl rfl ?_
  refine V.if_ne (q := 11) (tgt := 17) dX11_fill_8 rfl (by decide) (fun c => ?_) (fun c => ?_)
  · rw [if_neg c] at hf
    refine V.iload_n (q := 18) rfl dX11_fill_17 rfl rfl ?_
    refine V.iconst (q := 19) (v := 1) (by decide) dX11_fill_18 rfl ?_
    refine V.icmp_lt (q := 22) (tgt := 28) dX11_fill_19 rfl (by decide) (fun c => ?_) (fun c => ?_)
    · rw [if_pos c] at hf
      refine V.aload_n (q := 29) rfl dX11_fill_28 rfl rfl ?_
      refine V.iconst (q := 30) (v := 2) (by decide) dX11_fill_29 rfl ?_
      obtain ⟨_, e4, hf⟩ := bd_ex hf
      obtain ⟨v5, h2, eh2, hf⟩ := bd2_ex hf
      refine V.callV (q := 33) (ci := 11) (vs := [.int 2]) (st := []) (S2 := [.int v5]) okX11_deny imX11_deny seX11_deny rfl lkX11_347 (tX11_deny eh2) rfl (ck_is e4) (by decide) rfl (Nat.le_of_ble_eq_true rfl) (Nat.le_of_ble_eq_true rfl) rfl dX11_fill_30 rfl rfl ?_
      obtain ⟨hb, rfl, rfl⟩ := rB_inj hf
      exact V.ret (r := some (.int v5)) hb dX11_fill_33
    · rw [if_neg c] at hf
      refine V.iload_n (q := 23) rfl dX11_fill_22 rfl rfl ?_
      refine V.bipush (q := 25) (v := 9) (by decide) dX11_fill_23 rfl ?_
      refine V.icmp_le (q := 28) (tgt := 34) dX11_fill_25 rfl (by decide) (fun c => ?_) (fun c => ?_)
      · rw [if_pos c] at hf
        refine V.aload_n (q := 35) rfl dX11_fill_34 rfl rfl ?_
        obtain ⟨b4, eb4, hf⟩ := bd_ex hf
        refine V.getR (q := 38) flX11_28 rfl eb4 dX11_fill_35 rfl ?_
        obtain ⟨b5, eb5, hf⟩ := bd_ex hf
        refine V.getR (q := 41) flX11_137 rfl eb5 dX11_fill_38 rfl ?_
        refine V.iload_n (q := 42) rfl dX11_fill_41 rfl rfl ?_
        obtain ⟨_, e6, hf⟩ := bd_ex hf
        obtain ⟨v7, h2, eh2, hf⟩ := bd2_ex hf
        refine V.callV (q := 45) (ci := 4) (vs := [.int x1]) (st := []) (S2 := [.int v7]) okX4_inkOf imX4_inkOf seX4_inkOf rfl lkX11_155 (tX4_inkOf eh2) rfl (ck_is e6) (by decide) rfl (Nat.le_of_ble_eq_true rfl) (Nat.le_of_ble_eq_true rfl) rfl dX11_fill_42 rfl rfl ?_
        refine V.iload_n (q := 46) rfl dX11_fill_45 rfl rfl ?_
        refine V.icmp_lt (q := 49) (tgt := 55) dX11_fill_46 rfl (by decide) (fun c => ?_) (fun c => ?_)
        · rw [if_pos c] at hf
          refine V.aload_n (q := 56) rfl dX11_fill_55 rfl rfl ?_
          obtain ⟨b8, eb8, hf⟩ := bd_ex hf
          refine V.getR (q := 59) flX11_35 rfl eb8 dX11_fill_56 rfl ?_
          refine V.aload_n (q := 60) rfl dX11_fill_59 rfl rfl ?_
          obtain ⟨b9, eb9, hf⟩ := bd_ex hf
          refine V.getR (q := 63) flX11_28 rfl eb9 dX11_fill_60 rfl ?_
          obtain ⟨b10, eb10, hf⟩ := bd_ex hf
          refine V.getR (q := 66) flX11_137 rfl eb10 dX11_fill_63 rfl ?_
          obtain ⟨_, e11, hf⟩ := bd_ex hf
          obtain ⟨h3, eh3, hf⟩ := bd_ex hf
          refine V.callV (q := 69) (ci := 6) (vs := [.ref b10]) (st := []) (S2 := []) okX6_remember imX6_remember seX6_remember rfl lkX11_339 (tX6_remember eh3) rfl (ck_is e11) (by decide) rfl (Nat.le_of_ble_eq_true rfl) (Nat.le_of_ble_eq_true rfl) rfl dX11_fill_66 rfl rfl ?_
          refine V.aload_n (q := 70) rfl dX11_fill_69 rfl rfl ?_
          obtain ⟨b12, eb12, hf⟩ := bd_ex hf
          refine V.getR (q := 73) flX11_28 rfl eb12 dX11_fill_70 rfl ?_
          obtain ⟨b13, eb13, hf⟩ := bd_ex hf
          refine V.getR (q := 76) flX11_137 rfl eb13 dX11_fill_73 rfl ?_
          refine V.iload_n (q := 77) rfl dX11_fill_76 rfl rfl ?_
          refine V.iload_n (q := 78) rfl dX11_fill_77 rfl rfl ?_
          obtain ⟨_, e14, hf⟩ := bd_ex hf
          obtain ⟨h4, eh4, hf⟩ := bd_ex hf
          refine V.callV (q := 81) (ci := 4) (vs := [.int x1, .int x2]) (st := []) (S2 := []) okX4_setInk imX4_setInk seX4_setInk rfl lkX11_366 (tX4_setInk eh4) rfl (ck_is e14) (by decide) rfl (Nat.le_of_ble_eq_true rfl) (Nat.le_of_ble_eq_true rfl) rfl dX11_fill_78 rfl rfl ?_
          refine V.aload_n (q := 82) rfl dX11_fill_81 rfl rfl ?_
          obtain ⟨_, e15, hf⟩ := bd_ex hf
          obtain ⟨v16, h5, eh5, hf⟩ := bd2_ex hf
          refine V.callV (q := 85) (ci := 11) (vs := []) (st := []) (S2 := [.int v16]) okX11_allow imX11_allow seX11_allow rfl lkX11_353 (tX11_allow eh5) rfl (ck_is e15) (by decide) rfl (Nat.le_of_ble_eq_true rfl) (Nat.le_of_ble_eq_true rfl) rfl dX11_fill_82 rfl rfl ?_
          obtain ⟨hb, rfl, rfl⟩ := rB_inj hf
          exact V.ret (r := some (.int v16)) hb dX11_fill_85
        · rw [if_neg c] at hf
          refine V.aload_n (q := 50) rfl dX11_fill_49 rfl rfl ?_
          refine V.iconst (q := 51) (v := 5) (by decide) dX11_fill_50 rfl ?_
          obtain ⟨_, e8, hf⟩ := bd_ex hf
          obtain ⟨v9, h3, eh3, hf⟩ := bd2_ex hf
          refine V.callV (q := 54) (ci := 11) (vs := [.int 5]) (st := []) (S2 := [.int v9]) okX11_deny imX11_deny seX11_deny rfl lkX11_347 (tX11_deny eh3) rfl (ck_is e8) (by decide) rfl (Nat.le_of_ble_eq_true rfl) (Nat.le_of_ble_eq_true rfl) rfl dX11_fill_51 rfl rfl ?_
          obtain ⟨hb, rfl, rfl⟩ := rB_inj hf
          exact V.ret (r := some (.int v9)) hb dX11_fill_54
      · rw [if_neg c] at hf
        refine V.aload_n (q := 29) rfl dX11_fill_28 rfl rfl ?_
        refine V.iconst (q := 30) (v := 2) (by decide) dX11_fill_29 rfl ?_
        obtain ⟨_, e4, hf⟩ := bd_ex hf
        obtain ⟨v5, h2, eh2, hf⟩ := bd2_ex hf
        refine V.callV (q := 33) (ci := 11) (vs := [.int 2]) (st := []) (S2 := [.int v5]) okX11_deny imX11_deny seX11_deny rfl lkX11_347 (tX11_deny eh2) rfl (ck_is e4) (by decide) rfl (Nat.le_of_ble_eq_true rfl) (Nat.le_of_ble_eq_true rfl) rfl dX11_fill_30 rfl rfl ?_
        obtain ⟨hb, rfl, rfl⟩ := rB_inj hf
        exact V.ret (r := some (.int v5)) hb dX11_fill_33
  · rw [if_pos c] at hf
    refine V.aload_n (q := 12) rfl dX11_fill_11 rfl rfl ?_
    refine V.iconst (q := 13) (v := 1) (by decide) dX11_fill_12 rfl ?_
    obtain ⟨_, e4, hf⟩ := bd_ex hf
    obtain ⟨v5, h2, eh2, hf⟩ := bd2_ex hf
    refine V.callV (q := 16) (ci := 11) (vs := [.int 1]) (st := []) (S2 := [.int v5]) okX11_deny imX11_deny seX11_deny rfl lkX11_347 (tX11_deny eh2) rfl (ck_is e4) (by decide) rfl (Nat.le_of_ble_eq_true rfl) (Nat.le_of_ble_eq_true rfl) rfl dX11_fill_13 rfl rfl ?_
    obtain ⟨hb, rfl, rfl⟩ := rB_inj hf
    exact V.ret (r := some (.int v5)) hb dX11_fill_16
