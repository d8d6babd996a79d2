def fX11_good (h : MH) (a0 : Nat) (x1 : Int32) : Option (Int32 × MH) := bd (gI h a0 11 9) fun v1 => if v1 = 0 then (bd (ck h a0 11) fun _ => bd2 (fX11_refuse h a0 1) fun v3 h1 => some (v3, h1)) else (if x1 < 0 then (bd (ck h a0 11) fun _ => bd2 (fX11_refuse h a0 2) fun v3 h1 => some (v3, h1)) else (if x1 ≤ 20 then (bd (gR h a0 11 6) fun b2 => bd (ck h b2 0) fun _ => bd2 (fX0_goodBehind h b2 x1) fun v4 h1 => bd (ck h1 a0 11) fun _ => bd2 (fX11_answer h1 a0 v4) fun v6 h2 => some (v6, h2)) else (bd (ck h a0 11) fun _ => bd2 (fX11_refuse h a0 2) fun v3 h1 => some (v3, h1))))
set_option maxRecDepth 20000 in
theorem tX11_good {r : Int32} {h' : MH} {h : MH} {a0 : Nat} {x1 : Int32} (hf : fX11_good h a0 x1 = some (r, h')) : VM mX11_good 5 (some (.int r)) h' h [.ref a0, .int x1] := by
  show V TT mX11_good 5 _ h' h 0 [.ref a0, .int x1] []
  unfold fX11_good at hf
  refine V.aload_n (q := 1) rfl dX11_good_0 rfl rfl ?_
  obtain ⟨v1, ev1, hf⟩ := bd_ex hf
  refine V.getI (q := 4) flX11_76 rfl ev1 dX11_good_1 rfl ?_
  refine V.if_ne (q := 7) (tgt := 13) dX11_good_4 rfl (by decide) (fun c => ?_) (fun c => ?_)
  · rw [if_neg c] at hf
    refine V.iload_n (q := 14) rfl dX11_good_13 rfl rfl ?_
    refine V.if_lt (q := 17) (tgt := 23) dX11_good_14 rfl (by decide) (fun c => ?_) (fun c => ?_)
    · rw [if_pos c] at hf
      refine V.aload_n (q := 24) rfl dX11_good_23 rfl rfl ?_
      refine V.iconst (q := 25) (v := 2) (by decide) dX11_good_24 rfl ?_
      obtain ⟨_, e2, hf⟩ := bd_ex hf
      obtain ⟨v3, h1, eh1, hf⟩ := bd2_ex hf
      refine V.callV (q := 28) (ci := 11) (vs := [.int 2]) (st := []) (S2 := [.int v3]) okX11_refuse imX11_refuse seX11_refuse rfl lkX11_101 (tX11_refuse eh1) rfl (ck_is e2) (by decide) rfl (Nat.le_of_ble_eq_true rfl) (Nat.le_of_ble_eq_true rfl) rfl dX11_good_25 rfl rfl ?_
      obtain ⟨rfl, rfl⟩ := ret_inj hf
      exact V.ret (r := some (.int v3)) trivial dX11_good_28
    · rw [if_neg c] at hf
      refine V.iload_n (q := 18) rfl dX11_good_17 rfl rfl ?_
      refine V.bipush (q := 20) (v := 20) (by decide) dX11_good_18 rfl ?_
      refine V.icmp_le (q := 23) (tgt := 29) dX11_good_20 rfl (by decide) (fun c => ?_) (fun c => ?_)
      · rw [if_pos c] at hf
        refine V.aload_n (q := 30) rfl dX11_good_29 rfl rfl ?_
        refine V.aload_n (q := 31) rfl dX11_good_30 rfl rfl ?_
        obtain ⟨b2, eb2, hf⟩ := bd_ex hf
        refine V.getR (q := 34) flX11_58 rfl eb2 dX11_good_31 rfl ?_
        refine V.iload_n (q := 35) rfl dX11_good_34 rfl rfl ?_
        obtain ⟨_, e3, hf⟩ := bd_ex hf
        obtain ⟨v4, h1, eh1, hf⟩ := bd2_ex hf
        refine V.callV (q := 38) (ci := 0) (vs := [.int x1]) (st := [.ref a0]) (S2 := [.int v4, .ref a0]) okX0_goodBehind imX0_goodBehind seX0_goodBehind rfl lkX11_288 (tX0_goodBehind eh1) rfl (ck_is e3) (by decide) rfl (Nat.le_of_ble_eq_true rfl) (Nat.le_of_ble_eq_true rfl) rfl dX11_good_35 rfl rfl ?_
        obtain ⟨_, e5, hf⟩ := bd_ex hf
        obtain ⟨v6, h2, eh2, hf⟩ := bd2_ex hf
        refine V.callV (q := 41) (ci := 11) (vs := [.int v4]) (st := []) (S2 := [.int v6]) okX11_answer imX11_answer seX11_answer rfl lkX11_127 (tX11_answer eh2) rfl (ck_is e5) (by decide) rfl (Nat.le_of_ble_eq_true rfl) (Nat.le_of_ble_eq_true rfl) rfl dX11_good_38 rfl rfl ?_
        obtain ⟨rfl, rfl⟩ := ret_inj hf
        exact V.ret (r := some (.int v6)) trivial dX11_good_41
      · rw [if_neg c] at hf
        refine V.aload_n (q := 24) rfl dX11_good_23 rfl rfl ?_
        refine V.iconst (q := 25) (v := 2) (by decide) dX11_good_24 rfl ?_
        obtain ⟨_, e2, hf⟩ := bd_ex hf
        obtain ⟨v3, h1, eh1, hf⟩ := bd2_ex hf
        refine V.callV (q := 28) (ci := 11) (vs := [.int 2]) (st := []) (S2 := [.int v3]) okX11_refuse imX11_refuse seX11_refuse rfl lkX11_101 (tX11_refuse eh1) rfl (ck_is e2) (by decide) rfl (Nat.le_of_ble_eq_true rfl) (Nat.le_of_ble_eq_true rfl) rfl dX11_good_25 rfl rfl ?_
        obtain ⟨rfl, rfl⟩ := ret_inj hf
        exact V.ret (r := some (.int v3)) trivial dX11_good_28
  · rw [if_pos c] at hf
    refine V.aload_n (q := 8) rfl dX11_good_7 rfl rfl ?_
    refine V.iconst (q := 9) (v := 1) (by decide) dX11_good_8 rfl ?_
    obtain ⟨_, e2, hf⟩ := bd_ex hf
    obtain ⟨v3, h1, eh1, hf⟩ := bd2_ex hf
    refine V.callV (q := 12) (ci := 11) (vs := [.int 1]) (st := []) (S2 := [.int v3]) okX11_refuse imX11_refuse seX11_refuse rfl lkX11_101 (tX11_refuse eh1) rfl (ck_is e2) (by decide) rfl (Nat.le_of_ble_eq_true rfl) (Nat.le_of_ble_eq_true rfl) rfl dX11_good_9 rfl rfl ?_
    obtain ⟨rfl, rfl⟩ := ret_inj hf
    exact V.ret (r := some (.int v3)) trivial dX11_good_12
def fX4_pressesOfHand (h : MH) (a0 : Nat) (x1 : Int32) : Option (Int32 × MH) := bd (gR h a0 4 0) fun b1 => bd (lI h b1 (28 + x1)) fun v2 => some (v2, h)
set_option maxRecDepth 20000 in
theorem tX4_pressesOfHand {r : Int32} {h' : MH} {h : MH} {a0 : Nat} {x1 : Int32} (hf : fX4_pressesOfHand h a0 x1 = some (r, h')) : VM mX4_pressesOfHand 0 (some (.int r)) h' h [.ref a0, .int x1] := by
  show V TT mX4_pressesOfHand 0 _ h' h 0 [.ref a0, .int x1] []
  unfold fX4_pressesOfHand at hf
  refine V.aload_n (q := 1) rfl dX4_pressesOfHand_0 rfl rfl ?_
  obtain ⟨b1, eb1, hf⟩ := bd_ex hf
  refine V.getR (q := 4) flX4_11 rfl eb1 dX4_pressesOfHand_1 rfl ?_
  refine V.bipush (q := 6) (v := 28) (by decide) dX4_pressesOfHand_4 rfl ?_
  refine V.iload_n (q := 7) rfl dX4_pressesOfHand_6 rfl rfl ?_
  refine V.iadd (q := 8) dX4_pressesOfHand_7 rfl ?_
  obtain ⟨v2, ev2, hf⟩ := bd_ex hf
  refine V.iald (q := 9) ev2 dX4_pressesOfHand_8 rfl ?_
  obtain ⟨rfl, rfl⟩ := ret_inj hf
  exact V.ret (r := some (.int v2)) trivial dX4_pressesOfHand_9
def fX5_hasHand (h : MH) (a0 : Nat) (x1 : Int32) : Option (Int32 × MH) := if x1 < 0 then (some (0, h)) else (bd (gR h a0 5 1) fun b1 => bd (gI h b1 7 17) fun v2 => if v2 ≤ x1 then (some (0, h)) else (some (1, h)))
set_option maxRecDepth 20000 in
theorem tX5_hasHand {r : Int32} {h' : MH} {h : MH} {a0 : Nat} {x1 : Int32} (hf : fX5_hasHand h a0 x1 = some (r, h')) : VM mX5_hasHand 0 (some (.int r)) h' h [.ref a0, .int x1] := by
  show V TT mX5_hasHand 0 _ h' h 0 [.ref a0, .int x1] []
  unfold fX5_hasHand at hf
  refine V.iload_n (q := 1) rfl dX5_hasHand_0 rfl rfl ?_
  refine V.if_lt (q := 4) (tgt := 19) dX5_hasHand_1 rfl (by decide) (fun c => ?_) (fun c => ?_)
  · rw [if_pos c] at hf
    refine V.iconst (q := 20) (v := 0) (by decide) dX5_hasHand_19 rfl ?_
    obtain ⟨rfl, rfl⟩ := ret_inj hf
    exact V.ret (r := some (.int 0)) (Or.inl rfl) dX5_hasHand_20
  · rw [if_neg c] at hf
    refine V.iload_n (q := 5) rfl dX5_hasHand_4 rfl rfl ?_
    refine V.aload_n (q := 6) rfl dX5_hasHand_5 rfl rfl ?_
    obtain ⟨b1, eb1, hf⟩ := bd_ex hf
    refine V.getR (q := 9) flX5_21 rfl eb1 dX5_hasHand_6 rfl ?_
    obtain ⟨v2, ev2, hf⟩ := bd_ex hf
    refine V.getI (q := 12) flX5_35 rfl ev2 dX5_hasHand_9 rfl ?_
    refine V.icmp_ge (q := 15) (tgt := 19) dX5_hasHand_12 rfl (by decide) (fun c => ?_) (fun c => ?_)
    · rw [if_pos c] at hf
      refine V.iconst (q := 20) (v := 0) (by decide) dX5_hasHand_19 rfl ?_
      obtain ⟨rfl, rfl⟩ := ret_inj hf
      exact V.ret (r := some (.int 0)) (Or.inl rfl) dX5_hasHand_20
    · rw [if_neg c] at hf
      refine V.iconst (q := 16) (v := 1) (by decide) dX5_hasHand_15 rfl ?_
      refine V.goto (q := 20) dX5_hasHand_16 (by decide) ?_
      obtain ⟨rfl, rfl⟩ := ret_inj hf
      exact V.ret (r := some (.int 1)) (Or.inr rfl) dX5_hasHand_20
def fX11_hand (h : MH) (a0 : Nat) (x1 : Int32) (x2 : Int32) : Option (Int32 × MH) := bd (gR h a0 11 2) fun b1 => bd (ck h b1 5) fun _ => bd2 (fX5_hasHand h b1 x1) fun v3 h1 => if v3 = 0 then (bd (ck h1 a0 11) fun _ => bd2 (fX11_refuse h1 a0 1) fun v5 h2 => some (v5, h2)) else (if x2 < 0 then (bd (ck h1 a0 11) fun _ => bd2 (fX11_refuse h1 a0 1) fun v5 h2 => some (v5, h2)) else (if x2 ≤ 2 then (if x2 = 0 then (bd (gR h1 a0 11 2) fun b4 => bd (gR h1 b4 5 1) fun b5 => bd (gR h1 b5 7 7) fun b6 => bd (lI h1 b6 x1) fun v7 => bd (ck h1 a0 11) fun _ => bd2 (fX11_answer h1 a0 v7) fun v9 h2 => some (v9, h2)) else (if x2 = 1 then (bd (gR h1 a0 11 2) fun b4 => bd (gR h1 b4 5 1) fun b5 => bd (gR h1 b5 7 8) fun b6 => bd (lI h1 b6 x1) fun v7 => bd (ck h1 a0 11) fun _ => bd2 (fX11_answer h1 a0 v7) fun v9 h2 => some (v9, h2)) else (bd (gR h1 a0 11 2) fun b4 => bd (gR h1 b4 5 0) fun b5 => bd (ck h1 b5 4) fun _ => bd2 (fX4_pressesOfHand h1 b5 x1) fun v7 h2 => bd (ck h2 a0 11) fun _ => bd2 (fX11_answer h2 a0 v7) fun v9 h3 => some (v9, h3)))) else (bd (ck h1 a0 11) fun _ => bd2 (fX11_refuse h1 a0 1) fun v5 h2 => some (v5, h2))))
set_option maxRecDepth 20000 in
theorem tX11_hand {r : Int32} {h' : MH} {h : MH} {a0 : Nat} {x1 : Int32} {x2 : Int32} (hf : fX11_hand h a0 x1 x2 = some (r, h')) : VM mX11_hand 1 (some (.int r)) h' h [.ref a0, .int x1, .int x2] := by
  show V TT mX11_hand 1 _ h' h 0 [.ref a0, .int x1, .int x2] []
  unfold fX11_hand at hf
  refine V.aload_n (q := 1) rfl dX11_hand_0 rfl rfl ?_
  obtain ⟨b1, eb1, hf⟩ := bd_ex hf
  refine V.getR (q := 4) flX11_28 rfl eb1 dX11_hand_1 rfl ?_
  refine V.iload_n (q := 5) rfl dX11_hand_4 rfl rfl ?_
  obtain ⟨_, e2, hf⟩ := bd_ex hf
  obtain ⟨v3, h1, eh1, hf⟩ := bd2_ex hf
  refine V.callV (q := 8) (ci := 5) (vs := [.int x1]) (st := []) (S2 := [.int v3]) okX5_hasHand imX5_hasHand seX5_hasHand rfl lkX11_170 (tX5_hasHand eh1) rfl (ck_is e2) (by decide) rfl (Nat.le_of_ble_eq_true rfl) (Nat.le_of_ble_eq_true rfl) rfl dX11_hand_5 rfl rfl ?_
  refine V.if_eq (q := 11) (tgt := 20) dX11_hand_8 rfl (by decide) (fun c => ?_) (fun c => ?_)
  · rw [if_pos c] at hf
    refine V.aload_n (q := 21) rfl dX11_hand_20 rfl rfl ?_
    refine V.iconst (q := 22) (v := 1) (by decide) dX11_hand_21 rfl ?_
    obtain ⟨_, e4, hf⟩ := bd_ex hf
    obtain ⟨v5, h2, eh2, hf⟩ := bd2_ex hf
    refine V.callV (q := 25) (ci := 11) (vs := [.int 1]) (st := []) (S2 := [.int v5]) okX11_refuse imX11_refuse seX11_refuse rfl lkX11_101 (tX11_refuse eh2) rfl (ck_is e4) (by decide) rfl (Nat.le_of_ble_eq_true rfl) (Nat.le_of_ble_eq_true rfl) rfl dX11_hand_22 rfl rfl ?_
    obtain ⟨rfl, rfl⟩ := ret_inj hf
    exact V.ret (r := some (.int v5)) trivial dX11_hand_25
  · rw [if_neg c] at hf
    refine V.iload_n (q := 12) rfl dX11_hand_11 rfl rfl ?_
    refine V.if_lt (q := 15) (tgt := 20) dX11_hand_12 rfl (by decide) (fun c => ?_) (fun c => ?_)
    · rw [if_pos c] at hf
      refine V.aload_n (q := 21) rfl dX11_hand_20 rfl rfl ?_
      refine V.iconst (q := 22) (v := 1) (by decide) dX11_hand_21 rfl ?_
      obtain ⟨_, e4, hf⟩ := bd_ex hf
      obtain ⟨v5, h2, eh2, hf⟩ := bd2_ex hf
      refine V.callV (q := 25) (ci := 11) (vs := [.int 1]) (st := []) (S2 := [.int v5]) okX11_refuse imX11_refuse seX11_refuse rfl lkX11_101 (tX11_refuse eh2) rfl (ck_is e4) (by decide) rfl (Nat.le_of_ble_eq_true rfl) (Nat.le_of_ble_eq_true rfl) rfl dX11_hand_22 rfl rfl ?_
      obtain ⟨rfl, rfl⟩ := ret_inj hf
      exact V.ret (r := some (.int v5)) trivial dX11_hand_25
    · rw [if_neg c] at hf
      refine V.iload_n (q := 16) rfl dX11_hand_15 rfl rfl ?_
      refine V.iconst (q := 17) (v := 2) (by decide) dX11_hand_16 rfl ?_
      refine V.icmp_le (q := 20) (tgt := 26) dX11_hand_17 rfl (by decide) (fun c => ?_) (fun c => ?_)
      · rw [if_pos c] at hf
        refine V.iload_n (q := 27) rfl dX11_hand_26 rfl rfl ?_
        by_cases c0 : x2 = 0
        · rw [if_pos c0] at hf
          refine V.topI c0 ?_
          refine V.lookup (q := 52) (off := 25) dX11_hand_27 (by decide) (by decide) (by decide) ?_
          refine V.aload_n (q := 53) rfl dX11_hand_52 rfl rfl ?_
          refine V.aload_n (q := 54) rfl dX11_hand_53 rfl rfl ?_
          obtain ⟨b4, eb4, hf⟩ := bd_ex hf
          refine V.getR (q := 57) flX11_28 rfl eb4 dX11_hand_54 rfl ?_
          obtain ⟨b5, eb5, hf⟩ := bd_ex hf
          refine V.getR (q := 60) flX11_118 rfl eb5 dX11_hand_57 rfl ?_
          obtain ⟨b6, eb6, hf⟩ := bd_ex hf
          refine V.getR (q := 63) flX11_173 rfl eb6 dX11_hand_60 rfl ?_
          refine V.iload_n (q := 64) rfl dX11_hand_63 rfl rfl ?_
          obtain ⟨v7, ev7, hf⟩ := bd_ex hf
          refine V.iald (q := 65) ev7 dX11_hand_64 rfl ?_
          obtain ⟨_, e8, hf⟩ := bd_ex hf
          obtain ⟨v9, h2, eh2, hf⟩ := bd2_ex hf
          refine V.callV (q := 68) (ci := 11) (vs := [.int v7]) (st := []) (S2 := [.int v9]) okX11_answer imX11_answer seX11_answer rfl lkX11_127 (tX11_answer eh2) rfl (ck_is e8) (by decide) rfl (Nat.le_of_ble_eq_true rfl) (Nat.le_of_ble_eq_true rfl) rfl dX11_hand_65 rfl rfl ?_
          obtain ⟨rfl, rfl⟩ := ret_inj hf
          exact V.ret (r := some (.int v9)) trivial dX11_hand_68
        rw [if_neg c0] at hf
        by_cases c1 : x2 = 1
        · rw [if_pos c1] at hf
          refine V.topI c1 ?_
          refine V.lookup (q := 69) (off := 42) dX11_hand_27 (by decide) (by decide) (by decide) ?_
          refine V.aload_n (q := 70) rfl dX11_hand_69 rfl rfl ?_
          refine V.aload_n (q := 71) rfl dX11_hand_70 rfl rfl ?_
          obtain ⟨b4, eb4, hf⟩ := bd_ex hf
          refine V.getR (q := 74) flX11_28 rfl eb4 dX11_hand_71 rfl ?_
          obtain ⟨b5, eb5, hf⟩ := bd_ex hf
          refine V.getR (q := 77) flX11_118 rfl eb5 dX11_hand_74 rfl ?_
          obtain ⟨b6, eb6, hf⟩ := bd_ex hf
          refine V.getR (q := 80) flX11_176 rfl eb6 dX11_hand_77 rfl ?_
          refine V.iload_n (q := 81) rfl dX11_hand_80 rfl rfl ?_
          obtain ⟨v7, ev7, hf⟩ := bd_ex hf
          refine V.iald (q := 82) ev7 dX11_hand_81 rfl ?_
          obtain ⟨_, e8, hf⟩ := bd_ex hf
          obtain ⟨v9, h2, eh2, hf⟩ := bd2_ex hf
          refine V.callV (q := 85) (ci := 11) (vs := [.int v7]) (st := []) (S2 := [.int v9]) okX11_answer imX11_answer seX11_answer rfl lkX11_127 (tX11_answer eh2) rfl (ck_is e8) (by decide) rfl (Nat.le_of_ble_eq_true rfl) (Nat.le_of_ble_eq_true rfl) rfl dX11_hand_82 rfl rfl ?_
          obtain ⟨rfl, rfl⟩ := ret_inj hf
          exact V.ret (r := some (.int v9)) trivial dX11_hand_85
        rw [if_neg c1] at hf
        refine V.lookup (q := 86) (off := 59) dX11_hand_27 (by decide) (lsw_out2 c0 c1) (by decide) ?_
        refine V.aload_n (q := 87) rfl dX11_hand_86 rfl rfl ?_
        refine V.aload_n (q := 88) rfl dX11_hand_87 rfl rfl ?_
        obtain ⟨b4, eb4, hf⟩ := bd_ex hf
        refine V.getR (q := 91) flX11_28 rfl eb4 dX11_hand_88 rfl ?_
        obtain ⟨b5, eb5, hf⟩ := bd_ex hf
        refine V.getR (q := 94) flX11_137 rfl eb5 dX11_hand_91 rfl ?_
        refine V.iload_n (q := 95) rfl dX11_hand_94 rfl rfl ?_
        obtain ⟨_, e6, hf⟩ := bd_ex hf
        obtain ⟨v7, h2, eh2, hf⟩ := bd2_ex hf
        refine V.callV (q := 98) (ci := 4) (vs := [.int x1]) (st := [.ref a0]) (S2 := [.int v7, .ref a0]) okX4_pressesOfHand imX4_pressesOfHand seX4_pressesOfHand rfl lkX11_179 (tX4_pressesOfHand eh2) rfl (ck_is e6) (by decide) rfl (Nat.le_of_ble_eq_true rfl) (Nat.le_of_ble_eq_true rfl) rfl dX11_hand_95 rfl rfl ?_
        obtain ⟨_, e8, hf⟩ := bd_ex hf
        obtain ⟨v9, h3, eh3, hf⟩ := bd2_ex hf
        refine V.callV (q := 101) (ci := 11) (vs := [.int v7]) (st := []) (S2 := [.int v9]) okX11_answer imX11_answer seX11_answer rfl lkX11_127 (tX11_answer eh3) rfl (ck_is e8) (by decide) rfl (Nat.le_of_ble_eq_true rfl) (Nat.le_of_ble_eq_true rfl) rfl dX11_hand_98 rfl rfl ?_
        obtain ⟨rfl, rfl⟩ := ret_inj hf
        exact V.ret (r := some (.int v9)) trivial dX11_hand_101
      · rw [if_neg c] at hf
        refine V.aload_n (q := 21) rfl dX11_hand_20 rfl rfl ?_
        refine V.iconst (q := 22) (v := 1) (by decide) dX11_hand_21 rfl ?_
        obtain ⟨_, e4, hf⟩ := bd_ex hf
        obtain ⟨v5, h2, eh2, hf⟩ := bd2_ex hf
        refine V.callV (q := 25) (ci := 11) (vs := [.int 1]) (st := []) (S2 := [.int v5]) okX11_refuse imX11_refuse seX11_refuse rfl lkX11_101 (tX11_refuse eh2) rfl (ck_is e4) (by decide) rfl (Nat.le_of_ble_eq_true rfl) (Nat.le_of_ble_eq_true rfl) rfl dX11_hand_22 rfl rfl ?_
        obtain ⟨rfl, rfl⟩ := ret_inj hf
        exact V.ret (r := some (.int v5)) trivial dX11_hand_25
def fX11_has (h : MH) (a0 : Nat) (x1 : Int32) (x2 : Int32) : Option (Int32 × MH) := bd (gR h a0 11 2) fun b1 => bd (ck h b1 5) fun _ => bd2 (fX5_hasStamp h b1 x1) fun v3 h1 => if v3 = 0 then (bd (ck h1 a0 11) fun _ => bd2 (fX11_refuse h1 a0 1) fun v5 h2 => some (v5, h2)) else (bd (gR h1 a0 11 2) fun b4 => bd (ck h1 b4 5) fun _ => bd2 (fX5_hasPaper h1 b4 x2) fun v6 h2 => if v6 = 0 then (bd (ck h2 a0 11) fun _ => bd2 (fX11_refuse h2 a0 1) fun v8 h3 => some (v8, h3)) else (bd (gR h2 a0 11 7) fun b7 => bd (ck h2 b7 2) fun _ => bd2 (fX2_gain h2 b7 x1 x2) fun v9 h3 => bd (ck h3 a0 11) fun _ => bd2 (fX11_answer h3 a0 v9) fun v11 h4 => some (v11, h4)))
set_option maxRecDepth 20000 in
theorem tX11_has {r : Int32} {h' : MH} {h : MH} {a0 : Nat} {x1 : Int32} {x2 : Int32} (hf : fX11_has h a0 x1 x2 = some (r, h')) : VM mX11_has 3 (some (.int r)) h' h [.ref a0, .int x1, .int x2] := by
  show V TT mX11_has 3 _ h' h 0 [.ref a0, .int x1, .int x2] []
  unfold fX11_has at hf
  refine V.aload_n (q := 1) rfl dX11_has_0 rfl rfl ?_
  obtain ⟨b1, eb1, hf⟩ := bd_ex hf
  refine V.getR (q := 4) flX11_28 rfl eb1 dX11_has_1 rfl ?_
  refine V.iload_n (q := 5) rfl dX11_has_4 rfl rfl ?_
  obtain ⟨_, e2, hf⟩ := bd_ex hf
  obtain ⟨v3, h1, eh1, hf⟩ := bd2_ex hf
  refine V.callV (q := 8) (ci := 5) (vs := [.int x1]) (st := []) (S2 := [.int v3]) okX5_hasStamp imX5_hasStamp seX5_hasStamp rfl lkX11_152 (tX5_hasStamp eh1) rfl (ck_is e2) (by decide) rfl (Nat.le_of_ble_eq_true rfl) (Nat.le_of_ble_eq_true rfl) rfl dX11_has_5 rfl rfl ?_
  refine V.if_eq (q := 11) (tgt := 22) dX11_has_8 rfl (by decide) (fun c => ?_) (fun c => ?_)
  · rw [if_pos c] at hf
    refine V.aload_n (q := 23) rfl dX11_has_22 rfl rfl ?_
    refine V.iconst (q := 24) (v := 1) (by decide) dX11_has_23 rfl ?_
    obtain ⟨_, e4, hf⟩ := bd_ex hf
    obtain ⟨v5, h2, eh2, hf⟩ := bd2_ex hf
    refine V.callV (q := 27) (ci := 11) (vs := [.int 1]) (st := []) (S2 := [.int v5]) okX11_refuse imX11_refuse seX11_refuse rfl lkX11_101 (tX11_refuse eh2) rfl (ck_is e4) (by decide) rfl (Nat.le_of_ble_eq_true rfl) (Nat.le_of_ble_eq_true rfl) rfl dX11_has_24 rfl rfl ?_
    obtain ⟨rfl, rfl⟩ := ret_inj hf
    exact V.ret (r := some (.int v5)) trivial dX11_has_27
  · rw [if_neg c] at hf
    refine V.aload_n (q := 12) rfl dX11_has_11 rfl rfl ?_
    obtain ⟨b4, eb4, hf⟩ := bd_ex hf
    refine V.getR (q := 15) flX11_28 rfl eb4 dX11_has_12 rfl ?_
    refine V.iload_n (q := 16) rfl dX11_has_15 rfl rfl ?_
    obtain ⟨_, e5, hf⟩ := bd_ex hf
    obtain ⟨v6, h2, eh2, hf⟩ := bd2_ex hf
    refine V.callV (q := 19) (ci := 5) (vs := [.int x2]) (st := []) (S2 := [.int v6]) okX5_hasPaper imX5_hasPaper seX5_hasPaper rfl lkX11_130 (tX5_hasPaper eh2) rfl (ck_is e5) (by decide) rfl (Nat.le_of_ble_eq_true rfl) (Nat.le_of_ble_eq_true rfl) rfl dX11_has_16 rfl rfl ?_
    refine V.if_ne (q := 22) (tgt := 28) dX11_has_19 rfl (by decide) (fun c => ?_) (fun c => ?_)
    · rw [if_neg c] at hf
      refine V.aload_n (q := 29) rfl dX11_has_28 rfl rfl ?_
      refine V.aload_n (q := 30) rfl dX11_has_29 rfl rfl ?_
      obtain ⟨b7, eb7, hf⟩ := bd_ex hf
      refine V.getR (q := 33) flX11_65 rfl eb7 dX11_has_30 rfl ?_
      refine V.iload_n (q := 34) rfl dX11_has_33 rfl rfl ?_
      refine V.iload_n (q := 35) rfl dX11_has_34 rfl rfl ?_
      obtain ⟨_, e8, hf⟩ := bd_ex hf
      obtain ⟨v9, h3, eh3, hf⟩ := bd2_ex hf
      refine V.callV (q := 38) (ci := 2) (vs := [.int x1, .int x2]) (st := [.ref a0]) (S2 := [.int v9, .ref a0]) okX2_gain imX2_gain seX2_gain rfl lkX11_297 (tX2_gain eh3) rfl (ck_is e8) (by decide) rfl (Nat.le_of_ble_eq_true rfl) (Nat.le_of_ble_eq_true rfl) rfl dX11_has_35 rfl rfl ?_
      obtain ⟨_, e10, hf⟩ := bd_ex hf
      obtain ⟨v11, h4, eh4, hf⟩ := bd2_ex hf
      refine V.callV (q := 41) (ci := 11) (vs := [.int v9]) (st := []) (S2 := [.int v11]) okX11_answer imX11_answer seX11_answer rfl lkX11_127 (tX11_answer eh4) rfl (ck_is e10) (by decide) rfl (Nat.le_of_ble_eq_true rfl) (Nat.le_of_ble_eq_true rfl) rfl dX11_has_38 rfl rfl ?_
      obtain ⟨rfl, rfl⟩ := ret_inj hf
      exact V.ret (r := some (.int v11)) trivial dX11_has_41
    · rw [if_pos c] at hf
      refine V.aload_n (q := 23) rfl dX11_has_22 rfl rfl ?_
      refine V.iconst (q := 24) (v := 1) (by decide) dX11_has_23 rfl ?_
      obtain ⟨_, e7, hf⟩ := bd_ex hf
      obtain ⟨v8, h3, eh3, hf⟩ := bd2_ex hf
      refine V.callV (q := 27) (ci := 11) (vs := [.int 1]) (st := []) (S2 := [.int v8]) okX11_refuse imX11_refuse seX11_refuse rfl lkX11_101 (tX11_refuse eh3) rfl (ck_is e7) (by decide) rfl (Nat.le_of_ble_eq_true rfl) (Nat.le_of_ble_eq_true rfl) rfl dX11_has_24 rfl rfl ?_
      obtain ⟨rfl, rfl⟩ := ret_inj hf
      exact V.ret (r := some (.int v8)) trivial dX11_has_27
def bX5_rulesNeverFirst_42 (k42 : MH → Nat → Int32 → Int32 → Int32 → Option (Int32 × MH)) (h : MH) (a0 : Nat) (x1 : Int32) (x2 : Int32) (x3 : Int32) : Option (Int32 × MH) := bd (gR h a0 5 1) fun b1 => bd (ck h b1 7) fun _ => bd2 (fX7_markSets h b1 ) fun v3 h1 => if v3 ≤ x3 then (some (x2, h1)) else (bd (ck h1 a0 5) fun _ => bd2 (fX5_firstRule h1 a0 x1 x3) fun v5 h2 => if v5 < 0 then (bd (some (x3 + 1)) fun v6 => k42 h2 a0 x1 x2 v6) else (bd (some (x2 &&& ((1 <<< (v5 &&& 31)) ^^^ (-1)))) fun v6 => bd (some (x3 + 1)) fun v7 => k42 h2 a0 x1 v6 v7))
set_option maxRecDepth 20000 in
theorem tX5_rulesNeverFirst_42 {r : Int32} {h' : MH} (k42 : MH → Nat → Int32 → Int32 → Int32 → Option (Int32 × MH)) (hk42 : ∀ (h : MH) (a0 : Nat) (x1 : Int32) (x2 : Int32) (x3 : Int32), k42 h a0 x1 x2 x3 = some (r, h') → V TT mX5_rulesNeverFirst 1 (some (.int r)) h' h 42 [.ref a0, .int x1, .int x2, .int x3, Jk] [])  {h : MH} {a0 : Nat} {x1 : Int32} {x2 : Int32} {x3 : Int32} (hf : bX5_rulesNeverFirst_42 k42 h a0 x1 x2 x3 = some (r, h')) : V TT mX5_rulesNeverFirst 1 (some (.int r)) h' h 42 [.ref a0, .int x1, .int x2, .int x3, Jk] [] := by
  unfold bX5_rulesNeverFirst_42 at hf
  refine V.iload_n (q := 43) rfl dX5_rulesNeverFirst_42 rfl rfl ?_
  refine V.aload_n (q := 44) rfl dX5_rulesNeverFirst_43 rfl rfl ?_
  obtain ⟨b1, eb1, hf⟩ := bd_ex hf
  refine V.getR (q := 47) flX5_21 rfl eb1 dX5_rulesNeverFirst_44 rfl ?_
  obtain ⟨_, e2, hf⟩ := bd_ex hf
  obtain ⟨v3, h1, eh1, hf⟩ := bd2_ex hf
  refine V.callV (q := 50) (ci := 7) (vs := []) (st := [.int x3]) (S2 := [.int v3, .int x3]) okX7_markSets imX7_markSets seX7_markSets rfl lkX5_97 (tX7_markSets eh1) rfl (ck_is e2) (by decide) rfl (Nat.le_of_ble_eq_true rfl) (Nat.le_of_ble_eq_true rfl) rfl dX5_rulesNeverFirst_47 rfl rfl ?_
  refine V.icmp_ge (q := 53) (tgt := 81) dX5_rulesNeverFirst_50 rfl (by decide) (fun c => ?_) (fun c => ?_)
  · rw [if_pos c] at hf
    refine V.iload_n (q := 82) rfl dX5_rulesNeverFirst_81 rfl rfl ?_
    obtain ⟨rfl, rfl⟩ := ret_inj hf
    exact V.ret (r := some (.int x2)) trivial dX5_rulesNeverFirst_82
  · rw [if_neg c] at hf
    refine V.aload_n (q := 54) rfl dX5_rulesNeverFirst_53 rfl rfl ?_
    refine V.iload_n (q := 55) rfl dX5_rulesNeverFirst_54 rfl rfl ?_
    refine V.iload_n (q := 56) rfl dX5_rulesNeverFirst_55 rfl rfl ?_
    obtain ⟨_, e4, hf⟩ := bd_ex hf
    obtain ⟨v5, h2, eh2, hf⟩ := bd2_ex hf
    refine V.callV (q := 59) (ci := 5) (vs := [.int x1, .int x3]) (st := []) (S2 := [.int v5]) okX5_firstRule imX5_firstRule seX5_firstRule rfl lkX5_61 (tX5_firstRule eh2) rfl (ck_is e4) (by decide) rfl (Nat.le_of_ble_eq_true rfl) (Nat.le_of_ble_eq_true rfl) rfl dX5_rulesNeverFirst_56 rfl rfl ?_
    refine V.istore (q := 61) (L' := [.ref a0, .int x1, .int x2, .int x3, .int v5]) dX5_rulesNeverFirst_59 rfl (by decide) rfl rfl ?_
    refine V.iload (q := 63) dX5_rulesNeverFirst_61 rfl rfl ?_
    refine V.if_lt (q := 66) (tgt := 75) dX5_rulesNeverFirst_63 rfl (by decide) (fun c => ?_) (fun c => ?_)
    · rw [if_pos c] at hf
      obtain ⟨v6, ev6, hf⟩ := bd_ex hf
      refine V.iinc (q := 78) (v := v6) (L' := [.ref a0, .int x1, .int x2, .int v6, .int v5]) dX5_rulesNeverFirst_75 rfl rfl (Option.some.inj ev6) (by decide) rfl rfl ?_
      refine V.goto (q := 42) dX5_rulesNeverFirst_78 (by decide) ?_
      refine V.forget (L' := [.ref a0, .int x1, .int x2, .int v6, Jk]) ⟨Or.inr rfl, Or.inr rfl, Or.inr rfl, Or.inr rfl, Or.inl rfl, trivial⟩ ?_
      exact hk42 _ _ _ _ _ hf
    · rw [if_neg c] at hf
      refine V.iload_n (q := 67) rfl dX5_rulesNeverFirst_66 rfl rfl ?_
      refine V.iconst (q := 68) (v := 1) (by decide) dX5_rulesNeverFirst_67 rfl ?_
      refine V.iload (q := 70) dX5_rulesNeverFirst_68 rfl rfl ?_
      refine V.ishl (q := 71) dX5_rulesNeverFirst_70 rfl ?_
      refine V.iconst (q := 72) (v := (-1)) (by decide) dX5_rulesNeverFirst_71 rfl ?_
      refine V.ixor (q := 73) dX5_rulesNeverFirst_72 rfl ?_
      refine V.iand (q := 74) dX5_rulesNeverFirst_73 rfl ?_
      obtain ⟨v6, ev6, hf⟩ := bd_ex hf
      refine V.topI (Option.some.inj ev6) ?_
      refine V.istore_n (q := 75) (L' := [.ref a0, .int x1, .int v6, .int x3, .int v5]) rfl dX5_rulesNeverFirst_74 rfl (by decide) rfl rfl ?_
      obtain ⟨v7, ev7, hf⟩ := bd_ex hf
      refine V.iinc (q := 78) (v := v7) (L' := [.ref a0, .int x1, .int v6, .int v7, .int v5]) dX5_rulesNeverFirst_75 rfl rfl (Option.some.inj ev7) (by decide) rfl rfl ?_
      refine V.goto (q := 42) dX5_rulesNeverFirst_78 (by decide) ?_
      refine V.forget (L' := [.ref a0, .int x1, .int v6, .int v7, Jk]) ⟨Or.inr rfl, Or.inr rfl, Or.inr rfl, Or.inr rfl, Or.inl rfl, trivial⟩ ?_
      exact hk42 _ _ _ _ _ hf
def fX5_rulesNeverFirst_42  : Nat → MH → Nat → Int32 → Int32 → Int32 → Option (Int32 × MH)
  | 0 => fun _ _ _ _ _ => none
  | n + 1 => bX5_rulesNeverFirst_42  (fX5_rulesNeverFirst_42  n)
theorem tlX5_rulesNeverFirst_42 {r : Int32} {h' : MH}   : ∀ (n : Nat) (h : MH) (a0 : Nat) (x1 : Int32) (x2 : Int32) (x3 : Int32), fX5_rulesNeverFirst_42  n h a0 x1 x2 x3 = some (r, h') → V TT mX5_rulesNeverFirst 1 (some (.int r)) h' h 42 [.ref a0, .int x1, .int x2, .int x3, Jk] [] := by
  intro n
  induction n with
  | zero => intro h a0 x1 x2 x3 hf; exact nomatch (show (none : Option (Int32 × MH)) = some (r, h') from hf)
  | succ n ih => intro h a0 x1 x2 x3 hf; exact tX5_rulesNeverFirst_42  (fX5_rulesNeverFirst_42  n) ih hf
def bX5_rulesNeverFirst_4 (k4 : MH → Nat → Int32 → Int32 → Int32 → Option (Int32 × MH)) (h : MH) (a0 : Nat) (x1 : Int32) (x2 : Int32) (x3 : Int32) : Option (Int32 × MH) := bd (gR h a0 5 1) fun b1 => bd (gI h b1 7 16) fun v2 => if v2 ≤ x3 then (fX5_rulesNeverFirst_42 FU h a0 x1 x2 0) else (bd (gR h a0 5 1) fun b3 => bd (gR h b3 7 4) fun b4 => bd (lI h b4 x3) fun v5 => if v5 = x1 then (bd (some (x2 ||| (1 <<< (x3 &&& 31)))) fun v6 => bd (some (x3 + 1)) fun v7 => k4 h a0 x1 v6 v7) else (bd (some (x3 + 1)) fun v6 => k4 h a0 x1 x2 v6))
set_option maxRecDepth 20000 in
theorem tX5_rulesNeverFirst_4 {r : Int32} {h' : MH} (k4 : MH → Nat → Int32 → Int32 → Int32 → Option (Int32 × MH)) (hk4 : ∀ (h : MH) (a0 : Nat) (x1 : Int32) (x2 : Int32) (x3 : Int32), k4 h a0 x1 x2 x3 = some (r, h') → V TT mX5_rulesNeverFirst 1 (some (.int r)) h' h 4 [.ref a0, .int x1, .int x2, .int x3, Jk] [])  {h : MH} {a0 : Nat} {x1 : Int32} {x2 : Int32} {x3 : Int32} (hf : bX5_rulesNeverFirst_4 k4 h a0 x1 x2 x3 = some (r, h')) : V TT mX5_rulesNeverFirst 1 (some (.int r)) h' h 4 [.ref a0, .int x1, .int x2, .int x3, Jk] [] := by
  unfold bX5_rulesNeverFirst_4 at hf
  refine V.iload_n (q := 5) rfl dX5_rulesNeverFirst_4 rfl rfl ?_
  refine V.aload_n (q := 6) rfl dX5_rulesNeverFirst_5 rfl rfl ?_
  obtain ⟨b1, eb1, hf⟩ := bd_ex hf
  refine V.getR (q := 9) flX5_21 rfl eb1 dX5_rulesNeverFirst_6 rfl ?_
  obtain ⟨v2, ev2, hf⟩ := bd_ex hf
  refine V.getI (q := 12) flX5_38 rfl ev2 dX5_rulesNeverFirst_9 rfl ?_
  refine V.icmp_ge (q := 15) (tgt := 40) dX5_rulesNeverFirst_12 rfl (by decide) (fun c => ?_) (fun c => ?_)
  · rw [if_pos c] at hf
    refine V.iconst (q := 41) (v := 0) (by decide) dX5_rulesNeverFirst_40 rfl ?_
    refine V.istore_n (q := 42) (L' := [.ref a0, .int x1, .int x2, .int 0, Jk]) rfl dX5_rulesNeverFirst_41 rfl (by decide) rfl rfl ?_
    exact tlX5_rulesNeverFirst_42  FU _ _ _ _ _ hf
  · rw [if_neg c] at hf
    refine V.aload_n (q := 16) rfl dX5_rulesNeverFirst_15 rfl rfl ?_
    obtain ⟨b3, eb3, hf⟩ := bd_ex hf
    refine V.getR (q := 19) flX5_21 rfl eb3 dX5_rulesNeverFirst_16 rfl ?_
    obtain ⟨b4, eb4, hf⟩ := bd_ex hf
    refine V.getR (q := 22) flX5_51 rfl eb4 dX5_rulesNeverFirst_19 rfl ?_
    refine V.iload_n (q := 23) rfl dX5_rulesNeverFirst_22 rfl rfl ?_
    obtain ⟨v5, ev5, hf⟩ := bd_ex hf
    refine V.iald (q := 24) ev5 dX5_rulesNeverFirst_23 rfl ?_
    refine V.iload_n (q := 25) rfl dX5_rulesNeverFirst_24 rfl rfl ?_
    refine V.icmp_ne (q := 28) (tgt := 34) dX5_rulesNeverFirst_25 rfl (by decide) (fun c => ?_) (fun c => ?_)
    · rw [if_neg c] at hf
      obtain ⟨v6, ev6, hf⟩ := bd_ex hf
      refine V.iinc (q := 37) (v := v6) (L' := [.ref a0, .int x1, .int x2, .int v6, Jk]) dX5_rulesNeverFirst_34 rfl rfl (Option.some.inj ev6) (by decide) rfl rfl ?_
      refine V.goto (q := 4) dX5_rulesNeverFirst_37 (by decide) ?_
      exact hk4 _ _ _ _ _ hf
    · rw [if_pos c] at hf
      refine V.iload_n (q := 29) rfl dX5_rulesNeverFirst_28 rfl rfl ?_
      refine V.iconst (q := 30) (v := 1) (by decide) dX5_rulesNeverFirst_29 rfl ?_
      refine V.iload_n (q := 31) rfl dX5_rulesNeverFirst_30 rfl rfl ?_
      refine V.ishl (q := 32) dX5_rulesNeverFirst_31 rfl ?_
      refine V.ior (q := 33) dX5_rulesNeverFirst_32 rfl ?_
      obtain ⟨v6, ev6, hf⟩ := bd_ex hf
      refine V.topI (Option.some.inj ev6) ?_
      refine V.istore_n (q := 34) (L' := [.ref a0, .int x1, .int v6, .int x3, Jk]) rfl dX5_rulesNeverFirst_33 rfl (by decide) rfl rfl ?_
      obtain ⟨v7, ev7, hf⟩ := bd_ex hf
      refine V.iinc (q := 37) (v := v7) (L' := [.ref a0, .int x1, .int v6, .int v7, Jk]) dX5_rulesNeverFirst_34 rfl rfl (Option.some.inj ev7) (by decide) rfl rfl ?_
      refine V.goto (q := 4) dX5_rulesNeverFirst_37 (by decide) ?_
      exact hk4 _ _ _ _ _ hf
def fX5_rulesNeverFirst_4  : Nat → MH → Nat → Int32 → Int32 → Int32 → Option (Int32 × MH)
  | 0 => fun _ _ _ _ _ => none
  | n + 1 => bX5_rulesNeverFirst_4  (fX5_rulesNeverFirst_4  n)
theorem tlX5_rulesNeverFirst_4 {r : Int32} {h' : MH}   : ∀ (n : Nat) (h : MH) (a0 : Nat) (x1 : Int32) (x2 : Int32) (x3 : Int32), fX5_rulesNeverFirst_4  n h a0 x1 x2 x3 = some (r, h') → V TT mX5_rulesNeverFirst 1 (some (.int r)) h' h 4 [.ref a0, .int x1, .int x2, .int x3, Jk] [] := by
  intro n
  induction n with
  | zero => intro h a0 x1 x2 x3 hf; exact nomatch (show (none : Option (Int32 × MH)) = some (r, h') from hf)
  | succ n ih => intro h a0 x1 x2 x3 hf; exact tX5_rulesNeverFirst_4  (fX5_rulesNeverFirst_4  n) ih hf
def fX5_rulesNeverFirst (h : MH) (a0 : Nat) (x1 : Int32) : Option (Int32 × MH) := fX5_rulesNeverFirst_4 FU h a0 x1 0 0
set_option maxRecDepth 20000 in
theorem tX5_rulesNeverFirst {r : Int32} {h' : MH} {h : MH} {a0 : Nat} {x1 : Int32} (hf : fX5_rulesNeverFirst h a0 x1 = some (r, h')) : VM mX5_rulesNeverFirst 1 (some (.int r)) h' h [.ref a0, .int x1] := by
  show V TT mX5_rulesNeverFirst 1 _ h' h 0 [.ref a0, .int x1, Jk, Jk, Jk] []
  unfold fX5_rulesNeverFirst at hf
  refine V.iconst (q := 1) (v := 0) (by decide) dX5_rulesNeverFirst_0 rfl ?_
  refine V.istore_n (q := 2) (L' := [.ref a0, .int x1, .int 0, Jk, Jk]) rfl dX5_rulesNeverFirst_1 rfl (by decide) rfl rfl ?_
  refine V.iconst (q := 3) (v := 0) (by decide) dX5_rulesNeverFirst_2 rfl ?_
  refine V.istore_n (q := 4) (L' := [.ref a0, .int x1, .int 0, .int 0, Jk]) rfl dX5_rulesNeverFirst_3 rfl (by decide) rfl rfl ?_
  exact tlX5_rulesNeverFirst_4  FU _ _ _ _ _ hf
def fX11_idleRules (h : MH) (a0 : Nat) (x1 : Int32) : Option (Int32 × MH) := bd (gR h a0 11 2) fun b1 => bd (ck h b1 5) fun _ => bd2 (fX5_hasStamp h b1 x1) fun v3 h1 => if v3 = 0 then (bd (ck h1 a0 11) fun _ => bd2 (fX11_refuse h1 a0 1) fun v5 h2 => some (v5, h2)) else (bd (gR h1 a0 11 2) fun b4 => bd (ck h1 b4 5) fun _ => bd2 (fX5_rulesNeverFirst h1 b4 x1) fun v6 h2 => bd (ck h2 a0 11) fun _ => bd2 (fX11_answer h2 a0 v6) fun v8 h3 => some (v8, h3))
set_option maxRecDepth 20000 in
theorem tX11_idleRules {r : Int32} {h' : MH} {h : MH} {a0 : Nat} {x1 : Int32} (hf : fX11_idleRules h a0 x1 = some (r, h')) : VM mX11_idleRules 2 (some (.int r)) h' h [.ref a0, .int x1] := by
  show V TT mX11_idleRules 2 _ h' h 0 [.ref a0, .int x1] []
  unfold fX11_idleRules at hf
  refine V.aload_n (q := 1) rfl dX11_idleRules_0 rfl rfl ?_
  obtain ⟨b1, eb1, hf⟩ := bd_ex hf
  refine V.getR (q := 4) flX11_28 rfl eb1 dX11_idleRules_1 rfl ?_
  refine V.iload_n (q := 5) rfl dX11_idleRules_4 rfl rfl ?_
  obtain ⟨_, e2, hf⟩ := bd_ex hf
  obtain ⟨v3, h1, eh1, hf⟩ := bd2_ex hf
  refine V.callV (q := 8) (ci := 5) (vs := [.int x1]) (st := []) (S2 := [.int v3]) okX5_hasStamp imX5_hasStamp seX5_hasStamp rfl lkX11_152 (tX5_hasStamp eh1) rfl (ck_is e2) (by decide) rfl (Nat.le_of_ble_eq_true rfl) (Nat.le_of_ble_eq_true rfl) rfl dX11_idleRules_5 rfl rfl ?_
  refine V.if_ne (q := 11) (tgt := 17) dX11_idleRules_8 rfl (by decide) (fun c => ?_) (fun c => ?_)
  · rw [if_neg c] at hf
    refine V.aload_n (q := 18) rfl dX11_idleRules_17 rfl rfl ?_
    refine V.aload_n (q := 19) rfl dX11_idleRules_18 rfl rfl ?_
    obtain ⟨b4, eb4, hf⟩ := bd_ex hf
    refine V.getR (q := 22) flX11_28 rfl eb4 dX11_idleRules_19 rfl ?_
    refine V.iload_n (q := 23) rfl dX11_idleRules_22 rfl rfl ?_
    obtain ⟨_, e5, hf⟩ := bd_ex hf
    obtain ⟨v6, h2, eh2, hf⟩ := bd2_ex hf
    refine V.callV (q := 26) (ci := 5) (vs := [.int x1]) (st := [.ref a0]) (S2 := [.int v6, .ref a0]) okX5_rulesNeverFirst imX5_rulesNeverFirst seX5_rulesNeverFirst rfl lkX11_224 (tX5_rulesNeverFirst eh2) rfl (ck_is e5) (by decide) rfl (Nat.le_of_ble_eq_true rfl) (Nat.le_of_ble_eq_true rfl) rfl dX11_idleRules_23 rfl rfl ?_
    obtain ⟨_, e7, hf⟩ := bd_ex hf
    obtain ⟨v8, h3, eh3, hf⟩ := bd2_ex hf
    refine V.callV (q := 29) (ci := 11) (vs := [.int v6]) (st := []) (S2 := [.int v8]) okX11_answer imX11_answer seX11_answer rfl lkX11_127 (tX11_answer eh3) rfl (ck_is e7) (by decide) rfl (Nat.le_of_ble_eq_true rfl) (Nat.le_of_ble_eq_true rfl) rfl dX11_idleRules_26 rfl rfl ?_
    obtain ⟨rfl, rfl⟩ := ret_inj hf
    exact V.ret (r := some (.int v8)) trivial dX11_idleRules_29
  · rw [if_pos c] at hf
    refine V.aload_n (q := 12) rfl dX11_idleRules_11 rfl rfl ?_
    refine V.iconst (q := 13) (v := 1) (by decide) dX11_idleRules_12 rfl ?_
    obtain ⟨_, e4, hf⟩ := bd_ex hf
    obtain ⟨v5, h2, eh2, hf⟩ := bd2_ex hf
    refine V.callV (q := 16) (ci := 11) (vs := [.int 1]) (st := []) (S2 := [.int v5]) okX11_refuse imX11_refuse seX11_refuse rfl lkX11_101 (tX11_refuse eh2) rfl (ck_is e4) (by decide) rfl (Nat.le_of_ble_eq_true rfl) (Nat.le_of_ble_eq_true rfl) rfl dX11_idleRules_13 rfl rfl ?_
    obtain ⟨rfl, rfl⟩ := ret_inj hf
    exact V.ret (r := some (.int v5)) trivial dX11_idleRules_16
def fX6_hasRoomForImage (h : MH) (a0 : Nat) : Option (Int32 × MH) := bd (gI h a0 6 4) fun v1 => if 3 ≤ v1 then (some (0, h)) else (some (1, h))
set_option maxRecDepth 20000 in
theorem tX6_hasRoomForImage {r : Int32} {h' : MH} {h : MH} {a0 : Nat} (hf : fX6_hasRoomForImage h a0 = some (r, h')) : VM mX6_hasRoomForImage 0 (some (.int r)) h' h [.ref a0] := by
  show V TT mX6_hasRoomForImage 0 _ h' h 0 [.ref a0] []
  unfold fX6_hasRoomForImage at hf
  refine V.aload_n (q := 1) rfl dX6_hasRoomForImage_0 rfl rfl ?_
  obtain ⟨v1, ev1, hf⟩ := bd_ex hf
  refine V.getI (q := 4) flX6_23 rfl ev1 dX6_hasRoomForImage_1 rfl ?_
  refine V.iconst (q := 5) (v := 3) (by decide) dX6_hasRoomForImage_4 rfl ?_
  refine V.icmp_ge (q := 8) (tgt := 12) dX6_hasRoomForImage_5 rfl (by decide) (fun c => ?_) (fun c => ?_)
  · rw [if_pos c] at hf
    refine V.iconst (q := 13) (v := 0) (by decide) dX6_hasRoomForImage_12 rfl ?_
    obtain ⟨rfl, rfl⟩ := ret_inj hf
    exact V.ret (r := some (.int 0)) (Or.inl rfl) dX6_hasRoomForImage_13
  · rw [if_neg c] at hf
    refine V.iconst (q := 9) (v := 1) (by decide) dX6_hasRoomForImage_8 rfl ?_
    refine V.goto (q := 13) dX6_hasRoomForImage_9 (by decide) ?_
    obtain ⟨rfl, rfl⟩ := ret_inj hf
    exact V.ret (r := some (.int 1)) (Or.inr rfl) dX6_hasRoomForImage_13
def fX6_keepImage (h : MH) (a0 : Nat) (a1 : Nat) : Option (Int32 × MH) := bd (gI h a0 6 4) fun v1 => bd (gR h a0 6 1) fun b2 => bd (lR h b2 v1) fun b3 => bd (ck h a1 4) fun _ => bd (fX4_copyTo h a1 b3) fun h1 => bd (gI h1 a0 6 4) fun v5 => bd (pI h1 a0 6 4 (v5 + 1)) fun h2 => some (v1, h2)
set_option maxRecDepth 20000 in
theorem tX6_keepImage {r : Int32} {h' : MH} {h : MH} {a0 : Nat} {a1 : Nat} (hf : fX6_keepImage h a0 a1 = some (r, h')) : VM mX6_keepImage 1 (some (.int r)) h' h [.ref a0, .ref a1] := by
  show V TT mX6_keepImage 1 _ h' h 0 [.ref a0, .ref a1, Jk] []
  unfold fX6_keepImage at hf
  refine V.aload_n (q := 1) rfl dX6_keepImage_0 rfl rfl ?_
  obtain ⟨v1, ev1, hf⟩ := bd_ex hf
  refine V.getI (q := 4) flX6_23 rfl ev1 dX6_keepImage_1 rfl ?_
  refine V.istore_n (q := 5) (L' := [.ref a0, .ref a1, .int v1]) rfl dX6_keepImage_4 rfl (by decide) rfl rfl ?_
  refine V.aload_n (q := 6) rfl dX6_keepImage_5 rfl rfl ?_
  refine V.aload_n (q := 7) rfl dX6_keepImage_6 rfl rfl ?_
  obtain ⟨b2, eb2, hf⟩ := bd_ex hf
  refine V.getR (q := 10) flX6_16 rfl eb2 dX6_keepImage_7 rfl ?_
  refine V.iload_n (q := 11) rfl dX6_keepImage_10 rfl rfl ?_
  obtain ⟨b3, eb3, hf⟩ := bd_ex hf
  refine V.aald (q := 12) eb3 dX6_keepImage_11 rfl ?_
  obtain ⟨_, e4, hf⟩ := bd_ex hf
  obtain ⟨h1, eh1, hf⟩ := bd_ex hf
  refine V.callV (q := 15) (ci := 4) (vs := [.ref b3]) (st := []) (S2 := []) okX4_copyTo imX4_copyTo seX4_copyTo rfl lkX6_29 (tX4_copyTo eh1) rfl (ck_is e4) (by decide) rfl (Nat.le_of_ble_eq_true rfl) (Nat.le_of_ble_eq_true rfl) rfl dX6_keepImage_12 rfl rfl ?_
  refine V.aload_n (q := 16) rfl dX6_keepImage_15 rfl rfl ?_
  refine V.dupR (q := 17) dX6_keepImage_16 rfl ?_
  obtain ⟨v5, ev5, hf⟩ := bd_ex hf
  refine V.getI (q := 20) flX6_23 rfl ev5 dX6_keepImage_17 rfl ?_
  refine V.iconst (q := 21) (v := 1) (by decide) dX6_keepImage_20 rfl ?_
  refine V.iadd (q := 22) dX6_keepImage_21 rfl ?_
  obtain ⟨h2, eh2, hf⟩ := bd_ex hf
  refine V.putI (q := 25) (fpX6_23 rfl) rfl eh2 dX6_keepImage_22 rfl ?_
  refine V.iload_n (q := 26) rfl dX6_keepImage_25 rfl rfl ?_
  obtain ⟨rfl, rfl⟩ := ret_inj hf
  exact V.ret (r := some (.int v1)) trivial dX6_keepImage_26
def fX11_image (h : MH) (a0 : Nat) : Option (Int32 × MH) := bd (gI h a0 11 9) fun v1 => if v1 = 0 then (bd (ck h a0 11) fun _ => bd2 (fX11_refuse h a0 1) fun v3 h1 => some (v3, h1)) else (bd (gR h a0 11 3) fun b2 => bd (ck h b2 6) fun _ => bd2 (fX6_hasRoomForImage h b2 ) fun v4 h1 => if v4 = 0 then (bd (ck h1 a0 11) fun _ => bd2 (fX11_refuse h1 a0 3) fun v6 h2 => some (v6, h2)) else (bd (gR h1 a0 11 3) fun b5 => bd (gR h1 a0 11 2) fun b6 => bd (gR h1 b6 5 0) fun b7 => bd (ck h1 b5 6) fun _ => bd2 (fX6_keepImage h1 b5 b7) fun v9 h2 => bd (ck h2 a0 11) fun _ => bd2 (fX11_answer h2 a0 v9) fun v11 h3 => some (v11, h3)))
set_option maxRecDepth 20000 in
theorem tX11_image {r : Int32} {h' : MH} {h : MH} {a0 : Nat} (hf : fX11_image h a0 = some (r, h')) : VM mX11_image 2 (some (.int r)) h' h [.ref a0] := by
  show V TT mX11_image 2 _ h' h 0 [.ref a0] []
  unfold fX11_image at hf
  refine V.aload_n (q := 1) rfl dX11_image_0 rfl rfl ?_
  obtain ⟨v1, ev1, hf⟩ := bd_ex hf
  refine V.getI (q := 4) flX11_76 rfl ev1 dX11_image_1 rfl ?_
  refine V.if_ne (q := 7) (tgt := 13) dX11_image_4 rfl (by decide) (fun c => ?_) (fun c => ?_)
  · rw [if_neg c] at hf
    refine V.aload_n (q := 14) rfl dX11_image_13 rfl rfl ?_
    obtain ⟨b2, eb2, hf⟩ := bd_ex hf
    refine V.getR (q := 17) flX11_35 rfl eb2 dX11_image_14 rfl ?_
    obtain ⟨_, e3, hf⟩ := bd_ex hf
    obtain ⟨v4, h1, eh1, hf⟩ := bd2_ex hf
    refine V.callV (q := 20) (ci := 6) (vs := []) (st := []) (S2 := [.int v4]) okX6_hasRoomForImage imX6_hasRoomForImage seX6_hasRoomForImage rfl lkX11_375 (tX6_hasRoomForImage eh1) rfl (ck_is e3) (by decide) rfl (Nat.le_of_ble_eq_true rfl) (Nat.le_of_ble_eq_true rfl) rfl dX11_image_17 rfl rfl ?_
    refine V.if_ne (q := 23) (tgt := 29) dX11_image_20 rfl (by decide) (fun c => ?_) (fun c => ?_)
    · rw [if_neg c] at hf
      refine V.aload_n (q := 30) rfl dX11_image_29 rfl rfl ?_
      refine V.aload_n (q := 31) rfl dX11_image_30 rfl rfl ?_
      obtain ⟨b5, eb5, hf⟩ := bd_ex hf
      refine V.getR (q := 34) flX11_35 rfl eb5 dX11_image_31 rfl ?_
      refine V.aload_n (q := 35) rfl dX11_image_34 rfl rfl ?_
      obtain ⟨b6, eb6, hf⟩ := bd_ex hf
      refine V.getR (q := 38) flX11_28 rfl eb6 dX11_image_35 rfl ?_
      obtain ⟨b7, eb7, hf⟩ := bd_ex hf
      refine V.getR (q := 41) flX11_137 rfl eb7 dX11_image_38 rfl ?_
      obtain ⟨_, e8, hf⟩ := bd_ex hf
      obtain ⟨v9, h2, eh2, hf⟩ := bd2_ex hf
      refine V.callV (q := 44) (ci := 6) (vs := [.ref b7]) (st := [.ref a0]) (S2 := [.int v9, .ref a0]) okX6_keepImage imX6_keepImage seX6_keepImage rfl lkX11_378 (tX6_keepImage eh2) rfl (ck_is e8) (by decide) rfl (Nat.le_of_ble_eq_true rfl) (Nat.le_of_ble_eq_true rfl) rfl dX11_image_41 rfl rfl ?_
      obtain ⟨_, e10, hf⟩ := bd_ex hf
      obtain ⟨v11, h3, eh3, hf⟩ := bd2_ex hf
      refine V.callV (q := 47) (ci := 11) (vs := [.int v9]) (st := []) (S2 := [.int v11]) okX11_answer imX11_answer seX11_answer rfl lkX11_127 (tX11_answer eh3) rfl (ck_is e10) (by decide) rfl (Nat.le_of_ble_eq_true rfl) (Nat.le_of_ble_eq_true rfl) rfl dX11_image_44 rfl rfl ?_
      obtain ⟨rfl, rfl⟩ := ret_inj hf
      exact V.ret (r := some (.int v11)) trivial dX11_image_47
    · rw [if_pos c] at hf
      refine V.aload_n (q := 24) rfl dX11_image_23 rfl rfl ?_
      refine V.iconst (q := 25) (v := 3) (by decide) dX11_image_24 rfl ?_
      obtain ⟨_, e5, hf⟩ := bd_ex hf
      obtain ⟨v6, h2, eh2, hf⟩ := bd2_ex hf
      refine V.callV (q := 28) (ci := 11) (vs := [.int 3]) (st := []) (S2 := [.int v6]) okX11_refuse imX11_refuse seX11_refuse rfl lkX11_101 (tX11_refuse eh2) rfl (ck_is e5) (by decide) rfl (Nat.le_of_ble_eq_true rfl) (Nat.le_of_ble_eq_true rfl) rfl dX11_image_25 rfl rfl ?_
      obtain ⟨rfl, rfl⟩ := ret_inj hf
      exact V.ret (r := some (.int v6)) trivial dX11_image_28
  · rw [if_pos c] at hf
    refine V.aload_n (q := 8) rfl dX11_image_7 rfl rfl ?_
    refine V.iconst (q := 9) (v := 1) (by decide) dX11_image_8 rfl ?_
    obtain ⟨_, e2, hf⟩ := bd_ex hf
    obtain ⟨v3, h1, eh1, hf⟩ := bd2_ex hf
    refine V.callV (q := 12) (ci := 11) (vs := [.int 1]) (st := []) (S2 := [.int v3]) okX11_refuse imX11_refuse seX11_refuse rfl lkX11_101 (tX11_refuse eh1) rfl (ck_is e2) (by decide) rfl (Nat.le_of_ble_eq_true rfl) (Nat.le_of_ble_eq_true rfl) rfl dX11_image_9 rfl rfl ?_
    obtain ⟨rfl, rfl⟩ := ret_inj hf
    exact V.ret (r := some (.int v3)) trivial dX11_image_12
def fX1_init (h : MH) (a0 : Nat) (a1 : Nat) : Option (MH) := bd2 (nO2 h 15 3) fun b1 h1 => bd (pR h1 a0 1 1 b1) fun h2 => bd2 (nO2 h2 15 5) fun b2 h3 => bd (pR h3 a0 1 2 b2) fun h4 => bd (pR h4 a0 1 0 a1) fun h5 => some h5
set_option maxRecDepth 20000 in
theorem tX1_init {h' : MH} {h : MH} {a0 : Nat} {a1 : Nat} (hf : fX1_init h a0 a1 = some h') : VM mX1_init 1 none h' h [.ref a0, .ref a1] := by
  show V TT mX1_init 1 _ h' h 0 [.ref a0, .ref a1] []
  unfold fX1_init at hf
  refine V.aload_n (q := 1) rfl dX1_init_0 rfl rfl ?_
  refine V.objInit (q := 4) oiX1_3 (by decide) (Nat.le_of_ble_eq_true rfl) dX1_init_1 rfl ?_
  refine V.aload_n (q := 5) rfl dX1_init_4 rfl rfl ?_
  refine V.iconst (q := 6) (v := 3) (by decide) dX1_init_5 rfl ?_
  obtain ⟨b1, h1, eh1, hf⟩ := bd2_ex hf
  obtain ⟨rfl, rfl⟩ := ret_inj eh1
  refine V.newI (q := 8) (N := 3) (by decide) (by decide) (by decide) dX1_init_6 rfl ?_
  generalize hqh1 : nC h 15 3 = h1 at hf ⊢
  generalize hph1 : h.2.2.2.length = b1 at hf ⊢
  obtain ⟨h2, eh2, hf⟩ := bd_ex hf
  refine V.putR (q := 11) (fqX1_9 rfl rfl) rfl eh2 dX1_init_8 rfl ?_
  refine V.aload_n (q := 12) rfl dX1_init_11 rfl rfl ?_
  refine V.iconst (q := 13) (v := 5) (by decide) dX1_init_12 rfl ?_
  obtain ⟨b2, h3, eh3, hf⟩ := bd2_ex hf
  obtain ⟨rfl, rfl⟩ := ret_inj eh3
  refine V.newI (q := 15) (N := 5) (by decide) (by decide) (by decide) dX1_init_13 rfl ?_
  generalize hqh3 : nC h2 15 5 = h3 at hf ⊢
  generalize hph3 : h2.2.2.2.length = b2 at hf ⊢
  obtain ⟨h4, eh4, hf⟩ := bd_ex hf
  refine V.putR (q := 18) (fqX1_15 rfl rfl) rfl eh4 dX1_init_15 rfl ?_
  refine V.aload_n (q := 19) rfl dX1_init_18 rfl rfl ?_
  refine V.aload_n (q := 20) rfl dX1_init_19 rfl rfl ?_
  obtain ⟨h5, eh5, hf⟩ := bd_ex hf
  refine V.putR (q := 23) (fqX1_18 rfl rfl) rfl eh5 dX1_init_20 rfl ?_
  cases hf
  exact V.ret (r := none) trivial dX1_init_23
def fX2_init (h : MH) (a0 : Nat) (a1 : Nat) : Option (MH) := bd (pR h a0 2 0 a1) fun h1 => some h1
set_option maxRecDepth 20000 in
theorem tX2_init {h' : MH} {h : MH} {a0 : Nat} {a1 : Nat} (hf : fX2_init h a0 a1 = some h') : VM mX2_init 1 none h' h [.ref a0, .ref a1] := by
  show V TT mX2_init 1 _ h' h 0 [.ref a0, .ref a1] []
  unfold fX2_init at hf
  refine V.aload_n (q := 1) rfl dX2_init_0 rfl rfl ?_
  refine V.objInit (q := 4) oiX2_3 (by decide) (Nat.le_of_ble_eq_true rfl) dX2_init_1 rfl ?_
  refine V.aload_n (q := 5) rfl dX2_init_4 rfl rfl ?_
  refine V.aload_n (q := 6) rfl dX2_init_5 rfl rfl ?_
  obtain ⟨h1, eh1, hf⟩ := bd_ex hf
  refine V.putR (q := 9) (fqX2_9 rfl rfl) rfl eh1 dX2_init_6 rfl ?_
  cases hf
  exact V.ret (r := none) trivial dX2_init_9
def fX3_init (h : MH) (a0 : Nat) (a1 : Nat) : Option (MH) := bd2 (nO2 h 15 5) fun b1 h1 => bd (pR h1 a0 3 1 b1) fun h2 => bd2 (nO2 h2 15 6) fun b2 h3 => bd (pR h3 a0 3 2 b2) fun h4 => bd2 (nO2 h4 15 4) fun b3 h5 => bd (pR h5 a0 3 3 b3) fun h6 => bd2 (nO2 h6 15 3) fun b4 h7 => bd (pR h7 a0 3 4 b4) fun h8 => bd2 (nO2 h8 15 5) fun b5 h9 => bd (pR h9 a0 3 5 b5) fun h10 => bd2 (nO2 h10 15 5) fun b6 h11 => bd (pR h11 a0 3 6 b6) fun h12 => bd (pR h12 a0 3 0 a1) fun h13 => some h13
set_option maxRecDepth 20000 in
theorem tX3_init {h' : MH} {h : MH} {a0 : Nat} {a1 : Nat} (hf : fX3_init h a0 a1 = some h') : VM mX3_init 1 none h' h [.ref a0, .ref a1] := by
  show V TT mX3_init 1 _ h' h 0 [.ref a0, .ref a1] []
  unfold fX3_init at hf
  refine V.aload_n (q := 1) rfl dX3_init_0 rfl rfl ?_
  refine V.objInit (q := 4) oiX3_3 (by decide) (Nat.le_of_ble_eq_true rfl) dX3_init_1 rfl ?_
  refine V.aload_n (q := 5) rfl dX3_init_4 rfl rfl ?_
  refine V.iconst (q := 6) (v := 5) (by decide) dX3_init_5 rfl ?_
  obtain ⟨b1, h1, eh1, hf⟩ := bd2_ex hf
  obtain ⟨rfl, rfl⟩ := ret_inj eh1
  refine V.newI (q := 8) (N := 5) (by decide) (by decide) (by decide) dX3_init_6 rfl ?_
  generalize hqh1 : nC h 15 5 = h1 at hf ⊢
  generalize hph1 : h.2.2.2.length = b1 at hf ⊢
  obtain ⟨h2, eh2, hf⟩ := bd_ex hf
  refine V.putR (q := 11) (fqX3_9 rfl rfl) rfl eh2 dX3_init_8 rfl ?_
  refine V.aload_n (q := 12) rfl dX3_init_11 rfl rfl ?_
  refine V.bipush (q := 14) (v := 6) (by decide) dX3_init_12 rfl ?_
  obtain ⟨b2, h3, eh3, hf⟩ := bd2_ex hf
  obtain ⟨rfl, rfl⟩ := ret_inj eh3
  refine V.newI (q := 16) (N := 6) (by decide) (by decide) (by decide) dX3_init_14 rfl ?_
  generalize hqh3 : nC h2 15 6 = h3 at hf ⊢
  generalize hph3 : h2.2.2.2.length = b2 at hf ⊢
  obtain ⟨h4, eh4, hf⟩ := bd_ex hf
  refine V.putR (q := 19) (fqX3_15 rfl rfl) rfl eh4 dX3_init_16 rfl ?_
  refine V.aload_n (q := 20) rfl dX3_init_19 rfl rfl ?_
  refine V.iconst (q := 21) (v := 4) (by decide) dX3_init_20 rfl ?_
  obtain ⟨b3, h5, eh5, hf⟩ := bd2_ex hf
  obtain ⟨rfl, rfl⟩ := ret_inj eh5
  refine V.newI (q := 23) (N := 4) (by decide) (by decide) (by decide) dX3_init_21 rfl ?_
  generalize hqh5 : nC h4 15 4 = h5 at hf ⊢
  generalize hph5 : h4.2.2.2.length = b3 at hf ⊢
  obtain ⟨h6, eh6, hf⟩ := bd_ex hf
  refine V.putR (q := 26) (fqX3_18 rfl rfl) rfl eh6 dX3_init_23 rfl ?_
  refine V.aload_n (q := 27) rfl dX3_init_26 rfl rfl ?_
  refine V.iconst (q := 28) (v := 3) (by decide) dX3_init_27 rfl ?_
  obtain ⟨b4, h7, eh7, hf⟩ := bd2_ex hf
  obtain ⟨rfl, rfl⟩ := ret_inj eh7
  refine V.newI (q := 30) (N := 3) (by decide) (by decide) (by decide) dX3_init_28 rfl ?_
  generalize hqh7 : nC h6 15 3 = h7 at hf ⊢
  generalize hph7 : h6.2.2.2.length = b4 at hf ⊢
  obtain ⟨h8, eh8, hf⟩ := bd_ex hf
  refine V.putR (q := 33) (fqX3_21 rfl rfl) rfl eh8 dX3_init_30 rfl ?_
  refine V.aload_n (q := 34) rfl dX3_init_33 rfl rfl ?_
  refine V.iconst (q := 35) (v := 5) (by decide) dX3_init_34 rfl ?_
  obtain ⟨b5, h9, eh9, hf⟩ := bd2_ex hf
  obtain ⟨rfl, rfl⟩ := ret_inj eh9
  refine V.newI (q := 37) (N := 5) (by decide) (by decide) (by decide) dX3_init_35 rfl ?_
  generalize hqh9 : nC h8 15 5 = h9 at hf ⊢
  generalize hph9 : h8.2.2.2.length = b5 at hf ⊢
  obtain ⟨h10, eh10, hf⟩ := bd_ex hf
  refine V.putR (q := 40) (fqX3_24 rfl rfl) rfl eh10 dX3_init_37 rfl ?_
  refine V.aload_n (q := 41) rfl dX3_init_40 rfl rfl ?_
  refine V.iconst (q := 42) (v := 5) (by decide) dX3_init_41 rfl ?_
  obtain ⟨b6, h11, eh11, hf⟩ := bd2_ex hf
  obtain ⟨rfl, rfl⟩ := ret_inj eh11
  refine V.newI (q := 44) (N := 5) (by decide) (by decide) (by decide) dX3_init_42 rfl ?_
  generalize hqh11 : nC h10 15 5 = h11 at hf ⊢
  generalize hph11 : h10.2.2.2.length = b6 at hf ⊢
  obtain ⟨h12, eh12, hf⟩ := bd_ex hf
  refine V.putR (q := 47) (fqX3_27 rfl rfl) rfl eh12 dX3_init_44 rfl ?_
  refine V.aload_n (q := 48) rfl dX3_init_47 rfl rfl ?_
  refine V.aload_n (q := 49) rfl dX3_init_48 rfl rfl ?_
  obtain ⟨h13, eh13, hf⟩ := bd_ex hf
  refine V.putR (q := 52) (fqX3_30 rfl rfl) rfl eh13 dX3_init_49 rfl ?_
  cases hf
  exact V.ret (r := none) trivial dX3_init_52
def fX4_init (h : MH) (a0 : Nat) : Option (MH) := bd2 (nO2 h 15 31) fun b1 h1 => bd (pR h1 a0 4 0 b1) fun h2 => some h2
set_option maxRecDepth 20000 in
theorem tX4_init {h' : MH} {h : MH} {a0 : Nat} (hf : fX4_init h a0 = some h') : VM mX4_init 1 none h' h [.ref a0] := by
  show V TT mX4_init 1 _ h' h 0 [.ref a0] []
  unfold fX4_init at hf
  refine V.aload_n (q := 1) rfl dX4_init_0 rfl rfl ?_
  refine V.objInit (q := 4) oiX4_5 (by decide) (Nat.le_of_ble_eq_true rfl) dX4_init_1 rfl ?_
  refine V.aload_n (q := 5) rfl dX4_init_4 rfl rfl ?_
  refine V.bipush (q := 7) (v := 31) (by decide) dX4_init_5 rfl ?_
  obtain ⟨b1, h1, eh1, hf⟩ := bd2_ex hf
  obtain ⟨rfl, rfl⟩ := ret_inj eh1
  refine V.newI (q := 9) (N := 31) (by decide) (by decide) (by decide) dX4_init_7 rfl ?_
  generalize hqh1 : nC h 15 31 = h1 at hf ⊢
  generalize hph1 : h.2.2.2.length = b1 at hf ⊢
  obtain ⟨h2, eh2, hf⟩ := bd_ex hf
  refine V.putR (q := 12) (fqX4_11 rfl rfl) rfl eh2 dX4_init_9 rfl ?_
  cases hf
  exact V.ret (r := none) trivial dX4_init_12
def fX7_init (h : MH) (a0 : Nat) : Option (MH) := bd2 (nO2 h 15 5) fun b1 h1 => bd (pR h1 a0 7 0 b1) fun h2 => bd2 (nO2 h2 15 5) fun b2 h3 => bd (pR h3 a0 7 1 b2) fun h4 => bd2 (nO2 h4 15 4) fun b3 h5 => bd (pR h5 a0 7 2 b3) fun h6 => bd2 (nO2 h6 15 4) fun b4 h7 => bd (pR h7 a0 7 3 b4) fun h8 => bd2 (nO2 h8 15 10) fun b5 h9 => bd (pR h9 a0 7 4 b5) fun h10 => bd2 (nO2 h10 15 10) fun b6 h11 => bd (pR h11 a0 7 5 b6) fun h12 => bd2 (nO2 h12 15 10) fun b7 h13 => bd (pR h13 a0 7 6 b7) fun h14 => bd2 (nO2 h14 15 3) fun b8 h15 => bd (pR h15 a0 7 7 b8) fun h16 => bd2 (nO2 h16 15 3) fun b9 h17 => bd (pR h17 a0 7 8 b9) fun h18 => bd2 (nO2 h18 15 4) fun b10 h19 => bd (pR h19 a0 7 9 b10) fun h20 => bd2 (nO2 h20 15 4) fun b11 h21 => bd (pR h21 a0 7 10 b11) fun h22 => bd2 (nO2 h22 15 4) fun b12 h23 => bd (pR h23 a0 7 11 b12) fun h24 => some h24
set_option maxRecDepth 20000 in
theorem tX7_init {h' : MH} {h : MH} {a0 : Nat} (hf : fX7_init h a0 = some h') : VM mX7_init 1 none h' h [.ref a0] := by
  show V TT mX7_init 1 _ h' h 0 [.ref a0] []
  unfold fX7_init at hf
  refine V.aload_n (q := 1) rfl dX7_init_0 rfl rfl ?_
  refine V.objInit (q := 4) oiX7_3 (by decide) (Nat.le_of_ble_eq_true rfl) dX7_init_1 rfl ?_
  refine V.aload_n (q := 5) rfl dX7_init_4 rfl rfl ?_
  refine V.iconst (q := 6) (v := 5) (by decide) dX7_init_5 rfl ?_
  obtain ⟨b1, h1, eh1, hf⟩ := bd2_ex hf
  obtain ⟨rfl, rfl⟩ := ret_inj eh1
  refine V.newI (q := 8) (N := 5) (by decide) (by decide) (by decide) dX7_init_6 rfl ?_
  generalize hqh1 : nC h 15 5 = h1 at hf ⊢
  generalize hph1 : h.2.2.2.length = b1 at hf ⊢
  obtain ⟨h2, eh2, hf⟩ := bd_ex hf
  refine V.putR (q := 11) (fqX7_9 rfl rfl) rfl eh2 dX7_init_8 rfl ?_
  refine V.aload_n (q := 12) rfl dX7_init_11 rfl rfl ?_
  refine V.iconst (q := 13) (v := 5) (by decide) dX7_init_12 rfl ?_
  obtain ⟨b2, h3, eh3, hf⟩ := bd2_ex hf
  obtain ⟨rfl, rfl⟩ := ret_inj eh3
  refine V.newI (q := 15) (N := 5) (by decide) (by decide) (by decide) dX7_init_13 rfl ?_
  generalize hqh3 : nC h2 15 5 = h3 at hf ⊢
  generalize hph3 : h2.2.2.2.length = b2 at hf ⊢
  obtain ⟨h4, eh4, hf⟩ := bd_ex hf
  refine V.putR (q := 18) (fqX7_15 rfl rfl) rfl eh4 dX7_init_15 rfl ?_
  refine V.aload_n (q := 19) rfl dX7_init_18 rfl rfl ?_
  refine V.iconst (q := 20) (v := 4) (by decide) dX7_init_19 rfl ?_
  obtain ⟨b3, h5, eh5, hf⟩ := bd2_ex hf
  obtain ⟨rfl, rfl⟩ := ret_inj eh5
  refine V.newI (q := 22) (N := 4) (by decide) (by decide) (by decide) dX7_init_20 rfl ?_
  generalize hqh5 : nC h4 15 4 = h5 at hf ⊢
  generalize hph5 : h4.2.2.2.length = b3 at hf ⊢
  obtain ⟨h6, eh6, hf⟩ := bd_ex hf
  refine V.putR (q := 25) (fqX7_18 rfl rfl) rfl eh6 dX7_init_22 rfl ?_
  refine V.aload_n (q := 26) rfl dX7_init_25 rfl rfl ?_
  refine V.iconst (q := 27) (v := 4) (by decide) dX7_init_26 rfl ?_
  obtain ⟨b4, h7, eh7, hf⟩ := bd2_ex hf
  obtain ⟨rfl, rfl⟩ := ret_inj eh7
  refine V.newI (q := 29) (N := 4) (by decide) (by decide) (by decide) dX7_init_27 rfl ?_
  generalize hqh7 : nC h6 15 4 = h7 at hf ⊢
  generalize hph7 : h6.2.2.2.length = b4 at hf ⊢
  obtain ⟨h8, eh8, hf⟩ := bd_ex hf
  refine V.putR (q := 32) (fqX7_21 rfl rfl) rfl eh8 dX7_init_29 rfl ?_
  refine V.aload_n (q := 33) rfl dX7_init_32 rfl rfl ?_
  refine V.bipush (q := 35) (v := 10) (by decide) dX7_init_33 rfl ?_
  obtain ⟨b5, h9, eh9, hf⟩ := bd2_ex hf
  obtain ⟨rfl, rfl⟩ := ret_inj eh9
  refine V.newI (q := 37) (N := 10) (by decide) (by decide) (by decide) dX7_init_35 rfl ?_
  generalize hqh9 : nC h8 15 10 = h9 at hf ⊢
  generalize hph9 : h8.2.2.2.length = b5 at hf ⊢
  obtain ⟨h10, eh10, hf⟩ := bd_ex hf
  refine V.putR (q := 40) (fqX7_24 rfl rfl) rfl eh10 dX7_init_37 rfl ?_
  refine V.aload_n (q := 41) rfl dX7_init_40 rfl rfl ?_
  refine V.bipush (q := 43) (v := 10) (by decide) dX7_init_41 rfl ?_
  obtain ⟨b6, h11, eh11, hf⟩ := bd2_ex hf
  obtain ⟨rfl, rfl⟩ := ret_inj eh11
  refine V.newI (q := 45) (N := 10) (by decide) (by decide) (by decide) dX7_init_43 rfl ?_
  generalize hqh11 : nC h10 15 10 = h11 at hf ⊢
  generalize hph11 : h10.2.2.2.length = b6 at hf ⊢
  obtain ⟨h12, eh12, hf⟩ := bd_ex hf
  refine V.putR (q := 48) (fqX7_27 rfl rfl) rfl eh12 dX7_init_45 rfl ?_
  refine V.aload_n (q := 49) rfl dX7_init_48 rfl rfl ?_
  refine V.bipush (q := 51) (v := 10) (by decide) dX7_init_49 rfl ?_
  obtain ⟨b7, h13, eh13, hf⟩ := bd2_ex hf
  obtain ⟨rfl, rfl⟩ := ret_inj eh13
  refine V.newI (q := 53) (N := 10) (by decide) (by decide) (by decide) dX7_init_51 rfl ?_
  generalize hqh13 : nC h12 15 10 = h13 at hf ⊢
  generalize hph13 : h12.2.2.2.length = b7 at hf ⊢
  obtain ⟨h14, eh14, hf⟩ := bd_ex hf
  refine V.putR (q := 56) (fqX7_30 rfl rfl) rfl eh14 dX7_init_53 rfl ?_
  refine V.aload_n (q := 57) rfl dX7_init_56 rfl rfl ?_
  refine V.iconst (q := 58) (v := 3) (by decide) dX7_init_57 rfl ?_
  obtain ⟨b8, h15, eh15, hf⟩ := bd2_ex hf
  obtain ⟨rfl, rfl⟩ := ret_inj eh15
  refine V.newI (q := 60) (N := 3) (by decide) (by decide) (by decide) dX7_init_58 rfl ?_
  generalize hqh15 : nC h14 15 3 = h15 at hf ⊢
  generalize hph15 : h14.2.2.2.length = b8 at hf ⊢
  obtain ⟨h16, eh16, hf⟩ := bd_ex hf
  refine V.putR (q := 63) (fqX7_33 rfl rfl) rfl eh16 dX7_init_60 rfl ?_
  refine V.aload_n (q := 64) rfl dX7_init_63 rfl rfl ?_
  refine V.iconst (q := 65) (v := 3) (by decide) dX7_init_64 rfl ?_
  obtain ⟨b9, h17, eh17, hf⟩ := bd2_ex hf
  obtain ⟨rfl, rfl⟩ := ret_inj eh17
  refine V.newI (q := 67) (N := 3) (by decide) (by decide) (by decide) dX7_init_65 rfl ?_
  generalize hqh17 : nC h16 15 3 = h17 at hf ⊢
  generalize hph17 : h16.2.2.2.length = b9 at hf ⊢
  obtain ⟨h18, eh18, hf⟩ := bd_ex hf
  refine V.putR (q := 70) (fqX7_36 rfl rfl) rfl eh18 dX7_init_67 rfl ?_
  refine V.aload_n (q := 71) rfl dX7_init_70 rfl rfl ?_
  refine V.iconst (q := 72) (v := 4) (by decide) dX7_init_71 rfl ?_
  obtain ⟨b10, h19, eh19, hf⟩ := bd2_ex hf
  obtain ⟨rfl, rfl⟩ := ret_inj eh19
  refine V.newI (q := 74) (N := 4) (by decide) (by decide) (by decide) dX7_init_72 rfl ?_
  generalize hqh19 : nC h18 15 4 = h19 at hf ⊢
  generalize hph19 : h18.2.2.2.length = b10 at hf ⊢
  obtain ⟨h20, eh20, hf⟩ := bd_ex hf
  refine V.putR (q := 77) (fqX7_39 rfl rfl) rfl eh20 dX7_init_74 rfl ?_
  refine V.aload_n (q := 78) rfl dX7_init_77 rfl rfl ?_
  refine V.iconst (q := 79) (v := 4) (by decide) dX7_init_78 rfl ?_
  obtain ⟨b11, h21, eh21, hf⟩ := bd2_ex hf
  obtain ⟨rfl, rfl⟩ := ret_inj eh21
  refine V.newI (q := 81) (N := 4) (by decide) (by decide) (by decide) dX7_init_79 rfl ?_
  generalize hqh21 : nC h20 15 4 = h21 at hf ⊢
  generalize hph21 : h20.2.2.2.length = b11 at hf ⊢
  obtain ⟨h22, eh22, hf⟩ := bd_ex hf
  refine V.putR (q := 84) (fqX7_42 rfl rfl) rfl eh22 dX7_init_81 rfl ?_
  refine V.aload_n (q := 85) rfl dX7_init_84 rfl rfl ?_
  refine V.iconst (q := 86) (v := 4) (by decide) dX7_init_85 rfl ?_
  obtain ⟨b12, h23, eh23, hf⟩ := bd2_ex hf
  obtain ⟨rfl, rfl⟩ := ret_inj eh23
  refine V.newI (q := 88) (N := 4) (by decide) (by decide) (by decide) dX7_init_86 rfl ?_
  generalize hqh23 : nC h22 15 4 = h23 at hf ⊢
  generalize hph23 : h22.2.2.2.length = b12 at hf ⊢
  obtain ⟨h24, eh24, hf⟩ := bd_ex hf
  refine V.putR (q := 91) (fqX7_45 rfl rfl) rfl eh24 dX7_init_88 rfl ?_
  cases hf
  exact V.ret (r := none) trivial dX7_init_91
def fX5_init (h : MH) (a0 : Nat) : Option (MH) := bd2 (nO h 4) fun b1 h1 => bd (fX4_init h1 b1 ) fun h2 => bd (pR h2 a0 5 0 b1) fun h3 => bd2 (nO h3 7) fun b2 h4 => bd (fX7_init h4 b2 ) fun h5 => bd (pR h5 a0 5 1 b2) fun h6 => some h6
set_option maxRecDepth 20000 in
theorem tX5_init {h' : MH} {h : MH} {a0 : Nat} (hf : fX5_init h a0 = some h') : VM mX5_init 2 none h' h [.ref a0] := by
  show V TT mX5_init 2 _ h' h 0 [.ref a0] []
  unfold fX5_init at hf
  refine V.aload_n (q := 1) rfl dX5_init_0 rfl rfl ?_
  refine V.objInit (q := 4) oiX5_3 (by decide) (Nat.le_of_ble_eq_true rfl) dX5_init_1 rfl ?_
  refine V.aload_n (q := 5) rfl dX5_init_4 rfl rfl ?_
  obtain ⟨b1, h1, eh1, hf⟩ := bd2_ex hf
  obtain ⟨rfl, rfl⟩ := ret_inj eh1
  refine V.new (q := 8) nlX5_9 dX5_init_5 rfl ?_
  generalize hqh1 : nC h 4 0 = h1 at hf ⊢
  generalize hph1 : h.2.2.2.length = b1 at hf ⊢
  refine V.dupR (q := 9) dX5_init_8 rfl ?_
  obtain ⟨h2, eh2, hf⟩ := bd_ex hf
  refine V.callIN (q := 12) (vs := []) (st := [.ref b1, .ref a0]) (S2 := [.ref b1, .ref a0]) okX4_init imX4_init ⟨rfl, rfl⟩ lnX5_11 (tX4_init eh2) rfl (by decide) rfl (Nat.le_of_ble_eq_true rfl) (Nat.le_of_ble_eq_true rfl) rfl dX5_init_9 rfl rfl ?_
  obtain ⟨h3, eh3, hf⟩ := bd_ex hf
  refine V.putR (q := 15) (fqX5_12 rfl rfl) rfl eh3 dX5_init_12 rfl ?_
  refine V.aload_n (q := 16) rfl dX5_init_15 rfl rfl ?_
  obtain ⟨b2, h4, eh4, hf⟩ := bd2_ex hf
  obtain ⟨rfl, rfl⟩ := ret_inj eh4
  refine V.new (q := 19) nlX5_18 dX5_init_16 rfl ?_
  generalize hqh4 : nC h3 7 0 = h4 at hf ⊢
  generalize hph4 : h3.2.2.2.length = b2 at hf ⊢
  refine V.dupR (q := 20) dX5_init_19 rfl ?_
  obtain ⟨h5, eh5, hf⟩ := bd_ex hf
  refine V.callIN (q := 23) (vs := []) (st := [.ref b2, .ref a0]) (S2 := [.ref b2, .ref a0]) okX7_init imX7_init ⟨rfl, rfl⟩ lnX5_20 (tX7_init eh5) rfl (by decide) rfl (Nat.le_of_ble_eq_true rfl) (Nat.le_of_ble_eq_true rfl) rfl dX5_init_20 rfl rfl ?_
  obtain ⟨h6, eh6, hf⟩ := bd_ex hf
  refine V.putR (q := 26) (fpX5_21 rfl) rfl eh6 dX5_init_23 rfl ?_
  cases hf
  exact V.ret (r := none) trivial dX5_init_26
def fX8_init (h : MH) (a0 : Nat) (a1 : Nat) : Option (MH) := bd2 (nO2 h 16 9) fun b1 h1 => bd (pR h1 a0 8 1 b1) fun h2 => bd2 (nO2 h2 16 5) fun b2 h3 => bd (pR h3 a0 8 2 b2) fun h4 => bd2 (nO2 h4 16 3) fun b3 h5 => bd (pR h5 a0 8 3 b3) fun h6 => bd2 (nO2 h6 16 4) fun b4 h7 => bd (pR h7 a0 8 4 b4) fun h8 => bd2 (nO h8 4) fun b5 h9 => bd (fX4_init h9 b5 ) fun h10 => bd (pR h10 a0 8 5 b5) fun h11 => bd2 (nO2 h11 16 17) fun b6 h12 => bd (pR h12 a0 8 6 b6) fun h13 => bd2 (nO2 h13 15 17) fun b7 h14 => bd (pR h14 a0 8 7 b7) fun h15 => bd2 (nO2 h15 15 17) fun b8 h16 => bd (pR h16 a0 8 8 b8) fun h17 => bd2 (nO h17 7) fun b9 h18 => bd (fX7_init h18 b9 ) fun h19 => bd (pR h19 a0 8 9 b9) fun h20 => bd (pR h20 a0 8 0 a1) fun h21 => bd (gR h21 a0 8 1) fun b10 => bd (fX10_spellAll h21 0 b10) fun h22 => bd (gR h22 a0 8 2) fun b11 => bd (fX10_spellAll h22 1 b11) fun h23 => bd (gR h23 a0 8 3) fun b12 => bd (fX10_spellAll h23 2 b12) fun h24 => bd (gR h24 a0 8 4) fun b13 => bd (fX10_spellAll h24 3 b13) fun h25 => some h25
set_option maxRecDepth 20000 in
theorem tX8_init {h' : MH} {h : MH} {a0 : Nat} {a1 : Nat} (hf : fX8_init h a0 a1 = some h') : VM mX8_init 5 none h' h [.ref a0, .ref a1] := by
  show V TT mX8_init 5 _ h' h 0 [.ref a0, .ref a1] []
  unfold fX8_init at hf
  refine V.aload_n (q := 1) rfl dX8_init_0 rfl rfl ?_
  refine V.objInit (q := 4) oiX8_3 (by decide) (Nat.le_of_ble_eq_true rfl) dX8_init_1 rfl ?_
  refine V.aload_n (q := 5) rfl dX8_init_4 rfl rfl ?_
  refine V.bipush (q := 7) (v := 9) (by decide) dX8_init_5 rfl ?_
  obtain ⟨b1, h1, eh1, hf⟩ := bd2_ex hf
  obtain ⟨rfl, rfl⟩ := ret_inj eh1
  refine V.newJ (q := 9) (N := 9) (by decide) (by decide) (by decide) dX8_init_7 rfl ?_
  generalize hqh1 : nC h 16 9 = h1 at hf ⊢
  generalize hph1 : h.2.2.2.length = b1 at hf ⊢
  obtain ⟨h2, eh2, hf⟩ := bd_ex hf
  refine V.putR (q := 12) (fqX8_9 rfl rfl) rfl eh2 dX8_init_9 rfl ?_
  refine V.aload_n (q := 13) rfl dX8_init_12 rfl rfl ?_
  refine V.iconst (q := 14) (v := 5) (by decide) dX8_init_13 rfl ?_
  obtain ⟨b2, h3, eh3, hf⟩ := bd2_ex hf
  obtain ⟨rfl, rfl⟩ := ret_inj eh3
  refine V.newJ (q := 16) (N := 5) (by decide) (by decide) (by decide) dX8_init_14 rfl ?_
  generalize hqh3 : nC h2 16 5 = h3 at hf ⊢
  generalize hph3 : h2.2.2.2.length = b2 at hf ⊢
  obtain ⟨h4, eh4, hf⟩ := bd_ex hf
  refine V.putR (q := 19) (fqX8_15 rfl rfl) rfl eh4 dX8_init_16 rfl ?_
  refine V.aload_n (q := 20) rfl dX8_init_19 rfl rfl ?_
  refine V.iconst (q := 21) (v := 3) (by decide) dX8_init_20 rfl ?_
  obtain ⟨b3, h5, eh5, hf⟩ := bd2_ex hf
  obtain ⟨rfl, rfl⟩ := ret_inj eh5
  refine V.newJ (q := 23) (N := 3) (by decide) (by decide) (by decide) dX8_init_21 rfl ?_
  generalize hqh5 : nC h4 16 3 = h5 at hf ⊢
  generalize hph5 : h4.2.2.2.length = b3 at hf ⊢
  obtain ⟨h6, eh6, hf⟩ := bd_ex hf
  refine V.putR (q := 26) (fqX8_18 rfl rfl) rfl eh6 dX8_init_23 rfl ?_
  refine V.aload_n (q := 27) rfl dX8_init_26 rfl rfl ?_
  refine V.iconst (q := 28) (v := 4) (by decide) dX8_init_27 rfl ?_
  obtain ⟨b4, h7, eh7, hf⟩ := bd2_ex hf
  obtain ⟨rfl, rfl⟩ := ret_inj eh7
  refine V.newJ (q := 30) (N := 4) (by decide) (by decide) (by decide) dX8_init_28 rfl ?_
  generalize hqh7 : nC h6 16 4 = h7 at hf ⊢
  generalize hph7 : h6.2.2.2.length = b4 at hf ⊢
  obtain ⟨h8, eh8, hf⟩ := bd_ex hf
  refine V.putR (q := 33) (fqX8_21 rfl rfl) rfl eh8 dX8_init_30 rfl ?_
  refine V.aload_n (q := 34) rfl dX8_init_33 rfl rfl ?_
  obtain ⟨b5, h9, eh9, hf⟩ := bd2_ex hf
  obtain ⟨rfl, rfl⟩ := ret_inj eh9
  refine V.new (q := 37) nlX8_24 dX8_init_34 rfl ?_
  generalize hqh9 : nC h8 4 0 = h9 at hf ⊢
  generalize hph9 : h8.2.2.2.length = b5 at hf ⊢
  refine V.dupR (q := 38) dX8_init_37 rfl ?_
  obtain ⟨h10, eh10, hf⟩ := bd_ex hf
  refine V.callIN (q := 41) (vs := []) (st := [.ref b5, .ref a0]) (S2 := [.ref b5, .ref a0]) okX4_init imX4_init ⟨rfl, rfl⟩ lnX8_26 (tX4_init eh10) rfl (by decide) rfl (Nat.le_of_ble_eq_true rfl) (Nat.le_of_ble_eq_true rfl) rfl dX8_init_38 rfl rfl ?_
  obtain ⟨h11, eh11, hf⟩ := bd_ex hf
  refine V.putR (q := 44) (fqX8_27 rfl rfl) rfl eh11 dX8_init_41 rfl ?_
  refine V.aload_n (q := 45) rfl dX8_init_44 rfl rfl ?_
  refine V.bipush (q := 47) (v := 17) (by decide) dX8_init_45 rfl ?_
  obtain ⟨b6, h12, eh12, hf⟩ := bd2_ex hf
  obtain ⟨rfl, rfl⟩ := ret_inj eh12
  refine V.newJ (q := 49) (N := 17) (by decide) (by decide) (by decide) dX8_init_47 rfl ?_
  generalize hqh12 : nC h11 16 17 = h12 at hf ⊢
  generalize hph12 : h11.2.2.2.length = b6 at hf ⊢
  obtain ⟨h13, eh13, hf⟩ := bd_ex hf
  refine V.putR (q := 52) (fqX8_31 rfl rfl) rfl eh13 dX8_init_49 rfl ?_
  refine V.aload_n (q := 53) rfl dX8_init_52 rfl rfl ?_
  refine V.bipush (q := 55) (v := 17) (by decide) dX8_init_53 rfl ?_
  obtain ⟨b7, h14, eh14, hf⟩ := bd2_ex hf
  obtain ⟨rfl, rfl⟩ := ret_inj eh14
  refine V.newI (q := 57) (N := 17) (by decide) (by decide) (by decide) dX8_init_55 rfl ?_
  generalize hqh14 : nC h13 15 17 = h14 at hf ⊢
  generalize hph14 : h13.2.2.2.length = b7 at hf ⊢
  obtain ⟨h15, eh15, hf⟩ := bd_ex hf
  refine V.putR (q := 60) (fqX8_34 rfl rfl) rfl eh15 dX8_init_57 rfl ?_
  refine V.aload_n (q := 61) rfl dX8_init_60 rfl rfl ?_
  refine V.bipush (q := 63) (v := 17) (by decide) dX8_init_61 rfl ?_
  obtain ⟨b8, h16, eh16, hf⟩ := bd2_ex hf
  obtain ⟨rfl, rfl⟩ := ret_inj eh16
  refine V.newI (q := 65) (N := 17) (by decide) (by decide) (by decide) dX8_init_63 rfl ?_
  generalize hqh16 : nC h15 15 17 = h16 at hf ⊢
  generalize hph16 : h15.2.2.2.length = b8 at hf ⊢
  obtain ⟨h17, eh17, hf⟩ := bd_ex hf
  refine V.putR (q := 68) (fqX8_38 rfl rfl) rfl eh17 dX8_init_65 rfl ?_
  refine V.aload_n (q := 69) rfl dX8_init_68 rfl rfl ?_
  obtain ⟨b9, h18, eh18, hf⟩ := bd2_ex hf
  obtain ⟨rfl, rfl⟩ := ret_inj eh18
  refine V.new (q := 72) nlX8_41 dX8_init_69 rfl ?_
  generalize hqh18 : nC h17 7 0 = h18 at hf ⊢
  generalize hph18 : h17.2.2.2.length = b9 at hf ⊢
  refine V.dupR (q := 73) dX8_init_72 rfl ?_
  obtain ⟨h19, eh19, hf⟩ := bd_ex hf
  refine V.callIN (q := 76) (vs := []) (st := [.ref b9, .ref a0]) (S2 := [.ref b9, .ref a0]) okX7_init imX7_init ⟨rfl, rfl⟩ lnX8_43 (tX7_init eh19) rfl (by decide) rfl (Nat.le_of_ble_eq_true rfl) (Nat.le_of_ble_eq_true rfl) rfl dX8_init_73 rfl rfl ?_
  obtain ⟨h20, eh20, hf⟩ := bd_ex hf
  refine V.putR (q := 79) (fpX8_44 rfl) rfl eh20 dX8_init_76 rfl ?_
  refine V.aload_n (q := 80) rfl dX8_init_79 rfl rfl ?_
  refine V.aload_n (q := 81) rfl dX8_init_80 rfl rfl ?_
  obtain ⟨h21, eh21, hf⟩ := bd_ex hf
  refine V.putR (q := 84) (fqX8_48 rfl rfl) rfl eh21 dX8_init_81 rfl ?_
  refine V.ldcS (q := 86) (i := 0) rfl dX8_init_84 rfl ?_
  refine V.aload_n (q := 87) rfl dX8_init_86 rfl rfl ?_
  obtain ⟨b10, eb10, hf⟩ := bd_ex hf
  refine V.getR (q := 90) flX8_9 rfl eb10 dX8_init_87 rfl ?_
  obtain ⟨h22, eh22, hf⟩ := bd_ex hf
  refine V.callS (q := 93) (vs := [.retAddr 0, .ref b10]) (st := []) (S2 := []) okX10_spellAll stX10_spellAll lkX8_54 (tX10_spellAll eh22) rfl (by decide) rfl (Nat.le_of_ble_eq_true rfl) (Nat.le_of_ble_eq_true rfl) rfl dX8_init_90 rfl rfl ?_
  refine V.ldcS (q := 95) (i := 1) rfl dX8_init_93 rfl ?_
  refine V.aload_n (q := 96) rfl dX8_init_95 rfl rfl ?_
  obtain ⟨b11, eb11, hf⟩ := bd_ex hf
  refine V.getR (q := 99) flX8_15 rfl eb11 dX8_init_96 rfl ?_
  obtain ⟨h23, eh23, hf⟩ := bd_ex hf
  refine V.callS (q := 102) (vs := [.retAddr 1, .ref b11]) (st := []) (S2 := []) okX10_spellAll stX10_spellAll lkX8_54 (tX10_spellAll eh23) rfl (by decide) rfl (Nat.le_of_ble_eq_true rfl) (Nat.le_of_ble_eq_true rfl) rfl dX8_init_99 rfl rfl ?_
  refine V.ldcS (q := 104) (i := 2) rfl dX8_init_102 rfl ?_
  refine V.aload_n (q := 105) rfl dX8_init_104 rfl rfl ?_
  obtain ⟨b12, eb12, hf⟩ := bd_ex hf
  refine V.getR (q := 108) flX8_18 rfl eb12 dX8_init_105 rfl ?_
  obtain ⟨h24, eh24, hf⟩ := bd_ex hf
  refine V.callS (q := 111) (vs := [.retAddr 2, .ref b12]) (st := []) (S2 := []) okX10_spellAll stX10_spellAll lkX8_54 (tX10_spellAll eh24) rfl (by decide) rfl (Nat.le_of_ble_eq_true rfl) (Nat.le_of_ble_eq_true rfl) rfl dX8_init_108 rfl rfl ?_
  refine V.ldcS (q := 113) (i := 3) rfl dX8_init_111 rfl ?_
  refine V.aload_n (q := 114) rfl dX8_init_113 rfl rfl ?_
  obtain ⟨b13, eb13, hf⟩ := bd_ex hf
  refine V.getR (q := 117) flX8_21 rfl eb13 dX8_init_114 rfl ?_
  obtain ⟨h25, eh25, hf⟩ := bd_ex hf
  refine V.callS (q := 120) (vs := [.retAddr 3, .ref b13]) (st := []) (S2 := []) okX10_spellAll stX10_spellAll lkX8_54 (tX10_spellAll eh25) rfl (by decide) rfl (Nat.le_of_ble_eq_true rfl) (Nat.le_of_ble_eq_true rfl) rfl dX8_init_117 rfl rfl ?_
  cases hf
  exact V.ret (r := none) trivial dX8_init_120
def fX9_init (h : MH) (a0 : Nat) (a1 : Nat) : Option (MH) := bd (pR h a0 9 0 a1) fun h1 => some h1
set_option maxRecDepth 20000 in
theorem tX9_init {h' : MH} {h : MH} {a0 : Nat} {a1 : Nat} (hf : fX9_init h a0 a1 = some h') : VM mX9_init 1 none h' h [.ref a0, .ref a1] := by
  show V TT mX9_init 1 _ h' h 0 [.ref a0, .ref a1] []
  unfold fX9_init at hf
  refine V.aload_n (q := 1) rfl dX9_init_0 rfl rfl ?_
  refine V.objInit (q := 4) oiX9_3 (by decide) (Nat.le_of_ble_eq_true rfl) dX9_init_1 rfl ?_
  refine V.aload_n (q := 5) rfl dX9_init_4 rfl rfl ?_
  refine V.aload_n (q := 6) rfl dX9_init_5 rfl rfl ?_
  obtain ⟨h1, eh1, hf⟩ := bd_ex hf
  refine V.putR (q := 9) (fqX9_9 rfl rfl) rfl eh1 dX9_init_6 rfl ?_
  cases hf
  exact V.ret (r := none) trivial dX9_init_9
def fX11_judges (h : MH) (a0 : Nat) (x1 : Int32) (x2 : Int32) : Option (Int32 × MH) := bd (gR h a0 11 2) fun b1 => bd (ck h b1 5) fun _ => bd2 (fX5_hasStamp h b1 x1) fun v3 h1 => if v3 = 0 then (bd (ck h1 a0 11) fun _ => bd2 (fX11_refuse h1 a0 1) fun v5 h2 => some (v5, h2)) else (bd (gR h1 a0 11 2) fun b4 => bd (ck h1 b4 5) fun _ => bd2 (fX5_hasStamp h1 b4 x2) fun v6 h2 => if v6 = 0 then (bd (ck h2 a0 11) fun _ => bd2 (fX11_refuse h2 a0 1) fun v8 h3 => some (v8, h3)) else (if x1 = x2 then (bd (ck h2 a0 11) fun _ => bd2 (fX11_refuse h2 a0 1) fun v8 h3 => some (v8, h3)) else (bd (gR h2 a0 11 2) fun b7 => bd (gR h2 a0 11 2) fun b8 => bd (gR h2 b8 5 1) fun b9 => bd (gR h2 b9 7 3) fun b10 => bd (lI h2 b10 x2) fun v11 => bd (ck h2 b7 5) fun _ => bd2 (fX5_sayOf h2 b7 x1 v11) fun v13 h3 => bd (ck h3 a0 11) fun _ => bd2 (fX11_answer h3 a0 v13) fun v15 h4 => some (v15, h4))))
set_option maxRecDepth 20000 in
theorem tX11_judges {r : Int32} {h' : MH} {h : MH} {a0 : Nat} {x1 : Int32} {x2 : Int32} (hf : fX11_judges h a0 x1 x2 = some (r, h')) : VM mX11_judges 2 (some (.int r)) h' h [.ref a0, .int x1, .int x2] := by
  show V TT mX11_judges 2 _ h' h 0 [.ref a0, .int x1, .int x2] []
  unfold fX11_judges at hf
  refine V.aload_n (q := 1) rfl dX11_judges_0 rfl rfl ?_
  obtain ⟨b1, eb1, hf⟩ := bd_ex hf
  refine V.getR (q := 4) flX11_28 rfl eb1 dX11_judges_1 rfl ?_
  refine V.iload_n (q := 5) rfl dX11_judges_4 rfl rfl ?_
  obtain ⟨_, e2, hf⟩ := bd_ex hf
  obtain ⟨v3, h1, eh1, hf⟩ := bd2_ex hf
  refine V.callV (q := 8) (ci := 5) (vs := [.int x1]) (st := []) (S2 := [.int v3]) okX5_hasStamp imX5_hasStamp seX5_hasStamp rfl lkX11_152 (tX5_hasStamp eh1) rfl (ck_is e2) (by decide) rfl (Nat.le_of_ble_eq_true rfl) (Nat.le_of_ble_eq_true rfl) rfl dX11_judges_5 rfl rfl ?_
  refine V.if_eq (q := 11) (tgt := 27) dX11_judges_8 rfl (by decide) (fun c => ?_) (fun c => ?_)
  · rw [if_pos c] at hf
    refine V.aload_n (q := 28) rfl dX11_judges_27 rfl rfl ?_
    refine V.iconst (q := 29) (v := 1) (by decide) dX11_judges_28 rfl ?_
    obtain ⟨_, e4, hf⟩ := bd_ex hf
    obtain ⟨v5, h2, eh2, hf⟩ := bd2_ex hf
    refine V.callV (q := 32) (ci := 11) (vs := [.int 1]) (st := []) (S2 := [.int v5]) okX11_refuse imX11_refuse seX11_refuse rfl lkX11_101 (tX11_refuse eh2) rfl (ck_is e4) (by decide) rfl (Nat.le_of_ble_eq_true rfl) (Nat.le_of_ble_eq_true rfl) rfl dX11_judges_29 rfl rfl ?_
    obtain ⟨rfl, rfl⟩ := ret_inj hf
    exact V.ret (r := some (.int v5)) trivial dX11_judges_32
  · rw [if_neg c] at hf
    refine V.aload_n (q := 12) rfl dX11_judges_11 rfl rfl ?_
    obtain ⟨b4, eb4, hf⟩ := bd_ex hf
    refine V.getR (q := 15) flX11_28 rfl eb4 dX11_judges_12 rfl ?_
    refine V.iload_n (q := 16) rfl dX11_judges_15 rfl rfl ?_
    obtain ⟨_, e5, hf⟩ := bd_ex hf
    obtain ⟨v6, h2, eh2, hf⟩ := bd2_ex hf
    refine V.callV (q := 19) (ci := 5) (vs := [.int x2]) (st := []) (S2 := [.int v6]) okX5_hasStamp imX5_hasStamp seX5_hasStamp rfl lkX11_152 (tX5_hasStamp eh2) rfl (ck_is e5) (by decide) rfl (Nat.le_of_ble_eq_true rfl) (Nat.le_of_ble_eq_true rfl) rfl dX11_judges_16 rfl rfl ?_
    refine V.if_eq (q := 22) (tgt := 27) dX11_judges_19 rfl (by decide) (fun c => ?_) (fun c => ?_)
    · rw [if_pos c] at hf
      refine V.aload_n (q := 28) rfl dX11_judges_27 rfl rfl ?_
      refine V.iconst (q := 29) (v := 1) (by decide) dX11_judges_28 rfl ?_
      obtain ⟨_, e7, hf⟩ := bd_ex hf
      obtain ⟨v8, h3, eh3, hf⟩ := bd2_ex hf
      refine V.callV (q := 32) (ci := 11) (vs := [.int 1]) (st := []) (S2 := [.int v8]) okX11_refuse imX11_refuse seX11_refuse rfl lkX11_101 (tX11_refuse eh3) rfl (ck_is e7) (by decide) rfl (Nat.le_of_ble_eq_true rfl) (Nat.le_of_ble_eq_true rfl) rfl dX11_judges_29 rfl rfl ?_
      obtain ⟨rfl, rfl⟩ := ret_inj hf
      exact V.ret (r := some (.int v8)) trivial dX11_judges_32
    · rw [if_neg c] at hf
      refine V.iload_n (q := 23) rfl dX11_judges_22 rfl rfl ?_
      refine V.iload_n (q := 24) rfl dX11_judges_23 rfl rfl ?_
      refine V.icmp_ne (q := 27) (tgt := 33) dX11_judges_24 rfl (by decide) (fun c => ?_) (fun c => ?_)
      · rw [if_neg c] at hf
        refine V.aload_n (q := 34) rfl dX11_judges_33 rfl rfl ?_
        refine V.aload_n (q := 35) rfl dX11_judges_34 rfl rfl ?_
        obtain ⟨b7, eb7, hf⟩ := bd_ex hf
        refine V.getR (q := 38) flX11_28 rfl eb7 dX11_judges_35 rfl ?_
        refine V.iload_n (q := 39) rfl dX11_judges_38 rfl rfl ?_
        refine V.aload_n (q := 40) rfl dX11_judges_39 rfl rfl ?_
        obtain ⟨b8, eb8, hf⟩ := bd_ex hf
        refine V.getR (q := 43) flX11_28 rfl eb8 dX11_judges_40 rfl ?_
        obtain ⟨b9, eb9, hf⟩ := bd_ex hf
        refine V.getR (q := 46) flX11_118 rfl eb9 dX11_judges_43 rfl ?_
        obtain ⟨b10, eb10, hf⟩ := bd_ex hf
        refine V.getR (q := 49) flX11_161 rfl eb10 dX11_judges_46 rfl ?_
        refine V.iload_n (q := 50) rfl dX11_judges_49 rfl rfl ?_
        obtain ⟨v11, ev11, hf⟩ := bd_ex hf
        refine V.iald (q := 51) ev11 dX11_judges_50 rfl ?_
        obtain ⟨_, e12, hf⟩ := bd_ex hf
        obtain ⟨v13, h3, eh3, hf⟩ := bd2_ex hf
        refine V.callV (q := 54) (ci := 5) (vs := [.int x1, .int v11]) (st := [.ref a0]) (S2 := [.int v13, .ref a0]) okX5_sayOf imX5_sayOf seX5_sayOf rfl lkX11_208 (tX5_sayOf eh3) rfl (ck_is e12) (by decide) rfl (Nat.le_of_ble_eq_true rfl) (Nat.le_of_ble_eq_true rfl) rfl dX11_judges_51 rfl rfl ?_
        obtain ⟨_, e14, hf⟩ := bd_ex hf
        obtain ⟨v15, h4, eh4, hf⟩ := bd2_ex hf
        refine V.callV (q := 57) (ci := 11) (vs := [.int v13]) (st := []) (S2 := [.int v15]) okX11_answer imX11_answer seX11_answer rfl lkX11_127 (tX11_answer eh4) rfl (ck_is e14) (by decide) rfl (Nat.le_of_ble_eq_true rfl) (Nat.le_of_ble_eq_true rfl) rfl dX11_judges_54 rfl rfl ?_
        obtain ⟨rfl, rfl⟩ := ret_inj hf
        exact V.ret (r := some (.int v15)) trivial dX11_judges_57
      · rw [if_pos c] at hf
        refine V.aload_n (q := 28) rfl dX11_judges_27 rfl rfl ?_
        refine V.iconst (q := 29) (v := 1) (by decide) dX11_judges_28 rfl ?_
        obtain ⟨_, e7, hf⟩ := bd_ex hf
        obtain ⟨v8, h3, eh3, hf⟩ := bd2_ex hf
        refine V.callV (q := 32) (ci := 11) (vs := [.int 1]) (st := []) (S2 := [.int v8]) okX11_refuse imX11_refuse seX11_refuse rfl lkX11_101 (tX11_refuse eh3) rfl (ck_is e7) (by decide) rfl (Nat.le_of_ble_eq_true rfl) (Nat.le_of_ble_eq_true rfl) rfl dX11_judges_29 rfl rfl ?_
        obtain ⟨rfl, rfl⟩ := ret_inj hf
        exact V.ret (r := some (.int v8)) trivial dX11_judges_32
def bX3_mostThatCanBe_4 (k4 : MH → Nat → Int32 → Int32 → Option (Int32 × MH)) (h : MH) (a0 : Nat) (x1 : Int32) (x2 : Int32) : Option (Int32 × MH) := bd (gR h a0 3 0) fun b1 => bd (gR h b1 5 1) fun b2 => bd (gI h b2 7 15) fun v3 => if v3 ≤ x2 then (bd (gR h a0 3 0) fun b4 => bd (gR h b4 5 1) fun b5 => bd (gI h b5 7 17) fun v6 => bd (some (2 * v6)) fun v7 => bd (gR h a0 3 2) fun b8 => bd (lI h b8 0) fun v9 => bd (some (mMin x1 v7)) fun v10 => bd (some (mMin v9 v10)) fun v11 => some (v11, h)) else (bd (gR h a0 3 3) fun b4 => bd (lI h b4 x2) fun v5 => bd (some (x1 + v5)) fun v6 => bd (some (x2 + 1)) fun v7 => k4 h a0 v6 v7)
set_option maxRecDepth 20000 in
theorem tX3_mostThatCanBe_4 {r : Int32} {h' : MH} (k4 : MH → Nat → Int32 → Int32 → Option (Int32 × MH)) (hk4 : ∀ (h : MH) (a0 : Nat) (x1 : Int32) (x2 : Int32), k4 h a0 x1 x2 = some (r, h') → V TT mX3_mostThatCanBe 1 (some (.int r)) h' h 4 [.ref a0, .int x1, .int x2] [])  {h : MH} {a0 : Nat} {x1 : Int32} {x2 : Int32} (hf : bX3_mostThatCanBe_4 k4 h a0 x1 x2 = some (r, h')) : V TT mX3_mostThatCanBe 1 (some (.int r)) h' h 4 [.ref a0, .int x1, .int x2] [] := by
  unfold bX3_mostThatCanBe_4 at hf
  refine V.iload_n (q := 5) rfl dX3_mostThatCanBe_4 rfl rfl ?_
  refine V.aload_n (q := 6) rfl dX3_mostThatCanBe_5 rfl rfl ?_
  obtain ⟨b1, eb1, hf⟩ := bd_ex hf
  refine V.getR (q := 9) flX3_30 rfl eb1 dX3_mostThatCanBe_6 rfl ?_
  obtain ⟨b2, eb2, hf⟩ := bd_ex hf
  refine V.getR (q := 12) flX3_38 rfl eb2 dX3_mostThatCanBe_9 rfl ?_
  obtain ⟨v3, ev3, hf⟩ := bd_ex hf
  refine V.getI (q := 15) flX3_44 rfl ev3 dX3_mostThatCanBe_12 rfl ?_
  refine V.icmp_ge (q := 18) (tgt := 33) dX3_mostThatCanBe_15 rfl (by decide) (fun c => ?_) (fun c => ?_)
  · rw [if_pos c] at hf
    refine V.iconst (q := 34) (v := 2) (by decide) dX3_mostThatCanBe_33 rfl ?_
    refine V.aload_n (q := 35) rfl dX3_mostThatCanBe_34 rfl rfl ?_
    obtain ⟨b4, eb4, hf⟩ := bd_ex hf
    refine V.getR (q := 38) flX3_30 rfl eb4 dX3_mostThatCanBe_35 rfl ?_
    obtain ⟨b5, eb5, hf⟩ := bd_ex hf
    refine V.getR (q := 41) flX3_38 rfl eb5 dX3_mostThatCanBe_38 rfl ?_
    obtain ⟨v6, ev6, hf⟩ := bd_ex hf
    refine V.getI (q := 44) flX3_81 rfl ev6 dX3_mostThatCanBe_41 rfl ?_
    refine V.imul (q := 45) dX3_mostThatCanBe_44 rfl ?_
    obtain ⟨v7, ev7, hf⟩ := bd_ex hf
    refine V.topI (Option.some.inj ev7) ?_
    refine V.istore_n (q := 46) (L' := [.ref a0, .int x1, .int v7]) rfl dX3_mostThatCanBe_45 rfl (by decide) rfl rfl ?_
    refine V.aload_n (q := 47) rfl dX3_mostThatCanBe_46 rfl rfl ?_
    obtain ⟨b8, eb8, hf⟩ := bd_ex hf
    refine V.getR (q := 50) flX3_15 rfl eb8 dX3_mostThatCanBe_47 rfl ?_
    refine V.iconst (q := 51) (v := 0) (by decide) dX3_mostThatCanBe_50 rfl ?_
    obtain ⟨v9, ev9, hf⟩ := bd_ex hf
    refine V.iald (q := 52) ev9 dX3_mostThatCanBe_51 rfl ?_
    refine V.iload_n (q := 53) rfl dX3_mostThatCanBe_52 rfl rfl ?_
    refine V.iload_n (q := 54) rfl dX3_mostThatCanBe_53 rfl rfl ?_
    obtain ⟨v10, ev10, hf⟩ := bd_ex hf
    refine V.mMin (q := 57) lkX3_102 (by decide) (Nat.le_of_ble_eq_true rfl) dX3_mostThatCanBe_54 rfl ?_
    refine V.topI (Option.some.inj ev10) ?_
    obtain ⟨v11, ev11, hf⟩ := bd_ex hf
    refine V.mMin (q := 60) lkX3_102 (by decide) (Nat.le_of_ble_eq_true rfl) dX3_mostThatCanBe_57 rfl ?_
    refine V.topI (Option.some.inj ev11) ?_
    obtain ⟨rfl, rfl⟩ := ret_inj hf
    exact V.ret (r := some (.int v11)) trivial dX3_mostThatCanBe_60
  · rw [if_neg c] at hf
    refine V.iload_n (q := 19) rfl dX3_mostThatCanBe_18 rfl rfl ?_
    refine V.aload_n (q := 20) rfl dX3_mostThatCanBe_19 rfl rfl ?_
    obtain ⟨b4, eb4, hf⟩ := bd_ex hf
    refine V.getR (q := 23) flX3_18 rfl eb4 dX3_mostThatCanBe_20 rfl ?_
    refine V.iload_n (q := 24) rfl dX3_mostThatCanBe_23 rfl rfl ?_
    obtain ⟨v5, ev5, hf⟩ := bd_ex hf
    refine V.iald (q := 25) ev5 dX3_mostThatCanBe_24 rfl ?_
    refine V.iadd (q := 26) dX3_mostThatCanBe_25 rfl ?_
    obtain ⟨v6, ev6, hf⟩ := bd_ex hf
    refine V.topI (Option.some.inj ev6) ?_
    refine V.istore_n (q := 27) (L' := [.ref a0, .int v6, .int x2]) rfl dX3_mostThatCanBe_26 rfl (by decide) rfl rfl ?_
    obtain ⟨v7, ev7, hf⟩ := bd_ex hf
    refine V.iinc (q := 30) (v := v7) (L' := [.ref a0, .int v6, .int v7]) dX3_mostThatCanBe_27 rfl rfl (Option.some.inj ev7) (by decide) rfl rfl ?_
    refine V.goto (q := 4) dX3_mostThatCanBe_30 (by decide) ?_
    exact hk4 _ _ _ _ hf
def fX3_mostThatCanBe_4  : Nat → MH → Nat → Int32 → Int32 → Option (Int32 × MH)
  | 0 => fun _ _ _ _ => none
  | n + 1 => bX3_mostThatCanBe_4  (fX3_mostThatCanBe_4  n)
theorem tlX3_mostThatCanBe_4 {r : Int32} {h' : MH}   : ∀ (n : Nat) (h : MH) (a0 : Nat) (x1 : Int32) (x2 : Int32), fX3_mostThatCanBe_4  n h a0 x1 x2 = some (r, h') → V TT mX3_mostThatCanBe 1 (some (.int r)) h' h 4 [.ref a0, .int x1, .int x2] [] := by
  intro n
  induction n with
  | zero => intro h a0 x1 x2 hf; exact nomatch (show (none : Option (Int32 × MH)) = some (r, h') from hf)
  | succ n ih => intro h a0 x1 x2 hf; exact tX3_mostThatCanBe_4  (fX3_mostThatCanBe_4  n) ih hf
def fX3_mostThatCanBe (h : MH) (a0 : Nat) : Option (Int32 × MH) := fX3_mostThatCanBe_4 FU h a0 0 0
set_option maxRecDepth 20000 in
theorem tX3_mostThatCanBe {r : Int32} {h' : MH} {h : MH} {a0 : Nat} (hf : fX3_mostThatCanBe h a0 = some (r, h')) : VM mX3_mostThatCanBe 1 (some (.int r)) h' h [.ref a0] := by
  show V TT mX3_mostThatCanBe 1 _ h' h 0 [.ref a0, Jk, Jk] []
  unfold fX3_mostThatCanBe at hf
  refine V.iconst (q := 1) (v := 0) (by decide) dX3_mostThatCanBe_0 rfl ?_
  refine V.istore_n (q := 2) (L' := [.ref a0, .int 0, Jk]) rfl dX3_mostThatCanBe_1 rfl (by decide) rfl rfl ?_
  refine V.iconst (q := 3) (v := 0) (by decide) dX3_mostThatCanBe_2 rfl ?_
  refine V.istore_n (q := 4) (L' := [.ref a0, .int 0, .int 0]) rfl dX3_mostThatCanBe_3 rfl (by decide) rfl rfl ?_
  exact tlX3_mostThatCanBe_4  FU _ _ _ _ hf
def bX3_pairsThatPrint_49 (k18 : MH → Nat → Int32 → Int32 → Int32 → Int32 → Option (Int32 × MH)) (k49 : MH → Nat → Int32 → Int32 → Int32 → Int32 → Int32 → Int32 → Option (Int32 × MH)) (h : MH) (a0 : Nat) (x2 : Int32) (x3 : Int32) (x4 : Int32) (x5 : Int32) (x6 : Int32) (x7 : Int32) : Option (Int32 × MH) := bd (gR h a0 3 0) fun b1 => bd (gR h b1 5 1) fun b2 => bd (gI h b2 7 17) fun v3 => if v3 ≤ x7 then (bd (some (x5 + 1)) fun v4 => k18 h a0 x2 x3 x4 v4) else (bd (gR h a0 3 3) fun b4 => bd (lI h b4 x5) fun v5 => if v5 ≤ 0 then (bd (some (x5 + 1)) fun v6 => k18 h a0 x2 x3 x4 v6) else (bd (gR h a0 3 0) fun b6 => bd (ck h b6 5) fun _ => bd2 (fX5_printBy h b6 x7 x6) fun v8 h1 => if v8 = x2 then (bd (some (x3 ||| (1 <<< (((x5 * 3) + x7) &&& 31)))) fun v9 => bd (some (x7 + 1)) fun v10 => k49 h1 a0 x2 v9 x4 x5 x6 v10) else (bd (some (x7 + 1)) fun v9 => k49 h1 a0 x2 x3 x4 x5 x6 v9)))
set_option maxRecDepth 20000 in
theorem tX3_pairsThatPrint_49 {r : Int32} {h' : MH} (k18 : MH → Nat → Int32 → Int32 → Int32 → Int32 → Option (Int32 × MH)) (hk18 : ∀ (h : MH) (a0 : Nat) (x2 : Int32) (x3 : Int32) (x4 : Int32) (x5 : Int32), k18 h a0 x2 x3 x4 x5 = some (r, h') → V TT mX3_pairsThatPrint 2 (some (.int r)) h' h 18 [.ref a0, Jk, .int x2, .int x3, .int x4, .int x5, Jk, Jk] []) (k49 : MH → Nat → Int32 → Int32 → Int32 → Int32 → Int32 → Int32 → Option (Int32 × MH)) (hk49 : ∀ (h : MH) (a0 : Nat) (x2 : Int32) (x3 : Int32) (x4 : Int32) (x5 : Int32) (x6 : Int32) (x7 : Int32), k49 h a0 x2 x3 x4 x5 x6 x7 = some (r, h') → V TT mX3_pairsThatPrint 2 (some (.int r)) h' h 49 [.ref a0, Jk, .int x2, .int x3, .int x4, .int x5, .int x6, .int x7] [])  {h : MH} {a0 : Nat} {x2 : Int32} {x3 : Int32} {x4 : Int32} {x5 : Int32} {x6 : Int32} {x7 : Int32} (hf : bX3_pairsThatPrint_49 k18 k49 h a0 x2 x3 x4 x5 x6 x7 = some (r, h')) : V TT mX3_pairsThatPrint 2 (some (.int r)) h' h 49 [.ref a0, Jk, .int x2, .int x3, .int x4, .int x5, .int x6, .int x7] [] := by
  unfold bX3_pairsThatPrint_49 at hf
  refine V.iload (q := 51) dX3_pairsThatPrint_49 rfl rfl ?_
  refine V.aload_n (q := 52) rfl dX3_pairsThatPrint_51 rfl rfl ?_
  obtain ⟨b1, eb1, hf⟩ := bd_ex hf
  refine V.getR (q := 55) flX3_30 rfl eb1 dX3_pairsThatPrint_52 rfl ?_
  obtain ⟨b2, eb2, hf⟩ := bd_ex hf
  refine V.getR (q := 58) flX3_38 rfl eb2 dX3_pairsThatPrint_55 rfl ?_
  obtain ⟨v3, ev3, hf⟩ := bd_ex hf
  refine V.getI (q := 61) flX3_81 rfl ev3 dX3_pairsThatPrint_58 rfl ?_
  refine V.icmp_ge (q := 64) (tgt := 107) dX3_pairsThatPrint_61 rfl (by decide) (fun c => ?_) (fun c => ?_)
  · rw [if_pos c] at hf
    obtain ⟨v4, ev4, hf⟩ := bd_ex hf
    refine V.iinc (q := 110) (v := v4) (L' := [.ref a0, Jk, .int x2, .int x3, .int x4, .int v4, .int x6, .int x7]) dX3_pairsThatPrint_107 rfl rfl (Option.some.inj ev4) (by decide) rfl rfl ?_
    refine V.goto (q := 18) dX3_pairsThatPrint_110 (by decide) ?_
    refine V.forget (L' := [.ref a0, Jk, .int x2, .int x3, .int x4, .int v4, Jk, Jk]) ⟨Or.inr rfl, Or.inl rfl, Or.inr rfl, Or.inr rfl, Or.inr rfl, Or.inr rfl, Or.inl rfl, Or.inl rfl, trivial⟩ ?_
    exact hk18 _ _ _ _ _ _ hf
  · rw [if_neg c] at hf
    refine V.aload_n (q := 65) rfl dX3_pairsThatPrint_64 rfl rfl ?_
    obtain ⟨b4, eb4, hf⟩ := bd_ex hf
    refine V.getR (q := 68) flX3_18 rfl eb4 dX3_pairsThatPrint_65 rfl ?_
    refine V.iload (q := 70) dX3_pairsThatPrint_68 rfl rfl ?_
    obtain ⟨v5, ev5, hf⟩ := bd_ex hf
    refine V.iald (q := 71) ev5 dX3_pairsThatPrint_70 rfl ?_
    refine V.if_le (q := 74) (tgt := 107) dX3_pairsThatPrint_71 rfl (by decide) (fun c => ?_) (fun c => ?_)
    · rw [if_pos c] at hf
      obtain ⟨v6, ev6, hf⟩ := bd_ex hf
      refine V.iinc (q := 110) (v := v6) (L' := [.ref a0, Jk, .int x2, .int x3, .int x4, .int v6, .int x6, .int x7]) dX3_pairsThatPrint_107 rfl rfl (Option.some.inj ev6) (by decide) rfl rfl ?_
      refine V.goto (q := 18) dX3_pairsThatPrint_110 (by decide) ?_
      refine V.forget (L' := [.ref a0, Jk, .int x2, .int x3, .int x4, .int v6, Jk, Jk]) ⟨Or.inr rfl, Or.inl rfl, Or.inr rfl, Or.inr rfl, Or.inr rfl, Or.inr rfl, Or.inl rfl, Or.inl rfl, trivial⟩ ?_
      exact hk18 _ _ _ _ _ _ hf
    · rw [if_neg c] at hf
      refine V.aload_n (q := 75) rfl dX3_pairsThatPrint_74 rfl rfl ?_
      obtain ⟨b6, eb6, hf⟩ := bd_ex hf
      refine V.getR (q := 78) flX3_30 rfl eb6 dX3_pairsThatPrint_75 rfl ?_
      refine V.iload (q := 80) dX3_pairsThatPrint_78 rfl rfl ?_
      refine V.iload (q := 82) dX3_pairsThatPrint_80 rfl rfl ?_
      obtain ⟨_, e7, hf⟩ := bd_ex hf
      obtain ⟨v8, h1, eh1, hf⟩ := bd2_ex hf
      refine V.callV (q := 85) (ci := 5) (vs := [.int x7, .int x6]) (st := []) (S2 := [.int v8]) okX5_printBy imX5_printBy seX5_printBy rfl lkX3_99 (tX5_printBy eh1) rfl (ck_is e7) (by decide) rfl (Nat.le_of_ble_eq_true rfl) (Nat.le_of_ble_eq_true rfl) rfl dX3_pairsThatPrint_82 rfl rfl ?_
      refine V.iload_n (q := 86) rfl dX3_pairsThatPrint_85 rfl rfl ?_
      refine V.icmp_ne (q := 89) (tgt := 101) dX3_pairsThatPrint_86 rfl (by decide) (fun c => ?_) (fun c => ?_)
      · rw [if_neg c] at hf
        obtain ⟨v9, ev9, hf⟩ := bd_ex hf
        refine V.iinc (q := 104) (v := v9) (L' := [.ref a0, Jk, .int x2, .int x3, .int x4, .int x5, .int x6, .int v9]) dX3_pairsThatPrint_101 rfl rfl (Option.some.inj ev9) (by decide) rfl rfl ?_
        refine V.goto (q := 49) dX3_pairsThatPrint_104 (by decide) ?_
        exact hk49 _ _ _ _ _ _ _ _ hf
      · rw [if_pos c] at hf
        refine V.iload_n (q := 90) rfl dX3_pairsThatPrint_89 rfl rfl ?_
        refine V.iconst (q := 91) (v := 1) (by decide) dX3_pairsThatPrint_90 rfl ?_
        refine V.iload (q := 93) dX3_pairsThatPrint_91 rfl rfl ?_
        refine V.iconst (q := 94) (v := 3) (by decide) dX3_pairsThatPrint_93 rfl ?_
        refine V.imul (q := 95) dX3_pairsThatPrint_94 rfl ?_
        refine V.iload (q := 97) dX3_pairsThatPrint_95 rfl rfl ?_
        refine V.iadd (q := 98) dX3_pairsThatPrint_97 rfl ?_
        refine V.ishl (q := 99) dX3_pairsThatPrint_98 rfl ?_
        refine V.ior (q := 100) dX3_pairsThatPrint_99 rfl ?_
        obtain ⟨v9, ev9, hf⟩ := bd_ex hf
        refine V.topI (Option.some.inj ev9) ?_
        refine V.istore_n (q := 101) (L' := [.ref a0, Jk, .int x2, .int v9, .int x4, .int x5, .int x6, .int x7]) rfl dX3_pairsThatPrint_100 rfl (by decide) rfl rfl ?_
        obtain ⟨v10, ev10, hf⟩ := bd_ex hf
        refine V.iinc (q := 104) (v := v10) (L' := [.ref a0, Jk, .int x2, .int v9, .int x4, .int x5, .int x6, .int v10]) dX3_pairsThatPrint_101 rfl rfl (Option.some.inj ev10) (by decide) rfl rfl ?_
        refine V.goto (q := 49) dX3_pairsThatPrint_104 (by decide) ?_
        exact hk49 _ _ _ _ _ _ _ _ hf
def fX3_pairsThatPrint_49 (k18 : MH → Nat → Int32 → Int32 → Int32 → Int32 → Option (Int32 × MH)) : Nat → MH → Nat → Int32 → Int32 → Int32 → Int32 → Int32 → Int32 → Option (Int32 × MH)
  | 0 => fun _ _ _ _ _ _ _ _ => none
  | n + 1 => bX3_pairsThatPrint_49 k18 (fX3_pairsThatPrint_49 k18 n)
theorem tlX3_pairsThatPrint_49 {r : Int32} {h' : MH} (k18 : MH → Nat → Int32 → Int32 → Int32 → Int32 → Option (Int32 × MH)) (hk18 : ∀ (h : MH) (a0 : Nat) (x2 : Int32) (x3 : Int32) (x4 : Int32) (x5 : Int32), k18 h a0 x2 x3 x4 x5 = some (r, h') → V TT mX3_pairsThatPrint 2 (some (.int r)) h' h 18 [.ref a0, Jk, .int x2, .int x3, .int x4, .int x5, Jk, Jk] [])  : ∀ (n : Nat) (h : MH) (a0 : Nat) (x2 : Int32) (x3 : Int32) (x4 : Int32) (x5 : Int32) (x6 : Int32) (x7 : Int32), fX3_pairsThatPrint_49 k18 n h a0 x2 x3 x4 x5 x6 x7 = some (r, h') → V TT mX3_pairsThatPrint 2 (some (.int r)) h' h 49 [.ref a0, Jk, .int x2, .int x3, .int x4, .int x5, .int x6, .int x7] [] := by
  intro n
  induction n with
  | zero => intro h a0 x2 x3 x4 x5 x6 x7 hf; exact nomatch (show (none : Option (Int32 × MH)) = some (r, h') from hf)
  | succ n ih => intro h a0 x2 x3 x4 x5 x6 x7 hf; exact tX3_pairsThatPrint_49 k18 hk18 (fX3_pairsThatPrint_49 k18 n) ih hf
def bX3_pairsThatPrint_18 (k18 : MH → Nat → Int32 → Int32 → Int32 → Int32 → Option (Int32 × MH)) (h : MH) (a0 : Nat) (x2 : Int32) (x3 : Int32) (x4 : Int32) (x5 : Int32) : Option (Int32 × MH) := bd (gR h a0 3 0) fun b1 => bd (gR h b1 5 1) fun b2 => bd (gI h b2 7 15) fun v3 => if v3 ≤ x5 then (some (x3, h)) else (bd (gR h a0 3 0) fun b4 => bd (ck h b4 5) fun _ => bd2 (fX5_sayOf h b4 x5 x4) fun v6 h1 => fX3_pairsThatPrint_49 k18 FU h1 a0 x2 x3 x4 x5 v6 0)
set_option maxRecDepth 20000 in
theorem tX3_pairsThatPrint_18 {r : Int32} {h' : MH} (k18 : MH → Nat → Int32 → Int32 → Int32 → Int32 → Option (Int32 × MH)) (hk18 : ∀ (h : MH) (a0 : Nat) (x2 : Int32) (x3 : Int32) (x4 : Int32) (x5 : Int32), k18 h a0 x2 x3 x4 x5 = some (r, h') → V TT mX3_pairsThatPrint 2 (some (.int r)) h' h 18 [.ref a0, Jk, .int x2, .int x3, .int x4, .int x5, Jk, Jk] [])  {h : MH} {a0 : Nat} {x2 : Int32} {x3 : Int32} {x4 : Int32} {x5 : Int32} (hf : bX3_pairsThatPrint_18 k18 h a0 x2 x3 x4 x5 = some (r, h')) : V TT mX3_pairsThatPrint 2 (some (.int r)) h' h 18 [.ref a0, Jk, .int x2, .int x3, .int x4, .int x5, Jk, Jk] [] := by
  unfold bX3_pairsThatPrint_18 at hf
  refine V.iload (q := 20) dX3_pairsThatPrint_18 rfl rfl ?_
  refine V.aload_n (q := 21) rfl dX3_pairsThatPrint_20 rfl rfl ?_
  obtain ⟨b1, eb1, hf⟩ := bd_ex hf
  refine V.getR (q := 24) flX3_30 rfl eb1 dX3_pairsThatPrint_21 rfl ?_
  obtain ⟨b2, eb2, hf⟩ := bd_ex hf
  refine V.getR (q := 27) flX3_38 rfl eb2 dX3_pairsThatPrint_24 rfl ?_
  obtain ⟨v3, ev3, hf⟩ := bd_ex hf
  refine V.getI (q := 30) flX3_44 rfl ev3 dX3_pairsThatPrint_27 rfl ?_
  refine V.icmp_ge (q := 33) (tgt := 113) dX3_pairsThatPrint_30 rfl (by decide) (fun c => ?_) (fun c => ?_)
  · rw [if_pos c] at hf
    refine V.iload_n (q := 114) rfl dX3_pairsThatPrint_113 rfl rfl ?_
    obtain ⟨rfl, rfl⟩ := ret_inj hf
    exact V.ret (r := some (.int x3)) trivial dX3_pairsThatPrint_114
  · rw [if_neg c] at hf
    refine V.aload_n (q := 34) rfl dX3_pairsThatPrint_33 rfl rfl ?_
    obtain ⟨b4, eb4, hf⟩ := bd_ex hf
    refine V.getR (q := 37) flX3_30 rfl eb4 dX3_pairsThatPrint_34 rfl ?_
    refine V.iload (q := 39) dX3_pairsThatPrint_37 rfl rfl ?_
    refine V.iload (q := 41) dX3_pairsThatPrint_39 rfl rfl ?_
    obtain ⟨_, e5, hf⟩ := bd_ex hf
    obtain ⟨v6, h1, eh1, hf⟩ := bd2_ex hf
    refine V.callV (q := 44) (ci := 5) (vs := [.int x5, .int x4]) (st := []) (S2 := [.int v6]) okX5_sayOf imX5_sayOf seX5_sayOf rfl lkX3_96 (tX5_sayOf eh1) rfl (ck_is e5) (by decide) rfl (Nat.le_of_ble_eq_true rfl) (Nat.le_of_ble_eq_true rfl) rfl dX3_pairsThatPrint_41 rfl rfl ?_
    refine V.istore (q := 46) (L' := [.ref a0, Jk, .int x2, .int x3, .int x4, .int x5, .int v6, Jk]) dX3_pairsThatPrint_44 rfl (by decide) rfl rfl ?_
    refine V.iconst (q := 47) (v := 0) (by decide) dX3_pairsThatPrint_46 rfl ?_
    refine V.istore (q := 49) (L' := [.ref a0, Jk, .int x2, .int x3, .int x4, .int x5, .int v6, .int 0]) dX3_pairsThatPrint_47 rfl (by decide) rfl rfl ?_
    exact tlX3_pairsThatPrint_49 k18 hk18 FU _ _ _ _ _ _ _ _ hf
def fX3_pairsThatPrint_18  : Nat → MH → Nat → Int32 → Int32 → Int32 → Int32 → Option (Int32 × MH)
  | 0 => fun _ _ _ _ _ _ => none
  | n + 1 => bX3_pairsThatPrint_18  (fX3_pairsThatPrint_18  n)
theorem tlX3_pairsThatPrint_18 {r : Int32} {h' : MH}   : ∀ (n : Nat) (h : MH) (a0 : Nat) (x2 : Int32) (x3 : Int32) (x4 : Int32) (x5 : Int32), fX3_pairsThatPrint_18  n h a0 x2 x3 x4 x5 = some (r, h') → V TT mX3_pairsThatPrint 2 (some (.int r)) h' h 18 [.ref a0, Jk, .int x2, .int x3, .int x4, .int x5, Jk, Jk] [] := by
  intro n
  induction n with
  | zero => intro h a0 x2 x3 x4 x5 hf; exact nomatch (show (none : Option (Int32 × MH)) = some (r, h') from hf)
  | succ n ih => intro h a0 x2 x3 x4 x5 hf; exact tX3_pairsThatPrint_18  (fX3_pairsThatPrint_18  n) ih hf
def fX3_pairsThatPrint (h : MH) (a0 : Nat) (x1 : Int32) (x2 : Int32) : Option (Int32 × MH) := bd (gR h a0 3 0) fun b1 => bd (gR h b1 5 0) fun b2 => bd (ck h b2 4) fun _ => bd2 (fX4_marksOf h b2 x1) fun v4 h1 => fX3_pairsThatPrint_18 FU h1 a0 x2 0 v4 0
set_option maxRecDepth 20000 in
theorem tX3_pairsThatPrint {r : Int32} {h' : MH} {h : MH} {a0 : Nat} {x1 : Int32} {x2 : Int32} (hf : fX3_pairsThatPrint h a0 x1 x2 = some (r, h')) : VM mX3_pairsThatPrint 2 (some (.int r)) h' h [.ref a0, .int x1, .int x2] := by
  show V TT mX3_pairsThatPrint 2 _ h' h 0 [.ref a0, .int x1, .int x2, Jk, Jk, Jk, Jk, Jk] []
  unfold fX3_pairsThatPrint at hf
  refine V.iconst (q := 1) (v := 0) (by decide) dX3_pairsThatPrint_0 rfl ?_
  refine V.istore_n (q := 2) (L' := [.ref a0, .int x1, .int x2, .int 0, Jk, Jk, Jk, Jk]) rfl dX3_pairsThatPrint_1 rfl (by decide) rfl rfl ?_
  refine V.aload_n (q := 3) rfl dX3_pairsThatPrint_2 rfl rfl ?_
  obtain ⟨b1, eb1, hf⟩ := bd_ex hf
  refine V.getR (q := 6) flX3_30 rfl eb1 dX3_pairsThatPrint_3 rfl ?_
  obtain ⟨b2, eb2, hf⟩ := bd_ex hf
  refine V.getR (q := 9) flX3_71 rfl eb2 dX3_pairsThatPrint_6 rfl ?_
  refine V.iload_n (q := 10) rfl dX3_pairsThatPrint_9 rfl rfl ?_
  obtain ⟨_, e3, hf⟩ := bd_ex hf
  obtain ⟨v4, h1, eh1, hf⟩ := bd2_ex hf
  refine V.callV (q := 13) (ci := 4) (vs := [.int x1]) (st := []) (S2 := [.int v4]) okX4_marksOf imX4_marksOf seX4_marksOf rfl lkX3_93 (tX4_marksOf eh1) rfl (ck_is e3) (by decide) rfl (Nat.le_of_ble_eq_true rfl) (Nat.le_of_ble_eq_true rfl) rfl dX3_pairsThatPrint_10 rfl rfl ?_
  refine V.istore (q := 15) (L' := [.ref a0, .int x1, .int x2, .int 0, .int v4, Jk, Jk, Jk]) dX3_pairsThatPrint_13 rfl (by decide) rfl rfl ?_
  refine V.iconst (q := 16) (v := 0) (by decide) dX3_pairsThatPrint_15 rfl ?_
  refine V.istore (q := 18) (L' := [.ref a0, .int x1, .int x2, .int 0, .int v4, .int 0, Jk, Jk]) dX3_pairsThatPrint_16 rfl (by decide) rfl rfl ?_
  refine V.forget (L' := [.ref a0, Jk, .int x2, .int 0, .int v4, .int 0, Jk, Jk]) ⟨Or.inr rfl, Or.inl rfl, Or.inr rfl, Or.inr rfl, Or.inr rfl, Or.inr rfl, Or.inl rfl, Or.inl rfl, trivial⟩ ?_
  exact tlX3_pairsThatPrint_18  FU _ _ _ _ _ _ hf
def bX3_setFits_76 (k29 : MH → Nat → Int32 → Option (MH)) (h : MH) (a0 : Nat) (x1 : Int32) (xs0 : Int32) (xs1 : Int32) (as2 : Nat) : Option (MH) := bd (tI h as2 xs1 xs0) fun h1 => bd (gR h1 a0 3 2) fun b1 => bd (gR h1 a0 3 2) fun b2 => bd (lI h1 b2 (x1 + 1)) fun v3 => bd (gR h1 a0 3 1) fun b4 => bd (lI h1 b4 x1) fun v5 => if v5 = 0 then (bd (tI h1 b1 x1 (v3 + 0)) fun h2 => bd (some (x1 + (-1))) fun v6 => k29 h2 a0 v6) else (bd (tI h1 b1 x1 (v3 + 1)) fun h2 => bd (some (x1 + (-1))) fun v6 => k29 h2 a0 v6)
set_option maxRecDepth 20000 in
theorem tX3_setFits_76 {h' : MH} (k29 : MH → Nat → Int32 → Option (MH)) (hk29 : ∀ (h : MH) (a0 : Nat) (x1 : Int32), k29 h a0 x1 = some h' → V TT mX3_setFits 3 none h' h 29 [.ref a0, .int x1] [])  {h : MH} {a0 : Nat} {x1 : Int32} {xs0 : Int32} {xs1 : Int32} {as2 : Nat} (hf : bX3_setFits_76 k29 h a0 x1 xs0 xs1 as2 = some h') : V TT mX3_setFits 3 none h' h 76 [.ref a0, .int x1] [.int xs0, .int xs1, .ref as2] := by
  unfold bX3_setFits_76 at hf
  obtain ⟨h1, eh1, hf⟩ := bd_ex hf
  refine V.iast (q := 77) eh1 dX3_setFits_76 rfl ?_
  refine V.aload_n (q := 78) rfl dX3_setFits_77 rfl rfl ?_
  obtain ⟨b1, eb1, hf⟩ := bd_ex hf
  refine V.getR (q := 81) flX3_15 rfl eb1 dX3_setFits_78 rfl ?_
  refine V.iload_n (q := 82) rfl dX3_setFits_81 rfl rfl ?_
  refine V.aload_n (q := 83) rfl dX3_setFits_82 rfl rfl ?_
  obtain ⟨b2, eb2, hf⟩ := bd_ex hf
  refine V.getR (q := 86) flX3_15 rfl eb2 dX3_setFits_83 rfl ?_
  refine V.iload_n (q := 87) rfl dX3_setFits_86 rfl rfl ?_
  refine V.iconst (q := 88) (v := 1) (by decide) dX3_setFits_87 rfl ?_
  refine V.iadd (q := 89) dX3_setFits_88 rfl ?_
  obtain ⟨v3, ev3, hf⟩ := bd_ex hf
  refine V.iald (q := 90) ev3 dX3_setFits_89 rfl ?_
  refine V.aload_n (q := 91) rfl dX3_setFits_90 rfl rfl ?_
  obtain ⟨b4, eb4, hf⟩ := bd_ex hf
  refine V.getR (q := 94) flX3_9 rfl eb4 dX3_setFits_91 rfl ?_
  refine V.iload_n (q := 95) rfl dX3_setFits_94 rfl rfl ?_
  obtain ⟨v5, ev5, hf⟩ := bd_ex hf
  refine V.iald (q := 96) ev5 dX3_setFits_95 rfl ?_
  refine V.if_ne (q := 99) (tgt := 103) dX3_setFits_96 rfl (by decide) (fun c => ?_) (fun c => ?_)
  · rw [if_neg c] at hf
    refine V.iconst (q := 104) (v := 1) (by decide) dX3_setFits_103 rfl ?_
    refine V.iadd (q := 105) dX3_setFits_104 rfl ?_
    obtain ⟨h2, eh2, hf⟩ := bd_ex hf
    refine V.iast (q := 106) eh2 dX3_setFits_105 rfl ?_
    obtain ⟨v6, ev6, hf⟩ := bd_ex hf
    refine V.iinc (q := 109) (v := v6) (L' := [.ref a0, .int v6]) dX3_setFits_106 rfl rfl (Option.some.inj ev6) (by decide) rfl rfl ?_
    refine V.goto (q := 29) dX3_setFits_109 (by decide) ?_
    exact hk29 _ _ _ hf
  · rw [if_pos c] at hf
    refine V.iconst (q := 100) (v := 0) (by decide) dX3_setFits_99 rfl ?_
    refine V.goto (q := 104) dX3_setFits_100 (by decide) ?_
    refine V.iadd (q := 105) dX3_setFits_104 rfl ?_
    obtain ⟨h2, eh2, hf⟩ := bd_ex hf
    refine V.iast (q := 106) eh2 dX3_setFits_105 rfl ?_
    obtain ⟨v6, ev6, hf⟩ := bd_ex hf
    refine V.iinc (q := 109) (v := v6) (L' := [.ref a0, .int v6]) dX3_setFits_106 rfl rfl (Option.some.inj ev6) (by decide) rfl rfl ?_
    refine V.goto (q := 29) dX3_setFits_109 (by decide) ?_
    exact hk29 _ _ _ hf
def bX3_setFits_29 (k29 : MH → Nat → Int32 → Option (MH)) (h : MH) (a0 : Nat) (x1 : Int32) : Option (MH) := if x1 < 0 then (some h) else (bd (gR h a0 3 1) fun b1 => bd (gR h a0 3 0) fun b2 => bd (gR h b2 5 1) fun b3 => bd (gR h b3 7 1) fun b4 => bd (lI h b4 x1) fun v5 => if v5 = (-2) then (bX3_setFits_76 k29 h a0 x1 0 x1 b1) else (bd (gR h a0 3 0) fun b6 => bd (gR h b6 5 1) fun b7 => bd (gR h b7 7 1) fun b8 => bd (lI h b8 x1) fun v9 => bd (ck h a0 3) fun _ => bd2 (fX3_pairsThatPrint h a0 x1 v9) fun v11 h1 => bX3_setFits_76 k29 h1 a0 x1 v11 x1 b1))
set_option maxRecDepth 20000 in
theorem tX3_setFits_29 {h' : MH} (k29 : MH → Nat → Int32 → Option (MH)) (hk29 : ∀ (h : MH) (a0 : Nat) (x1 : Int32), k29 h a0 x1 = some h' → V TT mX3_setFits 3 none h' h 29 [.ref a0, .int x1] [])  {h : MH} {a0 : Nat} {x1 : Int32} (hf : bX3_setFits_29 k29 h a0 x1 = some h') : V TT mX3_setFits 3 none h' h 29 [.ref a0, .int x1] [] := by
  unfold bX3_setFits_29 at hf
  refine V.iload_n (q := 30) rfl dX3_setFits_29 rfl rfl ?_
  refine V.if_lt (q := 33) (tgt := 112) dX3_setFits_30 rfl (by decide) (fun c => ?_) (fun c => ?_)
  · rw [if_pos c] at hf
    cases hf
    exact V.ret (r := none) trivial dX3_setFits_112
  · rw [if_neg c] at hf
    refine V.aload_n (q := 34) rfl dX3_setFits_33 rfl rfl ?_
    obtain ⟨b1, eb1, hf⟩ := bd_ex hf
    refine V.getR (q := 37) flX3_9 rfl eb1 dX3_setFits_34 rfl ?_
    refine V.iload_n (q := 38) rfl dX3_setFits_37 rfl rfl ?_
    refine V.aload_n (q := 39) rfl dX3_setFits_38 rfl rfl ?_
    obtain ⟨b2, eb2, hf⟩ := bd_ex hf
    refine V.getR (q := 42) flX3_30 rfl eb2 dX3_setFits_39 rfl ?_
    obtain ⟨b3, eb3, hf⟩ := bd_ex hf
    refine V.getR (q := 45) flX3_38 rfl eb3 dX3_setFits_42 rfl ?_
    obtain ⟨b4, eb4, hf⟩ := bd_ex hf
    refine V.getR (q := 48) flX3_87 rfl eb4 dX3_setFits_45 rfl ?_
    refine V.iload_n (q := 49) rfl dX3_setFits_48 rfl rfl ?_
    obtain ⟨v5, ev5, hf⟩ := bd_ex hf
    refine V.iald (q := 50) ev5 dX3_setFits_49 rfl ?_
    refine V.bipush (q := 52) (v := (-2)) (by decide) dX3_setFits_50 rfl ?_
    refine V.icmp_ne (q := 55) (tgt := 59) dX3_setFits_52 rfl (by decide) (fun c => ?_) (fun c => ?_)
    · rw [if_neg c] at hf
      refine V.aload_n (q := 60) rfl dX3_setFits_59 rfl rfl ?_
      refine V.iload_n (q := 61) rfl dX3_setFits_60 rfl rfl ?_
      refine V.aload_n (q := 62) rfl dX3_setFits_61 rfl rfl ?_
      obtain ⟨b6, eb6, hf⟩ := bd_ex hf
      refine V.getR (q := 65) flX3_30 rfl eb6 dX3_setFits_62 rfl ?_
      obtain ⟨b7, eb7, hf⟩ := bd_ex hf
      refine V.getR (q := 68) flX3_38 rfl eb7 dX3_setFits_65 rfl ?_
      obtain ⟨b8, eb8, hf⟩ := bd_ex hf
      refine V.getR (q := 71) flX3_87 rfl eb8 dX3_setFits_68 rfl ?_
      refine V.iload_n (q := 72) rfl dX3_setFits_71 rfl rfl ?_
      obtain ⟨v9, ev9, hf⟩ := bd_ex hf
      refine V.iald (q := 73) ev9 dX3_setFits_72 rfl ?_
      obtain ⟨_, e10, hf⟩ := bd_ex hf
      obtain ⟨v11, h1, eh1, hf⟩ := bd2_ex hf
      refine V.callV (q := 76) (ci := 3) (vs := [.int x1, .int v9]) (st := [.int x1, .ref b1]) (S2 := [.int v11, .int x1, .ref b1]) okX3_pairsThatPrint imX3_pairsThatPrint seX3_pairsThatPrint rfl lkX3_90 (tX3_pairsThatPrint eh1) rfl (ck_is e10) (by decide) rfl (Nat.le_of_ble_eq_true rfl) (Nat.le_of_ble_eq_true rfl) rfl dX3_setFits_73 rfl rfl ?_
      exact tX3_setFits_76 k29 hk29 hf
    · rw [if_pos c] at hf
      refine V.iconst (q := 56) (v := 0) (by decide) dX3_setFits_55 rfl ?_
      refine V.goto (q := 76) dX3_setFits_56 (by decide) ?_
      exact tX3_setFits_76 k29 hk29 hf
def fX3_setFits_29  : Nat → MH → Nat → Int32 → Option (MH)
  | 0 => fun _ _ _ => none
  | n + 1 => bX3_setFits_29  (fX3_setFits_29  n)
theorem tlX3_setFits_29 {h' : MH}   : ∀ (n : Nat) (h : MH) (a0 : Nat) (x1 : Int32), fX3_setFits_29  n h a0 x1 = some h' → V TT mX3_setFits 3 none h' h 29 [.ref a0, .int x1] [] := by
  intro n
  induction n with
  | zero => intro h a0 x1 hf; exact nomatch (show (none : Option (MH)) = some h' from hf)
  | succ n ih => intro h a0 x1 hf; exact tX3_setFits_29  (fX3_setFits_29  n) ih hf
def fX3_setFits (h : MH) (a0 : Nat) : Option (MH) := bd (gR h a0 3 2) fun b1 => bd (gR h a0 3 0) fun b2 => bd (gR h b2 5 1) fun b3 => bd (gI h b3 7 14) fun v4 => bd (tI h b1 v4 0) fun h1 => bd (gR h1 a0 3 0) fun b5 => bd (gR h1 b5 5 1) fun b6 => bd (gI h1 b6 7 14) fun v7 => bd (some (v7 - 1)) fun v8 => fX3_setFits_29 FU h1 a0 v8
set_option maxRecDepth 20000 in
theorem tX3_setFits {h' : MH} {h : MH} {a0 : Nat} (hf : fX3_setFits h a0 = some h') : VM mX3_setFits 3 none h' h [.ref a0] := by
  show V TT mX3_setFits 3 _ h' h 0 [.ref a0, Jk] []
  unfold fX3_setFits at hf
  refine V.aload_n (q := 1) rfl dX3_setFits_0 rfl rfl ?_
  obtain ⟨b1, eb1, hf⟩ := bd_ex hf
  refine V.getR (q := 4) flX3_15 rfl eb1 dX3_setFits_1 rfl ?_
  refine V.aload_n (q := 5) rfl dX3_setFits_4 rfl rfl ?_
  obtain ⟨b2, eb2, hf⟩ := bd_ex hf
  refine V.getR (q := 8) flX3_30 rfl eb2 dX3_setFits_5 rfl ?_
  obtain ⟨b3, eb3, hf⟩ := bd_ex hf
  refine V.getR (q := 11) flX3_38 rfl eb3 dX3_setFits_8 rfl ?_
  obtain ⟨v4, ev4, hf⟩ := bd_ex hf
  refine V.getI (q := 14) flX3_84 rfl ev4 dX3_setFits_11 rfl ?_
  refine V.iconst (q := 15) (v := 0) (by decide) dX3_setFits_14 rfl ?_
  obtain ⟨h1, eh1, hf⟩ := bd_ex hf
  refine V.iast (q := 16) eh1 dX3_setFits_15 rfl ?_
  refine V.aload_n (q := 17) rfl dX3_setFits_16 rfl rfl ?_
  obtain ⟨b5, eb5, hf⟩ := bd_ex hf
  refine V.getR (q := 20) flX3_30 rfl eb5 dX3_setFits_17 rfl ?_
  obtain ⟨b6, eb6, hf⟩ := bd_ex hf
  refine V.getR (q := 23) flX3_38 rfl eb6 dX3_setFits_20 rfl ?_
  obtain ⟨v7, ev7, hf⟩ := bd_ex hf
  refine V.getI (q := 26) flX3_84 rfl ev7 dX3_setFits_23 rfl ?_
  refine V.iconst (q := 27) (v := 1) (by decide) dX3_setFits_26 rfl ?_
  refine V.isub (q := 28) dX3_setFits_27 rfl ?_
  obtain ⟨v8, ev8, hf⟩ := bd_ex hf
  refine V.topI (Option.some.inj ev8) ?_
  refine V.istore_n (q := 29) (L' := [.ref a0, .int v8]) rfl dX3_setFits_28 rfl (by decide) rfl rfl ?_
  exact tlX3_setFits_29  FU _ _ _ hf
def bX3_setRooms_52 (k52 : MH → Nat → Int32 → Option (MH)) (h : MH) (a0 : Nat) (x2 : Int32) : Option (MH) := bd (gR h a0 3 0) fun b1 => bd (gR h b1 5 1) fun b2 => bd (gI h b2 7 17) fun v3 => if v3 ≤ x2 then (some h) else (bd (gR h a0 3 4) fun b4 => bd (tI h b4 x2 2) fun h1 => bd (some (x2 + 1)) fun v5 => k52 h1 a0 v5)
set_option maxRecDepth 20000 in
theorem tX3_setRooms_52 {h' : MH} (k52 : MH → Nat → Int32 → Option (MH)) (hk52 : ∀ (h : MH) (a0 : Nat) (x2 : Int32), k52 h a0 x2 = some h' → V TT mX3_setRooms 1 none h' h 52 [.ref a0, Jk, .int x2] [])  {h : MH} {a0 : Nat} {x2 : Int32} (hf : bX3_setRooms_52 k52 h a0 x2 = some h') : V TT mX3_setRooms 1 none h' h 52 [.ref a0, Jk, .int x2] [] := by
  unfold bX3_setRooms_52 at hf
  refine V.iload_n (q := 53) rfl dX3_setRooms_52 rfl rfl ?_
  refine V.aload_n (q := 54) rfl dX3_setRooms_53 rfl rfl ?_
  obtain ⟨b1, eb1, hf⟩ := bd_ex hf
  refine V.getR (q := 57) flX3_30 rfl eb1 dX3_setRooms_54 rfl ?_
  obtain ⟨b2, eb2, hf⟩ := bd_ex hf
  refine V.getR (q := 60) flX3_38 rfl eb2 dX3_setRooms_57 rfl ?_
  obtain ⟨v3, ev3, hf⟩ := bd_ex hf
  refine V.getI (q := 63) flX3_81 rfl ev3 dX3_setRooms_60 rfl ?_
  refine V.icmp_ge (q := 66) (tgt := 79) dX3_setRooms_63 rfl (by decide) (fun c => ?_) (fun c => ?_)
  · rw [if_pos c] at hf
    cases hf
    exact V.ret (r := none) trivial dX3_setRooms_79
  · rw [if_neg c] at hf
    refine V.aload_n (q := 67) rfl dX3_setRooms_66 rfl rfl ?_
    obtain ⟨b4, eb4, hf⟩ := bd_ex hf
    refine V.getR (q := 70) flX3_21 rfl eb4 dX3_setRooms_67 rfl ?_
    refine V.iload_n (q := 71) rfl dX3_setRooms_70 rfl rfl ?_
    refine V.iconst (q := 72) (v := 2) (by decide) dX3_setRooms_71 rfl ?_
    obtain ⟨h1, eh1, hf⟩ := bd_ex hf
    refine V.iast (q := 73) eh1 dX3_setRooms_72 rfl ?_
    obtain ⟨v5, ev5, hf⟩ := bd_ex hf
    refine V.iinc (q := 76) (v := v5) (L' := [.ref a0, Jk, .int v5]) dX3_setRooms_73 rfl rfl (Option.some.inj ev5) (by decide) rfl rfl ?_
    refine V.goto (q := 52) dX3_setRooms_76 (by decide) ?_
    exact hk52 _ _ _ hf
def fX3_setRooms_52  : Nat → MH → Nat → Int32 → Option (MH)
  | 0 => fun _ _ _ => none
  | n + 1 => bX3_setRooms_52  (fX3_setRooms_52  n)
theorem tlX3_setRooms_52 {h' : MH}   : ∀ (n : Nat) (h : MH) (a0 : Nat) (x2 : Int32), fX3_setRooms_52  n h a0 x2 = some h' → V TT mX3_setRooms 1 none h' h 52 [.ref a0, Jk, .int x2] [] := by
  intro n
  induction n with
  | zero => intro h a0 x2 hf; exact nomatch (show (none : Option (MH)) = some h' from hf)
  | succ n ih => intro h a0 x2 hf; exact tX3_setRooms_52  (fX3_setRooms_52  n) ih hf
def bX3_setRooms_2 (k2 : MH → Nat → Int32 → Int32 → Option (MH)) (h : MH) (a0 : Nat) (x1 : Int32) (x2 : Int32) : Option (MH) := bd (gR h a0 3 0) fun b1 => bd (gR h b1 5 1) fun b2 => bd (gI h b2 7 15) fun v3 => if v3 ≤ x2 then (fX3_setRooms_52 FU h a0 0) else (bd (gR h a0 3 3) fun b4 => bd (gR h a0 3 0) fun b5 => bd (gR h b5 5 0) fun b6 => bd (ck h b6 4) fun _ => bd2 (fX4_inkOf h b6 x2) fun v8 h1 => if x2 = x1 then (bd (tI h1 b4 x2 (v8 + 1)) fun h2 => bd (some (x2 + 1)) fun v9 => k2 h2 a0 x1 v9) else (bd (tI h1 b4 x2 (v8 + 0)) fun h2 => bd (some (x2 + 1)) fun v9 => k2 h2 a0 x1 v9))
set_option maxRecDepth 20000 in
theorem tX3_setRooms_2 {h' : MH} (k2 : MH → Nat → Int32 → Int32 → Option (MH)) (hk2 : ∀ (h : MH) (a0 : Nat) (x1 : Int32) (x2 : Int32), k2 h a0 x1 x2 = some h' → V TT mX3_setRooms 1 none h' h 2 [.ref a0, .int x1, .int x2] [])  {h : MH} {a0 : Nat} {x1 : Int32} {x2 : Int32} (hf : bX3_setRooms_2 k2 h a0 x1 x2 = some h') : V TT mX3_setRooms 1 none h' h 2 [.ref a0, .int x1, .int x2] [] := by
  unfold bX3_setRooms_2 at hf
  refine V.iload_n (q := 3) rfl dX3_setRooms_2 rfl rfl ?_
  refine V.aload_n (q := 4) rfl dX3_setRooms_3 rfl rfl ?_
  obtain ⟨b1, eb1, hf⟩ := bd_ex hf
  refine V.getR (q := 7) flX3_30 rfl eb1 dX3_setRooms_4 rfl ?_
  obtain ⟨b2, eb2, hf⟩ := bd_ex hf
  refine V.getR (q := 10) flX3_38 rfl eb2 dX3_setRooms_7 rfl ?_
  obtain ⟨v3, ev3, hf⟩ := bd_ex hf
  refine V.getI (q := 13) flX3_44 rfl ev3 dX3_setRooms_10 rfl ?_
  refine V.icmp_ge (q := 16) (tgt := 50) dX3_setRooms_13 rfl (by decide) (fun c => ?_) (fun c => ?_)
  · rw [if_pos c] at hf
    refine V.iconst (q := 51) (v := 0) (by decide) dX3_setRooms_50 rfl ?_
    refine V.istore_n (q := 52) (L' := [.ref a0, .int x1, .int 0]) rfl dX3_setRooms_51 rfl (by decide) rfl rfl ?_
    refine V.forget (L' := [.ref a0, Jk, .int 0]) ⟨Or.inr rfl, Or.inl rfl, Or.inr rfl, trivial⟩ ?_
    exact tlX3_setRooms_52  FU _ _ _ hf
  · rw [if_neg c] at hf
    refine V.aload_n (q := 17) rfl dX3_setRooms_16 rfl rfl ?_
    obtain ⟨b4, eb4, hf⟩ := bd_ex hf
    refine V.getR (q := 20) flX3_18 rfl eb4 dX3_setRooms_17 rfl ?_
    refine V.iload_n (q := 21) rfl dX3_setRooms_20 rfl rfl ?_
    refine V.aload_n (q := 22) rfl dX3_setRooms_21 rfl rfl ?_
    obtain ⟨b5, eb5, hf⟩ := bd_ex hf
    refine V.getR (q := 25) flX3_30 rfl eb5 dX3_setRooms_22 rfl ?_
    obtain ⟨b6, eb6, hf⟩ := bd_ex hf
    refine V.getR (q := 28) flX3_71 rfl eb6 dX3_setRooms_25 rfl ?_
    refine V.iload_n (q := 29) rfl dX3_setRooms_28 rfl rfl ?_
    obtain ⟨_, e7, hf⟩ := bd_ex hf
    obtain ⟨v8, h1, eh1, hf⟩ := bd2_ex hf
    refine V.callV (q := 32) (ci := 4) (vs := [.int x2]) (st := [.int x2, .ref b4]) (S2 := [.int v8, .int x2, .ref b4]) okX4_inkOf imX4_inkOf seX4_inkOf rfl lkX3_75 (tX4_inkOf eh1) rfl (ck_is e7) (by decide) rfl (Nat.le_of_ble_eq_true rfl) (Nat.le_of_ble_eq_true rfl) rfl dX3_setRooms_29 rfl rfl ?_
    refine V.iload_n (q := 33) rfl dX3_setRooms_32 rfl rfl ?_
    refine V.iload_n (q := 34) rfl dX3_setRooms_33 rfl rfl ?_
    refine V.icmp_ne (q := 37) (tgt := 41) dX3_setRooms_34 rfl (by decide) (fun c => ?_) (fun c => ?_)
    · rw [if_neg c] at hf
      refine V.iconst (q := 42) (v := 0) (by decide) dX3_setRooms_41 rfl ?_
      refine V.iadd (q := 43) dX3_setRooms_42 rfl ?_
      obtain ⟨h2, eh2, hf⟩ := bd_ex hf
      refine V.iast (q := 44) eh2 dX3_setRooms_43 rfl ?_
      obtain ⟨v9, ev9, hf⟩ := bd_ex hf
      refine V.iinc (q := 47) (v := v9) (L' := [.ref a0, .int x1, .int v9]) dX3_setRooms_44 rfl rfl (Option.some.inj ev9) (by decide) rfl rfl ?_
      refine V.goto (q := 2) dX3_setRooms_47 (by decide) ?_
      exact hk2 _ _ _ _ hf
    · rw [if_pos c] at hf
      refine V.iconst (q := 38) (v := 1) (by decide) dX3_setRooms_37 rfl ?_
      refine V.goto (q := 42) dX3_setRooms_38 (by decide) ?_
      refine V.iadd (q := 43) dX3_setRooms_42 rfl ?_
      obtain ⟨h2, eh2, hf⟩ := bd_ex hf
      refine V.iast (q := 44) eh2 dX3_setRooms_43 rfl ?_
      obtain ⟨v9, ev9, hf⟩ := bd_ex hf
      refine V.iinc (q := 47) (v := v9) (L' := [.ref a0, .int x1, .int v9]) dX3_setRooms_44 rfl rfl (Option.some.inj ev9) (by decide) rfl rfl ?_
      refine V.goto (q := 2) dX3_setRooms_47 (by decide) ?_
      exact hk2 _ _ _ _ hf
def fX3_setRooms_2  : Nat → MH → Nat → Int32 → Int32 → Option (MH)
  | 0 => fun _ _ _ _ => none
  | n + 1 => bX3_setRooms_2  (fX3_setRooms_2  n)
theorem tlX3_setRooms_2 {h' : MH}   : ∀ (n : Nat) (h : MH) (a0 : Nat) (x1 : Int32) (x2 : Int32), fX3_setRooms_2  n h a0 x1 x2 = some h' → V TT mX3_setRooms 1 none h' h 2 [.ref a0, .int x1, .int x2] [] := by
  intro n
  induction n with
  | zero => intro h a0 x1 x2 hf; exact nomatch (show (none : Option (MH)) = some h' from hf)
  | succ n ih => intro h a0 x1 x2 hf; exact tX3_setRooms_2  (fX3_setRooms_2  n) ih hf
def fX3_setRooms (h : MH) (a0 : Nat) (x1 : Int32) : Option (MH) := fX3_setRooms_2 FU h a0 x1 0
set_option maxRecDepth 20000 in
theorem tX3_setRooms {h' : MH} {h : MH} {a0 : Nat} {x1 : Int32} (hf : fX3_setRooms h a0 x1 = some h') : VM mX3_setRooms 1 none h' h [.ref a0, .int x1] := by
  show V TT mX3_setRooms 1 _ h' h 0 [.ref a0, .int x1, Jk] []
  unfold fX3_setRooms at hf
  refine V.iconst (q := 1) (v := 0) (by decide) dX3_setRooms_0 rfl ?_
  refine V.istore_n (q := 2) (L' := [.ref a0, .int x1, .int 0]) rfl dX3_setRooms_1 rfl (by decide) rfl rfl ?_
  exact tlX3_setRooms_2  FU _ _ _ _ hf
def fX3_canPress (h : MH) (a0 : Nat) (x1 : Int32) (x2 : Int32) (x3 : Int32) : Option (Int32 × MH) := bd (gR h a0 3 1) fun b1 => bd (lI h b1 x3) fun v2 => bd2 (fX11_hasBit h v2 ((x1 * 3) + x2)) fun v3 h1 => if v3 = 0 then (some (0, h1)) else (bd (gR h1 a0 3 3) fun b4 => bd (lI h1 b4 x1) fun v5 => if v5 ≤ 0 then (some (0, h1)) else (bd (gR h1 a0 3 4) fun b6 => bd (lI h1 b6 x2) fun v7 => if v7 ≤ 0 then (some (0, h1)) else (some (1, h1))))
set_option maxRecDepth 20000 in
theorem tX3_canPress {r : Int32} {h' : MH} {h : MH} {a0 : Nat} {x1 : Int32} {x2 : Int32} {x3 : Int32} (hf : fX3_canPress h a0 x1 x2 x3 = some (r, h')) : VM mX3_canPress 1 (some (.int r)) h' h [.ref a0, .int x1, .int x2, .int x3] := by
  show V TT mX3_canPress 1 _ h' h 0 [.ref a0, .int x1, .int x2, .int x3] []
  unfold fX3_canPress at hf
  refine V.aload_n (q := 1) rfl dX3_canPress_0 rfl rfl ?_
  obtain ⟨b1, eb1, hf⟩ := bd_ex hf
  refine V.getR (q := 4) flX3_9 rfl eb1 dX3_canPress_1 rfl ?_
  refine V.iload_n (q := 5) rfl dX3_canPress_4 rfl rfl ?_
  obtain ⟨v2, ev2, hf⟩ := bd_ex hf
  refine V.iald (q := 6) ev2 dX3_canPress_5 rfl ?_
  refine V.iload_n (q := 7) rfl dX3_canPress_6 rfl rfl ?_
  refine V.iconst (q := 8) (v := 3) (by decide) dX3_canPress_7 rfl ?_
  refine V.imul (q := 9) dX3_canPress_8 rfl ?_
  refine V.iload_n (q := 10) rfl dX3_canPress_9 rfl rfl ?_
  refine V.iadd (q := 11) dX3_canPress_10 rfl ?_
  obtain ⟨v3, h1, eh1, hf⟩ := bd2_ex hf
  refine V.callSN (q := 14) (vs := [.int v2, .int ((x1 * 3) + x2)]) (st := []) (S2 := [.int v3]) okX11_hasBit stX11_hasBit lnX3_118 (tX11_hasBit eh1) rfl (by decide) rfl (Nat.le_of_ble_eq_true rfl) (Nat.le_of_ble_eq_true rfl) rfl dX3_canPress_11 rfl rfl ?_
  refine V.if_eq (q := 17) (tgt := 39) dX3_canPress_14 rfl (by decide) (fun c => ?_) (fun c => ?_)
  · rw [if_pos c] at hf
    refine V.iconst (q := 40) (v := 0) (by decide) dX3_canPress_39 rfl ?_
    obtain ⟨rfl, rfl⟩ := ret_inj hf
    exact V.ret (r := some (.int 0)) (Or.inl rfl) dX3_canPress_40
  · rw [if_neg c] at hf
    refine V.aload_n (q := 18) rfl dX3_canPress_17 rfl rfl ?_
    obtain ⟨b4, eb4, hf⟩ := bd_ex hf
    refine V.getR (q := 21) flX3_18 rfl eb4 dX3_canPress_18 rfl ?_
    refine V.iload_n (q := 22) rfl dX3_canPress_21 rfl rfl ?_
    obtain ⟨v5, ev5, hf⟩ := bd_ex hf
    refine V.iald (q := 23) ev5 dX3_canPress_22 rfl ?_
    refine V.if_le (q := 26) (tgt := 39) dX3_canPress_23 rfl (by decide) (fun c => ?_) (fun c => ?_)
    · rw [if_pos c] at hf
      refine V.iconst (q := 40) (v := 0) (by decide) dX3_canPress_39 rfl ?_
      obtain ⟨rfl, rfl⟩ := ret_inj hf
      exact V.ret (r := some (.int 0)) (Or.inl rfl) dX3_canPress_40
    · rw [if_neg c] at hf
      refine V.aload_n (q := 27) rfl dX3_canPress_26 rfl rfl ?_
      obtain ⟨b6, eb6, hf⟩ := bd_ex hf
      refine V.getR (q := 30) flX3_21 rfl eb6 dX3_canPress_27 rfl ?_
      refine V.iload_n (q := 31) rfl dX3_canPress_30 rfl rfl ?_
      obtain ⟨v7, ev7, hf⟩ := bd_ex hf
      refine V.iald (q := 32) ev7 dX3_canPress_31 rfl ?_
      refine V.if_le (q := 35) (tgt := 39) dX3_canPress_32 rfl (by decide) (fun c => ?_) (fun c => ?_)
      · rw [if_pos c] at hf
        refine V.iconst (q := 40) (v := 0) (by decide) dX3_canPress_39 rfl ?_
        obtain ⟨rfl, rfl⟩ := ret_inj hf
        exact V.ret (r := some (.int 0)) (Or.inl rfl) dX3_canPress_40
      · rw [if_neg c] at hf
        refine V.iconst (q := 36) (v := 1) (by decide) dX3_canPress_35 rfl ?_
        refine V.goto (q := 40) dX3_canPress_36 (by decide) ?_
        obtain ⟨rfl, rfl⟩ := ret_inj hf
        exact V.ret (r := some (.int 1)) (Or.inr rfl) dX3_canPress_40
def bX3_keepTried_7 (k7 : MH → Nat → Int32 → Option (MH)) (h : MH) (a0 : Nat) (x2 : Int32) : Option (MH) := bd (gR h a0 3 0) fun b1 => bd (gR h b1 5 1) fun b2 => bd (gI h b2 7 14) fun v3 => if v3 ≤ x2 then (some h) else (bd (gR h a0 3 6) fun b4 => bd (gR h a0 3 5) fun b5 => bd (lI h b5 x2) fun v6 => bd (tI h b4 x2 v6) fun h1 => bd (some (x2 + 1)) fun v7 => k7 h1 a0 v7)
set_option maxRecDepth 20000 in
theorem tX3_keepTried_7 {h' : MH} (k7 : MH → Nat → Int32 → Option (MH)) (hk7 : ∀ (h : MH) (a0 : Nat) (x2 : Int32), k7 h a0 x2 = some h' → V TT mX3_keepTried 0 none h' h 7 [.ref a0, Jk, .int x2] [])  {h : MH} {a0 : Nat} {x2 : Int32} (hf : bX3_keepTried_7 k7 h a0 x2 = some h') : V TT mX3_keepTried 0 none h' h 7 [.ref a0, Jk, .int x2] [] := by
  unfold bX3_keepTried_7 at hf
  refine V.iload_n (q := 8) rfl dX3_keepTried_7 rfl rfl ?_
  refine V.aload_n (q := 9) rfl dX3_keepTried_8 rfl rfl ?_
  obtain ⟨b1, eb1, hf⟩ := bd_ex hf
  refine V.getR (q := 12) flX3_30 rfl eb1 dX3_keepTried_9 rfl ?_
  obtain ⟨b2, eb2, hf⟩ := bd_ex hf
  refine V.getR (q := 15) flX3_38 rfl eb2 dX3_keepTried_12 rfl ?_
  obtain ⟨v3, ev3, hf⟩ := bd_ex hf
  refine V.getI (q := 18) flX3_84 rfl ev3 dX3_keepTried_15 rfl ?_
  refine V.icmp_ge (q := 21) (tgt := 39) dX3_keepTried_18 rfl (by decide) (fun c => ?_) (fun c => ?_)
  · rw [if_pos c] at hf
    cases hf
    exact V.ret (r := none) trivial dX3_keepTried_39
  · rw [if_neg c] at hf
    refine V.aload_n (q := 22) rfl dX3_keepTried_21 rfl rfl ?_
    obtain ⟨b4, eb4, hf⟩ := bd_ex hf
    refine V.getR (q := 25) flX3_27 rfl eb4 dX3_keepTried_22 rfl ?_
    refine V.iload_n (q := 26) rfl dX3_keepTried_25 rfl rfl ?_
    refine V.aload_n (q := 27) rfl dX3_keepTried_26 rfl rfl ?_
    obtain ⟨b5, eb5, hf⟩ := bd_ex hf
    refine V.getR (q := 30) flX3_24 rfl eb5 dX3_keepTried_27 rfl ?_
    refine V.iload_n (q := 31) rfl dX3_keepTried_30 rfl rfl ?_
    obtain ⟨v6, ev6, hf⟩ := bd_ex hf
    refine V.iald (q := 32) ev6 dX3_keepTried_31 rfl ?_
    obtain ⟨h1, eh1, hf⟩ := bd_ex hf
    refine V.iast (q := 33) eh1 dX3_keepTried_32 rfl ?_
    obtain ⟨v7, ev7, hf⟩ := bd_ex hf
    refine V.iinc (q := 36) (v := v7) (L' := [.ref a0, Jk, .int v7]) dX3_keepTried_33 rfl rfl (Option.some.inj ev7) (by decide) rfl rfl ?_
    refine V.goto (q := 7) dX3_keepTried_36 (by decide) ?_
    exact hk7 _ _ _ hf
def fX3_keepTried_7  : Nat → MH → Nat → Int32 → Option (MH)
  | 0 => fun _ _ _ => none
  | n + 1 => bX3_keepTried_7  (fX3_keepTried_7  n)
theorem tlX3_keepTried_7 {h' : MH}   : ∀ (n : Nat) (h : MH) (a0 : Nat) (x2 : Int32), fX3_keepTried_7  n h a0 x2 = some h' → V TT mX3_keepTried 0 none h' h 7 [.ref a0, Jk, .int x2] [] := by
  intro n
  induction n with
  | zero => intro h a0 x2 hf; exact nomatch (show (none : Option (MH)) = some h' from hf)
  | succ n ih => intro h a0 x2 hf; exact tX3_keepTried_7  (fX3_keepTried_7  n) ih hf
def fX3_keepTried (h : MH) (a0 : Nat) (x1 : Int32) : Option (MH) := bd (pI h a0 3 7 x1) fun h1 => fX3_keepTried_7 FU h1 a0 0
set_option maxRecDepth 20000 in
theorem tX3_keepTried {h' : MH} {h : MH} {a0 : Nat} {x1 : Int32} (hf : fX3_keepTried h a0 x1 = some h') : VM mX3_keepTried 0 none h' h [.ref a0, .int x1] := by
  show V TT mX3_keepTried 0 _ h' h 0 [.ref a0, .int x1, Jk] []
  unfold fX3_keepTried at hf
  refine V.aload_n (q := 1) rfl dX3_keepTried_0 rfl rfl ?_
  refine V.iload_n (q := 2) rfl dX3_keepTried_1 rfl rfl ?_
  obtain ⟨h1, eh1, hf⟩ := bd_ex hf
  refine V.putI (q := 5) (fpX3_64 rfl) rfl eh1 dX3_keepTried_2 rfl ?_
  refine V.iconst (q := 6) (v := 0) (by decide) dX3_keepTried_5 rfl ?_
  refine V.istore_n (q := 7) (L' := [.ref a0, .int x1, .int 0]) rfl dX3_keepTried_6 rfl (by decide) rfl rfl ?_
  refine V.forget (L' := [.ref a0, Jk, .int 0]) ⟨Or.inr rfl, Or.inl rfl, Or.inr rfl, trivial⟩ ?_
  exact tlX3_keepTried_7  FU _ _ _ hf
def fX9_sayOfLaw (h : MH) (a0 : Nat) (x1 : Int32) (x2 : Int32) : Option (Int32 × MH) := if 3 ≤ x1 then (bd (nz 6) fun _ => bd (some ((x1 - 3) / 6)) fun v2 => bd (nz 6) fun _ => bd (some ((x1 - 3) - (x1 - 3) / 6 * 6)) fun v4 => bd (nz 2) fun _ => bd (some (v4 / 2)) fun v6 => bd2 (fX11_hasBit h x2 v2) fun v7 h1 => if v7 = 0 then (bd (nz 2) fun _ => bd (nz 3) fun _ => some ((((v6 + 1) + (v4 - v4 / 2 * 2)) - ((v6 + 1) + (v4 - v4 / 2 * 2)) / 3 * 3), h1)) else (some (v6, h1))) else (some (x1, h))
set_option maxRecDepth 20000 in
theorem tX9_sayOfLaw {r : Int32} {h' : MH} {h : MH} {a0 : Nat} {x1 : Int32} {x2 : Int32} (hf : fX9_sayOfLaw h a0 x1 x2 = some (r, h')) : VM mX9_sayOfLaw 1 (some (.int r)) h' h [.ref a0, .int x1, .int x2] := by
  show V TT mX9_sayOfLaw 1 _ h' h 0 [.ref a0, .int x1, .int x2, Jk, Jk, Jk] []
  unfold fX9_sayOfLaw at hf
  refine V.iload_n (q := 1) rfl dX9_sayOfLaw_0 rfl rfl ?_
  refine V.iconst (q := 2) (v := 3) (by decide) dX9_sayOfLaw_1 rfl ?_
  refine V.icmp_ge (q := 5) (tgt := 7) dX9_sayOfLaw_2 rfl (by decide) (fun c => ?_) (fun c => ?_)
  · rw [if_pos c] at hf
    refine V.iload_n (q := 8) rfl dX9_sayOfLaw_7 rfl rfl ?_
    refine V.iconst (q := 9) (v := 3) (by decide) dX9_sayOfLaw_8 rfl ?_
    refine V.isub (q := 10) dX9_sayOfLaw_9 rfl ?_
    refine V.bipush (q := 12) (v := 6) (by decide) dX9_sayOfLaw_10 rfl ?_
    obtain ⟨_, e1, hf⟩ := bd_ex hf
    refine V.idiv (q := 13) (nz_is e1) dX9_sayOfLaw_12 rfl ?_
    obtain ⟨v2, ev2, hf⟩ := bd_ex hf
    refine V.topI (Option.some.inj ev2) ?_
    refine V.istore_n (q := 14) (L' := [.ref a0, .int x1, .int x2, .int v2, Jk, Jk]) rfl dX9_sayOfLaw_13 rfl (by decide) rfl rfl ?_
    refine V.iload_n (q := 15) rfl dX9_sayOfLaw_14 rfl rfl ?_
    refine V.iconst (q := 16) (v := 3) (by decide) dX9_sayOfLaw_15 rfl ?_
    refine V.isub (q := 17) dX9_sayOfLaw_16 rfl ?_
    refine V.bipush (q := 19) (v := 6) (by decide) dX9_sayOfLaw_17 rfl ?_
    obtain ⟨_, e3, hf⟩ := bd_ex hf
    refine V.irem (q := 20) (nz_is e3) dX9_sayOfLaw_19 rfl ?_
    obtain ⟨v4, ev4, hf⟩ := bd_ex hf
    refine V.topI (Option.some.inj ev4) ?_
    refine V.istore (q := 22) (L' := [.ref a0, .int x1, .int x2, .int v2, .int v4, Jk]) dX9_sayOfLaw_20 rfl (by decide) rfl rfl ?_
    refine V.iload (q := 24) dX9_sayOfLaw_22 rfl rfl ?_
    refine V.iconst (q := 25) (v := 2) (by decide) dX9_sayOfLaw_24 rfl ?_
    obtain ⟨_, e5, hf⟩ := bd_ex hf
    refine V.idiv (q := 26) (nz_is e5) dX9_sayOfLaw_25 rfl ?_
    obtain ⟨v6, ev6, hf⟩ := bd_ex hf
    refine V.topI (Option.some.inj ev6) ?_
    refine V.istore (q := 28) (L' := [.ref a0, .int x1, .int x2, .int v2, .int v4, .int v6]) dX9_sayOfLaw_26 rfl (by decide) rfl rfl ?_
    refine V.iload_n (q := 29) rfl dX9_sayOfLaw_28 rfl rfl ?_
    refine V.iload_n (q := 30) rfl dX9_sayOfLaw_29 rfl rfl ?_
    obtain ⟨v7, h1, eh1, hf⟩ := bd2_ex hf
    refine V.callSN (q := 33) (vs := [.int x2, .int v2]) (st := []) (S2 := [.int v7]) okX11_hasBit stX11_hasBit lnX9_55 (tX11_hasBit eh1) rfl (by decide) rfl (Nat.le_of_ble_eq_true rfl) (Nat.le_of_ble_eq_true rfl) rfl dX9_sayOfLaw_30 rfl rfl ?_
    refine V.if_eq (q := 36) (tgt := 39) dX9_sayOfLaw_33 rfl (by decide) (fun c => ?_) (fun c => ?_)
    · rw [if_pos c] at hf
      refine V.iload (q := 41) dX9_sayOfLaw_39 rfl rfl ?_
      refine V.iconst (q := 42) (v := 1) (by decide) dX9_sayOfLaw_41 rfl ?_
      refine V.iadd (q := 43) dX9_sayOfLaw_42 rfl ?_
      refine V.iload (q := 45) dX9_sayOfLaw_43 rfl rfl ?_
      refine V.iconst (q := 46) (v := 2) (by decide) dX9_sayOfLaw_45 rfl ?_
      obtain ⟨_, e8, hf⟩ := bd_ex hf
      refine V.irem (q := 47) (nz_is e8) dX9_sayOfLaw_46 rfl ?_
      refine V.iadd (q := 48) dX9_sayOfLaw_47 rfl ?_
      refine V.iconst (q := 49) (v := 3) (by decide) dX9_sayOfLaw_48 rfl ?_
      obtain ⟨_, e9, hf⟩ := bd_ex hf
      refine V.irem (q := 50) (nz_is e9) dX9_sayOfLaw_49 rfl ?_
      obtain ⟨rfl, rfl⟩ := ret_inj hf
      exact V.ret (r := some (.int (((v6 + 1) + (v4 - v4 / 2 * 2)) - ((v6 + 1) + (v4 - v4 / 2 * 2)) / 3 * 3))) trivial dX9_sayOfLaw_50
    · rw [if_neg c] at hf
      refine V.iload (q := 38) dX9_sayOfLaw_36 rfl rfl ?_
      obtain ⟨rfl, rfl⟩ := ret_inj hf
      exact V.ret (r := some (.int v6)) trivial dX9_sayOfLaw_38
  · rw [if_neg c] at hf
    refine V.iload_n (q := 6) rfl dX9_sayOfLaw_5 rfl rfl ?_
    obtain ⟨rfl, rfl⟩ := ret_inj hf
    exact V.ret (r := some (.int x1)) trivial dX9_sayOfLaw_6
def bX9_isFitting_2 (k2 : MH → Nat → Int32 → Int32 → Option (Int32 × MH)) (h : MH) (a0 : Nat) (x1 : Int32) (x2 : Int32) : Option (Int32 × MH) := bd (gR h a0 9 0) fun b1 => bd (gR h b1 5 1) fun b2 => bd (gI h b2 7 19) fun v3 => if v3 ≤ x2 then (some (1, h)) else (bd (gR h a0 9 0) fun b4 => bd (gR h b4 5 0) fun b5 => bd (gR h a0 9 0) fun b6 => bd (gR h b6 5 1) fun b7 => bd (gR h b7 7 9) fun b8 => bd (lI h b8 x2) fun v9 => bd (ck h b5 4) fun _ => bd2 (fX4_marksOf h b5 v9) fun v11 h1 => bd (ck h1 a0 9) fun _ => bd2 (fX9_sayOfLaw h1 a0 x1 v11) fun v13 h2 => bd (gR h2 a0 9 0) fun b14 => bd (gR h2 a0 9 0) fun b15 => bd (gR h2 b15 5 1) fun b16 => bd (gR h2 b16 7 10) fun b17 => bd (lI h2 b17 x2) fun v18 => bd (ck h2 b14 5) fun _ => bd2 (fX5_printBy h2 b14 v18 v13) fun v20 h3 => bd (gR h3 a0 9 0) fun b21 => bd (gR h3 b21 5 1) fun b22 => bd (gR h3 b22 7 11) fun b23 => bd (lI h3 b23 x2) fun v24 => if v20 = v24 then (bd (some (x2 + 1)) fun v25 => k2 h3 a0 x1 v25) else (some (0, h3)))
set_option maxRecDepth 20000 in
theorem tX9_isFitting_2 {r : Int32} {h' : MH} (k2 : MH → Nat → Int32 → Int32 → Option (Int32 × MH)) (hk2 : ∀ (h : MH) (a0 : Nat) (x1 : Int32) (x2 : Int32), k2 h a0 x1 x2 = some (r, h') → V TT mX9_isFitting 2 (some (.int r)) h' h 2 [.ref a0, .int x1, .int x2, Jk] [])  {h : MH} {a0 : Nat} {x1 : Int32} {x2 : Int32} (hf : bX9_isFitting_2 k2 h a0 x1 x2 = some (r, h')) : V TT mX9_isFitting 2 (some (.int r)) h' h 2 [.ref a0, .int x1, .int x2, Jk] [] := by
  unfold bX9_isFitting_2 at hf
  refine V.iload_n (q := 3) rfl dX9_isFitting_2 rfl rfl ?_
  refine V.aload_n (q := 4) rfl dX9_isFitting_3 rfl rfl ?_
  obtain ⟨b1, eb1, hf⟩ := bd_ex hf
  refine V.getR (q := 7) flX9_9 rfl eb1 dX9_isFitting_4 rfl ?_
  obtain ⟨b2, eb2, hf⟩ := bd_ex hf
  refine V.getR (q := 10) flX9_15 rfl eb2 dX9_isFitting_7 rfl ?_
  obtain ⟨v3, ev3, hf⟩ := bd_ex hf
  refine V.getI (q := 13) flX9_21 rfl ev3 dX9_isFitting_10 rfl ?_
  refine V.icmp_ge (q := 16) (tgt := 87) dX9_isFitting_13 rfl (by decide) (fun c => ?_) (fun c => ?_)
  · rw [if_pos c] at hf
    refine V.iconst (q := 88) (v := 1) (by decide) dX9_isFitting_87 rfl ?_
    obtain ⟨rfl, rfl⟩ := ret_inj hf
    exact V.ret (r := some (.int 1)) (Or.inr rfl) dX9_isFitting_88
  · rw [if_neg c] at hf
    refine V.aload_n (q := 17) rfl dX9_isFitting_16 rfl rfl ?_
    refine V.iload_n (q := 18) rfl dX9_isFitting_17 rfl rfl ?_
    refine V.aload_n (q := 19) rfl dX9_isFitting_18 rfl rfl ?_
    obtain ⟨b4, eb4, hf⟩ := bd_ex hf
    refine V.getR (q := 22) flX9_9 rfl eb4 dX9_isFitting_19 rfl ?_
    obtain ⟨b5, eb5, hf⟩ := bd_ex hf
    refine V.getR (q := 25) flX9_59 rfl eb5 dX9_isFitting_22 rfl ?_
    refine V.aload_n (q := 26) rfl dX9_isFitting_25 rfl rfl ?_
    obtain ⟨b6, eb6, hf⟩ := bd_ex hf
    refine V.getR (q := 29) flX9_9 rfl eb6 dX9_isFitting_26 rfl ?_
    obtain ⟨b7, eb7, hf⟩ := bd_ex hf
    refine V.getR (q := 32) flX9_15 rfl eb7 dX9_isFitting_29 rfl ?_
    obtain ⟨b8, eb8, hf⟩ := bd_ex hf
    refine V.getR (q := 35) flX9_27 rfl eb8 dX9_isFitting_32 rfl ?_
    refine V.iload_n (q := 36) rfl dX9_isFitting_35 rfl rfl ?_
    obtain ⟨v9, ev9, hf⟩ := bd_ex hf
    refine V.iald (q := 37) ev9 dX9_isFitting_36 rfl ?_
    obtain ⟨_, e10, hf⟩ := bd_ex hf
    obtain ⟨v11, h1, eh1, hf⟩ := bd2_ex hf
    refine V.callV (q := 40) (ci := 4) (vs := [.int v9]) (st := [.int x1, .ref a0]) (S2 := [.int v11, .int x1, .ref a0]) okX4_marksOf imX4_marksOf seX4_marksOf rfl lkX9_63 (tX4_marksOf eh1) rfl (ck_is e10) (by decide) rfl (Nat.le_of_ble_eq_true rfl) (Nat.le_of_ble_eq_true rfl) rfl dX9_isFitting_37 rfl rfl ?_
    obtain ⟨_, e12, hf⟩ := bd_ex hf
    obtain ⟨v13, h2, eh2, hf⟩ := bd2_ex hf
    refine V.callV (q := 43) (ci := 9) (vs := [.int x1, .int v11]) (st := []) (S2 := [.int v13]) okX9_sayOfLaw imX9_sayOfLaw seX9_sayOfLaw rfl lkX9_69 (tX9_sayOfLaw eh2) rfl (ck_is e12) (by decide) rfl (Nat.le_of_ble_eq_true rfl) (Nat.le_of_ble_eq_true rfl) rfl dX9_isFitting_40 rfl rfl ?_
    refine V.istore_n (q := 44) (L' := [.ref a0, .int x1, .int x2, .int v13]) rfl dX9_isFitting_43 rfl (by decide) rfl rfl ?_
    refine V.aload_n (q := 45) rfl dX9_isFitting_44 rfl rfl ?_
    obtain ⟨b14, eb14, hf⟩ := bd_ex hf
    refine V.getR (q := 48) flX9_9 rfl eb14 dX9_isFitting_45 rfl ?_
    refine V.aload_n (q := 49) rfl dX9_isFitting_48 rfl rfl ?_
    obtain ⟨b15, eb15, hf⟩ := bd_ex hf
    refine V.getR (q := 52) flX9_9 rfl eb15 dX9_isFitting_49 rfl ?_
    obtain ⟨b16, eb16, hf⟩ := bd_ex hf
    refine V.getR (q := 55) flX9_15 rfl eb16 dX9_isFitting_52 rfl ?_
    obtain ⟨b17, eb17, hf⟩ := bd_ex hf
    refine V.getR (q := 58) flX9_35 rfl eb17 dX9_isFitting_55 rfl ?_
    refine V.iload_n (q := 59) rfl dX9_isFitting_58 rfl rfl ?_
    obtain ⟨v18, ev18, hf⟩ := bd_ex hf
    refine V.iald (q := 60) ev18 dX9_isFitting_59 rfl ?_
    refine V.iload_n (q := 61) rfl dX9_isFitting_60 rfl rfl ?_
    obtain ⟨_, e19, hf⟩ := bd_ex hf
    obtain ⟨v20, h3, eh3, hf⟩ := bd2_ex hf
    refine V.callV (q := 64) (ci := 5) (vs := [.int v18, .int v13]) (st := []) (S2 := [.int v20]) okX5_printBy imX5_printBy seX5_printBy rfl lkX9_72 (tX5_printBy eh3) rfl (ck_is e19) (by decide) rfl (Nat.le_of_ble_eq_true rfl) (Nat.le_of_ble_eq_true rfl) rfl dX9_isFitting_61 rfl rfl ?_
    refine V.aload_n (q := 65) rfl dX9_isFitting_64 rfl rfl ?_
    obtain ⟨b21, eb21, hf⟩ := bd_ex hf
    refine V.getR (q := 68) flX9_9 rfl eb21 dX9_isFitting_65 rfl ?_
    obtain ⟨b22, eb22, hf⟩ := bd_ex hf
    refine V.getR (q := 71) flX9_15 rfl eb22 dX9_isFitting_68 rfl ?_
    obtain ⟨b23, eb23, hf⟩ := bd_ex hf
    refine V.getR (q := 74) flX9_38 rfl eb23 dX9_isFitting_71 rfl ?_
    refine V.iload_n (q := 75) rfl dX9_isFitting_74 rfl rfl ?_
    obtain ⟨v24, ev24, hf⟩ := bd_ex hf
    refine V.iald (q := 76) ev24 dX9_isFitting_75 rfl ?_
    refine V.icmp_eq (q := 79) (tgt := 81) dX9_isFitting_76 rfl (by decide) (fun c => ?_) (fun c => ?_)
    · rw [if_pos c] at hf
      obtain ⟨v25, ev25, hf⟩ := bd_ex hf
      refine V.iinc (q := 84) (v := v25) (L' := [.ref a0, .int x1, .int v25, .int v13]) dX9_isFitting_81 rfl rfl (Option.some.inj ev25) (by decide) rfl rfl ?_
      refine V.goto (q := 2) dX9_isFitting_84 (by decide) ?_
      refine V.forget (L' := [.ref a0, .int x1, .int v25, Jk]) ⟨Or.inr rfl, Or.inr rfl, Or.inr rfl, Or.inl rfl, trivial⟩ ?_
      exact hk2 _ _ _ _ hf
    · rw [if_neg c] at hf
      refine V.iconst (q := 80) (v := 0) (by decide) dX9_isFitting_79 rfl ?_
      obtain ⟨rfl, rfl⟩ := ret_inj hf
      exact V.ret (r := some (.int 0)) (Or.inl rfl) dX9_isFitting_80
def fX9_isFitting_2  : Nat → MH → Nat → Int32 → Int32 → Option (Int32 × MH)
  | 0 => fun _ _ _ _ => none
  | n + 1 => bX9_isFitting_2  (fX9_isFitting_2  n)
theorem tlX9_isFitting_2 {r : Int32} {h' : MH}   : ∀ (n : Nat) (h : MH) (a0 : Nat) (x1 : Int32) (x2 : Int32), fX9_isFitting_2  n h a0 x1 x2 = some (r, h') → V TT mX9_isFitting 2 (some (.int r)) h' h 2 [.ref a0, .int x1, .int x2, Jk] [] := by
  intro n
  induction n with
  | zero => intro h a0 x1 x2 hf; exact nomatch (show (none : Option (Int32 × MH)) = some (r, h') from hf)
  | succ n ih => intro h a0 x1 x2 hf; exact tX9_isFitting_2  (fX9_isFitting_2  n) ih hf
def fX9_isFitting (h : MH) (a0 : Nat) (x1 : Int32) : Option (Int32 × MH) := fX9_isFitting_2 FU h a0 x1 0
set_option maxRecDepth 20000 in
theorem tX9_isFitting {r : Int32} {h' : MH} {h : MH} {a0 : Nat} {x1 : Int32} (hf : fX9_isFitting h a0 x1 = some (r, h')) : VM mX9_isFitting 2 (some (.int r)) h' h [.ref a0, .int x1] := by
  show V TT mX9_isFitting 2 _ h' h 0 [.ref a0, .int x1, Jk, Jk] []
  unfold fX9_isFitting at hf
  refine V.iconst (q := 1) (v := 0) (by decide) dX9_isFitting_0 rfl ?_
  refine V.istore_n (q := 2) (L' := [.ref a0, .int x1, .int 0, Jk]) rfl dX9_isFitting_1 rfl (by decide) rfl rfl ?_
  exact tlX9_isFitting_2  FU _ _ _ _ hf
def fX9_lawCount (h : MH) (a0 : Nat) : Option (Int32 × MH) := bd (gR h a0 9 0) fun b1 => bd (gR h b1 5 1) fun b2 => bd (gI h b2 7 13) fun v3 => some ((3 + (6 * v3)), h)
set_option maxRecDepth 20000 in
theorem tX9_lawCount {r : Int32} {h' : MH} {h : MH} {a0 : Nat} (hf : fX9_lawCount h a0 = some (r, h')) : VM mX9_lawCount 0 (some (.int r)) h' h [.ref a0] := by
  show V TT mX9_lawCount 0 _ h' h 0 [.ref a0] []
  unfold fX9_lawCount at hf
  refine V.iconst (q := 1) (v := 3) (by decide) dX9_lawCount_0 rfl ?_
  refine V.bipush (q := 3) (v := 6) (by decide) dX9_lawCount_1 rfl ?_
  refine V.aload_n (q := 4) rfl dX9_lawCount_3 rfl rfl ?_
  obtain ⟨b1, eb1, hf⟩ := bd_ex hf
  refine V.getR (q := 7) flX9_9 rfl eb1 dX9_lawCount_4 rfl ?_
  obtain ⟨b2, eb2, hf⟩ := bd_ex hf
  refine V.getR (q := 10) flX9_15 rfl eb2 dX9_lawCount_7 rfl ?_
  obtain ⟨v3, ev3, hf⟩ := bd_ex hf
  refine V.getI (q := 13) flX9_52 rfl ev3 dX9_lawCount_10 rfl ?_
  refine V.imul (q := 14) dX9_lawCount_13 rfl ?_
  refine V.iadd (q := 15) dX9_lawCount_14 rfl ?_
  obtain ⟨rfl, rfl⟩ := ret_inj hf
  exact V.ret (r := some (.int (3 + (6 * v3)))) trivial dX9_lawCount_15
def bX9_fittingLaws_4 (k4 : MH → Nat → Int64 → Int32 → Option (Int64 × MH)) (h : MH) (a0 : Nat) (y1 : Int64) (x3 : Int32) : Option (Int64 × MH) := bd (ck h a0 9) fun _ => bd2 (fX9_lawCount h a0 ) fun v2 h1 => if v2 ≤ x3 then (some (y1, h1)) else (bd (ck h1 a0 9) fun _ => bd2 (fX9_isFitting h1 a0 x3) fun v4 h2 => if v4 = 0 then (bd (some (x3 + 1)) fun v5 => k4 h2 a0 y1 v5) else (bd (some (y1 ||| (1 <<< (Int32.toInt64 x3 &&& 63)))) fun w5 => bd (some (x3 + 1)) fun v6 => k4 h2 a0 w5 v6))
set_option maxRecDepth 20000 in
theorem tX9_fittingLaws_4 {r : Int64} {h' : MH} (k4 : MH → Nat → Int64 → Int32 → Option (Int64 × MH)) (hk4 : ∀ (h : MH) (a0 : Nat) (y1 : Int64) (x3 : Int32), k4 h a0 y1 x3 = some (r, h') → V TT mX9_fittingLaws 3 (some (.long r)) h' h 4 [.ref a0, .long y1, Jk, .int x3] [])  {h : MH} {a0 : Nat} {y1 : Int64} {x3 : Int32} (hf : bX9_fittingLaws_4 k4 h a0 y1 x3 = some (r, h')) : V TT mX9_fittingLaws 3 (some (.long r)) h' h 4 [.ref a0, .long y1, Jk, .int x3] [] := by
  unfold bX9_fittingLaws_4 at hf
  refine V.iload_n (q := 5) rfl dX9_fittingLaws_4 rfl rfl ?_
  refine V.aload_n (q := 6) rfl dX9_fittingLaws_5 rfl rfl ?_
  obtain ⟨_, e1, hf⟩ := bd_ex hf
  obtain ⟨v2, h1, eh1, hf⟩ := bd2_ex hf
  refine V.callV (q := 9) (ci := 9) (vs := []) (st := [.int x3]) (S2 := [.int v2, .int x3]) okX9_lawCount imX9_lawCount seX9_lawCount rfl lkX9_75 (tX9_lawCount eh1) rfl (ck_is e1) (by decide) rfl (Nat.le_of_ble_eq_true rfl) (Nat.le_of_ble_eq_true rfl) rfl dX9_fittingLaws_6 rfl rfl ?_
  refine V.icmp_ge (q := 12) (tgt := 32) dX9_fittingLaws_9 rfl (by decide) (fun c => ?_) (fun c => ?_)
  · rw [if_pos c] at hf
    refine V.lload_n (q := 33) rfl dX9_fittingLaws_32 rfl rfl ?_
    obtain ⟨rfl, rfl⟩ := ret_inj hf
    exact V.ret (r := some (.long y1)) trivial dX9_fittingLaws_33
  · rw [if_neg c] at hf
    refine V.aload_n (q := 13) rfl dX9_fittingLaws_12 rfl rfl ?_
    refine V.iload_n (q := 14) rfl dX9_fittingLaws_13 rfl rfl ?_
    obtain ⟨_, e3, hf⟩ := bd_ex hf
    obtain ⟨v4, h2, eh2, hf⟩ := bd2_ex hf
    refine V.callV (q := 17) (ci := 9) (vs := [.int x3]) (st := []) (S2 := [.int v4]) okX9_isFitting imX9_isFitting seX9_isFitting rfl lkX9_79 (tX9_isFitting eh2) rfl (ck_is e3) (by decide) rfl (Nat.le_of_ble_eq_true rfl) (Nat.le_of_ble_eq_true rfl) rfl dX9_fittingLaws_14 rfl rfl ?_
    refine V.if_eq (q := 20) (tgt := 26) dX9_fittingLaws_17 rfl (by decide) (fun c => ?_) (fun c => ?_)
    · rw [if_pos c] at hf
      obtain ⟨v5, ev5, hf⟩ := bd_ex hf
      refine V.iinc (q := 29) (v := v5) (L' := [.ref a0, .long y1, Jk, .int v5]) dX9_fittingLaws_26 rfl rfl (Option.some.inj ev5) (by decide) rfl rfl ?_
      refine V.goto (q := 4) dX9_fittingLaws_29 (by decide) ?_
      exact hk4 _ _ _ _ hf
    · rw [if_neg c] at hf
      refine V.lload_n (q := 21) rfl dX9_fittingLaws_20 rfl rfl ?_
      refine V.lconst (q := 22) (v := 1) (by decide) dX9_fittingLaws_21 rfl ?_
      refine V.iload_n (q := 23) rfl dX9_fittingLaws_22 rfl rfl ?_
      refine V.lshl (q := 24) dX9_fittingLaws_23 rfl ?_
      refine V.lor (q := 25) dX9_fittingLaws_24 rfl ?_
      obtain ⟨w5, ew5, hf⟩ := bd_ex hf
      refine V.topL (Option.some.inj ew5) ?_
      refine V.lstore_n (q := 26) (L' := [.ref a0, .long w5, Jk, .int x3]) rfl dX9_fittingLaws_25 rfl (by decide) rfl rfl ?_
      obtain ⟨v6, ev6, hf⟩ := bd_ex hf
      refine V.iinc (q := 29) (v := v6) (L' := [.ref a0, .long w5, Jk, .int v6]) dX9_fittingLaws_26 rfl rfl (Option.some.inj ev6) (by decide) rfl rfl ?_
      refine V.goto (q := 4) dX9_fittingLaws_29 (by decide) ?_
      exact hk4 _ _ _ _ hf
def fX9_fittingLaws_4  : Nat → MH → Nat → Int64 → Int32 → Option (Int64 × MH)
  | 0 => fun _ _ _ _ => none
  | n + 1 => bX9_fittingLaws_4  (fX9_fittingLaws_4  n)
theorem tlX9_fittingLaws_4 {r : Int64} {h' : MH}   : ∀ (n : Nat) (h : MH) (a0 : Nat) (y1 : Int64) (x3 : Int32), fX9_fittingLaws_4  n h a0 y1 x3 = some (r, h') → V TT mX9_fittingLaws 3 (some (.long r)) h' h 4 [.ref a0, .long y1, Jk, .int x3] [] := by
  intro n
  induction n with
  | zero => intro h a0 y1 x3 hf; exact nomatch (show (none : Option (Int64 × MH)) = some (r, h') from hf)
  | succ n ih => intro h a0 y1 x3 hf; exact tX9_fittingLaws_4  (fX9_fittingLaws_4  n) ih hf
def fX9_fittingLaws (h : MH) (a0 : Nat) : Option (Int64 × MH) := fX9_fittingLaws_4 FU h a0 0 0
set_option maxRecDepth 20000 in
theorem tX9_fittingLaws {r : Int64} {h' : MH} {h : MH} {a0 : Nat} (hf : fX9_fittingLaws h a0 = some (r, h')) : VM mX9_fittingLaws 3 (some (.long r)) h' h [.ref a0] := by
  show V TT mX9_fittingLaws 3 _ h' h 0 [.ref a0, Jk, Jk, Jk] []
  unfold fX9_fittingLaws at hf
  refine V.lconst (q := 1) (v := 0) (by decide) dX9_fittingLaws_0 rfl ?_
  refine V.lstore_n (q := 2) (L' := [.ref a0, .long 0, Jk, Jk]) rfl dX9_fittingLaws_1 rfl (by decide) rfl rfl ?_
  refine V.iconst (q := 3) (v := 0) (by decide) dX9_fittingLaws_2 rfl ?_
  refine V.istore_n (q := 4) (L' := [.ref a0, .long 0, Jk, .int 0]) rfl dX9_fittingLaws_3 rfl (by decide) rfl rfl ?_
  exact tlX9_fittingLaws_4  FU _ _ _ _ hf
def bX9_lawsThatSay_6 (k6 : MH → Nat → Int64 → Int32 → Int32 → Int32 → Int32 → Option (Int32 × MH)) (h : MH) (a0 : Nat) (y1 : Int64) (x3 : Int32) (x4 : Int32) (x5 : Int32) (x6 : Int32) : Option (Int32 × MH) := bd (ck h a0 9) fun _ => bd2 (fX9_lawCount h a0 ) fun v2 h1 => if v2 ≤ x6 then (some (x5, h1)) else (if (lg_cmp ((y1 >>> (Int32.toInt64 x6 &&& 63)) &&& 1) 1) = 0 then (bd (gR h1 a0 9 0) fun b3 => bd (gR h1 b3 5 0) fun b4 => bd (ck h1 b4 4) fun _ => bd2 (fX4_marksOf h1 b4 x3) fun v6 h2 => bd (ck h2 a0 9) fun _ => bd2 (fX9_sayOfLaw h2 a0 x6 v6) fun v8 h3 => if v8 = x4 then (bd (some (x5 + 1)) fun v9 => bd (some (x6 + 1)) fun v10 => k6 h3 a0 y1 x3 x4 v9 v10) else (bd (some (x6 + 1)) fun v9 => k6 h3 a0 y1 x3 x4 x5 v9)) else (bd (some (x6 + 1)) fun v3 => k6 h1 a0 y1 x3 x4 x5 v3))
set_option maxRecDepth 20000 in
theorem tX9_lawsThatSay_6 {r : Int32} {h' : MH} (k6 : MH → Nat → Int64 → Int32 → Int32 → Int32 → Int32 → Option (Int32 × MH)) (hk6 : ∀ (h : MH) (a0 : Nat) (y1 : Int64) (x3 : Int32) (x4 : Int32) (x5 : Int32) (x6 : Int32), k6 h a0 y1 x3 x4 x5 x6 = some (r, h') → V TT mX9_lawsThatSay 2 (some (.int r)) h' h 6 [.ref a0, .long y1, Jk, .int x3, .int x4, .int x5, .int x6] [])  {h : MH} {a0 : Nat} {y1 : Int64} {x3 : Int32} {x4 : Int32} {x5 : Int32} {x6 : Int32} (hf : bX9_lawsThatSay_6 k6 h a0 y1 x3 x4 x5 x6 = some (r, h')) : V TT mX9_lawsThatSay 2 (some (.int r)) h' h 6 [.ref a0, .long y1, Jk, .int x3, .int x4, .int x5, .int x6] [] := by
  unfold bX9_lawsThatSay_6 at hf
  refine V.iload (q := 8) dX9_lawsThatSay_6 rfl rfl ?_
  refine V.aload_n (q := 9) rfl dX9_lawsThatSay_8 rfl rfl ?_
  obtain ⟨_, e1, hf⟩ := bd_ex hf
  obtain ⟨v2, h1, eh1, hf⟩ := bd2_ex hf
  refine V.callV (q := 12) (ci := 9) (vs := []) (st := [.int x6]) (S2 := [.int v2, .int x6]) okX9_lawCount imX9_lawCount seX9_lawCount rfl lkX9_75 (tX9_lawCount eh1) rfl (ck_is e1) (by decide) rfl (Nat.le_of_ble_eq_true rfl) (Nat.le_of_ble_eq_true rfl) rfl dX9_lawsThatSay_9 rfl rfl ?_
  refine V.icmp_ge (q := 15) (tgt := 57) dX9_lawsThatSay_12 rfl (by decide) (fun c => ?_) (fun c => ?_)
  · rw [if_pos c] at hf
    refine V.iload (q := 59) dX9_lawsThatSay_57 rfl rfl ?_
    obtain ⟨rfl, rfl⟩ := ret_inj hf
    exact V.ret (r := some (.int x5)) trivial dX9_lawsThatSay_59
  · rw [if_neg c] at hf
    refine V.lload_n (q := 16) rfl dX9_lawsThatSay_15 rfl rfl ?_
    refine V.iload (q := 18) dX9_lawsThatSay_16 rfl rfl ?_
    refine V.lshr (q := 19) dX9_lawsThatSay_18 rfl ?_
    refine V.lconst (q := 20) (v := 1) (by decide) dX9_lawsThatSay_19 rfl ?_
    refine V.land (q := 21) dX9_lawsThatSay_20 rfl ?_
    refine V.lconst (q := 22) (v := 1) (by decide) dX9_lawsThatSay_21 rfl ?_
    refine V.lcmp (q := 23) dX9_lawsThatSay_22 rfl ?_
    refine V.if_ne (q := 26) (tgt := 51) dX9_lawsThatSay_23 rfl (by decide) (fun c => ?_) (fun c => ?_)
    · rw [if_neg c] at hf
      obtain ⟨v3, ev3, hf⟩ := bd_ex hf
      refine V.iinc (q := 54) (v := v3) (L' := [.ref a0, .long y1, Jk, .int x3, .int x4, .int x5, .int v3]) dX9_lawsThatSay_51 rfl rfl (Option.some.inj ev3) (by decide) rfl rfl ?_
      refine V.goto (q := 6) dX9_lawsThatSay_54 (by decide) ?_
      exact hk6 _ _ _ _ _ _ _ hf
    · rw [if_pos c] at hf
      refine V.aload_n (q := 27) rfl dX9_lawsThatSay_26 rfl rfl ?_
      refine V.iload (q := 29) dX9_lawsThatSay_27 rfl rfl ?_
      refine V.aload_n (q := 30) rfl dX9_lawsThatSay_29 rfl rfl ?_
      obtain ⟨b3, eb3, hf⟩ := bd_ex hf
      refine V.getR (q := 33) flX9_9 rfl eb3 dX9_lawsThatSay_30 rfl ?_
      obtain ⟨b4, eb4, hf⟩ := bd_ex hf
      refine V.getR (q := 36) flX9_59 rfl eb4 dX9_lawsThatSay_33 rfl ?_
      refine V.iload_n (q := 37) rfl dX9_lawsThatSay_36 rfl rfl ?_
      obtain ⟨_, e5, hf⟩ := bd_ex hf
      obtain ⟨v6, h2, eh2, hf⟩ := bd2_ex hf
      refine V.callV (q := 40) (ci := 4) (vs := [.int x3]) (st := [.int x6, .ref a0]) (S2 := [.int v6, .int x6, .ref a0]) okX4_marksOf imX4_marksOf seX4_marksOf rfl lkX9_63 (tX4_marksOf eh2) rfl (ck_is e5) (by decide) rfl (Nat.le_of_ble_eq_true rfl) (Nat.le_of_ble_eq_true rfl) rfl dX9_lawsThatSay_37 rfl rfl ?_
      obtain ⟨_, e7, hf⟩ := bd_ex hf
      obtain ⟨v8, h3, eh3, hf⟩ := bd2_ex hf
      refine V.callV (q := 43) (ci := 9) (vs := [.int x6, .int v6]) (st := []) (S2 := [.int v8]) okX9_sayOfLaw imX9_sayOfLaw seX9_sayOfLaw rfl lkX9_69 (tX9_sayOfLaw eh3) rfl (ck_is e7) (by decide) rfl (Nat.le_of_ble_eq_true rfl) (Nat.le_of_ble_eq_true rfl) rfl dX9_lawsThatSay_40 rfl rfl ?_
      refine V.iload (q := 45) dX9_lawsThatSay_43 rfl rfl ?_
      refine V.icmp_ne (q := 48) (tgt := 51) dX9_lawsThatSay_45 rfl (by decide) (fun c => ?_) (fun c => ?_)
      · rw [if_neg c] at hf
        obtain ⟨v9, ev9, hf⟩ := bd_ex hf
        refine V.iinc (q := 54) (v := v9) (L' := [.ref a0, .long y1, Jk, .int x3, .int x4, .int x5, .int v9]) dX9_lawsThatSay_51 rfl rfl (Option.some.inj ev9) (by decide) rfl rfl ?_
        refine V.goto (q := 6) dX9_lawsThatSay_54 (by decide) ?_
        exact hk6 _ _ _ _ _ _ _ hf
      · rw [if_pos c] at hf
        obtain ⟨v9, ev9, hf⟩ := bd_ex hf
        refine V.iinc (q := 51) (v := v9) (L' := [.ref a0, .long y1, Jk, .int x3, .int x4, .int v9, .int x6]) dX9_lawsThatSay_48 rfl rfl (Option.some.inj ev9) (by decide) rfl rfl ?_
        obtain ⟨v10, ev10, hf⟩ := bd_ex hf
        refine V.iinc (q := 54) (v := v10) (L' := [.ref a0, .long y1, Jk, .int x3, .int x4, .int v9, .int v10]) dX9_lawsThatSay_51 rfl rfl (Option.some.inj ev10) (by decide) rfl rfl ?_
        refine V.goto (q := 6) dX9_lawsThatSay_54 (by decide) ?_
        exact hk6 _ _ _ _ _ _ _ hf
def fX9_lawsThatSay_6  : Nat → MH → Nat → Int64 → Int32 → Int32 → Int32 → Int32 → Option (Int32 × MH)
  | 0 => fun _ _ _ _ _ _ _ => none
  | n + 1 => bX9_lawsThatSay_6  (fX9_lawsThatSay_6  n)
theorem tlX9_lawsThatSay_6 {r : Int32} {h' : MH}   : ∀ (n : Nat) (h : MH) (a0 : Nat) (y1 : Int64) (x3 : Int32) (x4 : Int32) (x5 : Int32) (x6 : Int32), fX9_lawsThatSay_6  n h a0 y1 x3 x4 x5 x6 = some (r, h') → V TT mX9_lawsThatSay 2 (some (.int r)) h' h 6 [.ref a0, .long y1, Jk, .int x3, .int x4, .int x5, .int x6] [] := by
  intro n
  induction n with
  | zero => intro h a0 y1 x3 x4 x5 x6 hf; exact nomatch (show (none : Option (Int32 × MH)) = some (r, h') from hf)
  | succ n ih => intro h a0 y1 x3 x4 x5 x6 hf; exact tX9_lawsThatSay_6  (fX9_lawsThatSay_6  n) ih hf
def fX9_lawsThatSay (h : MH) (a0 : Nat) (y1 : Int64) (x3 : Int32) (x4 : Int32) : Option (Int32 × MH) := fX9_lawsThatSay_6 FU h a0 y1 x3 x4 0 0
set_option maxRecDepth 20000 in
theorem tX9_lawsThatSay {r : Int32} {h' : MH} {h : MH} {a0 : Nat} {y1 : Int64} {x3 : Int32} {x4 : Int32} (hf : fX9_lawsThatSay h a0 y1 x3 x4 = some (r, h')) : VM mX9_lawsThatSay 2 (some (.int r)) h' h [.ref a0, .long y1, .int x3, .int x4] := by
  show V TT mX9_lawsThatSay 2 _ h' h 0 [.ref a0, .long y1, Jk, .int x3, .int x4, Jk, Jk] []
  unfold fX9_lawsThatSay at hf
  refine V.iconst (q := 1) (v := 0) (by decide) dX9_lawsThatSay_0 rfl ?_
  refine V.istore (q := 3) (L' := [.ref a0, .long y1, Jk, .int x3, .int x4, .int 0, Jk]) dX9_lawsThatSay_1 rfl (by decide) rfl rfl ?_
  refine V.iconst (q := 4) (v := 0) (by decide) dX9_lawsThatSay_3 rfl ?_
  refine V.istore (q := 6) (L' := [.ref a0, .long y1, Jk, .int x3, .int x4, .int 0, .int 0]) dX9_lawsThatSay_4 rfl (by decide) rfl rfl ?_
  exact tlX9_lawsThatSay_6  FU _ _ _ _ _ _ _ hf
