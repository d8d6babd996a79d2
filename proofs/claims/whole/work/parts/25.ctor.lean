theorem clX6_11 : Cond.classLink RX6 11 "[[I" ∈ TB := mT2 118 rfl rfl
def fX6_init (h : MH) (a0 : Nat) : Option (MH) := bd2 (nO3 h 16 31) fun b1 h1 => bd (pR h1 a0 6 0 b1) fun h2 => bd2 (nO3 h2 3 31) fun b2 h3 => bd (pR h3 a0 6 1 b2) fun h4 => some h4
set_option maxRecDepth 20000 in
theorem tX6_init {h' : MH} {h : MH} {a0 : Nat} (hf : fX6_init h a0 = some h') : VM mX6_init 1 none h' h [.ref a0] := by
  show V TT mX6_init 1 _ h' h 0 [.ref a0] []
  unfold fX6_init at hf
  refine V.aload_n (q := 1) rfl dX6_init_0 rfl rfl ?_
  refine V.objInit (q := 4) oiX6_1 (by decide) (Nat.le_of_ble_eq_true rfl) dX6_init_1 rfl ?_
  refine V.aload_n (q := 5) rfl dX6_init_4 rfl rfl ?_
  refine V.bipush (q := 7) (v := 16) (by decide) dX6_init_5 rfl ?_
  refine V.bipush (q := 9) (v := 31) (by decide) dX6_init_7 rfl ?_
  obtain ⟨b1, h1, eh1, hf⟩ := bd2_ex hf
  refine V.mna (q := 13) clX6_11 eh1 dX6_init_9 rfl ?_
  obtain ⟨h2, eh2, hf⟩ := bd_ex hf
  refine V.putR (q := 16) (fqX6_13 rfl rfl) rfl eh2 dX6_init_13 rfl ?_
  refine V.aload_n (q := 17) rfl dX6_init_16 rfl rfl ?_
  refine V.iconst (q := 18) (v := 3) (by decide) dX6_init_17 rfl ?_
  refine V.bipush (q := 20) (v := 31) (by decide) dX6_init_18 rfl ?_
  obtain ⟨b2, h3, eh3, hf⟩ := bd2_ex hf
  refine V.mna (q := 24) clX6_11 eh3 dX6_init_20 rfl ?_
  obtain ⟨h4, eh4, hf⟩ := bd_ex hf
  refine V.putR (q := 27) (fqX6_16 rfl rfl) rfl eh4 dX6_init_24 rfl ?_
  cases hf
  exact V.ret (r := none) trivial dX6_init_27
def fX11_init (h : MH) (a0 : Nat) : Option (MH) := bd2 (nO h 10) fun b1 h1 => bd (fX10_init h1 b1 ) fun h2 => bd (pR h2 a0 11 0 b1) fun h3 => bd2 (nO h3 8) fun b2 h4 => bd (gR h4 a0 11 0) fun b3 => bd (fX8_init h4 b2 b3) fun h5 => bd (pR h5 a0 11 1 b2) fun h6 => bd2 (nO h6 5) fun b4 h7 => bd (fX5_init h7 b4 ) fun h8 => bd (pR h8 a0 11 2 b4) fun h9 => bd2 (nO h9 6) fun b5 h10 => bd (fX6_init h10 b5 ) fun h11 => bd (pR h11 a0 11 3 b5) fun h12 => bd2 (nO h12 3) fun b6 h13 => bd (gR h13 a0 11 2) fun b7 => bd (fX3_init h13 b6 b7) fun h14 => bd (pR h14 a0 11 4 b6) fun h15 => bd2 (nO h15 9) fun b8 h16 => bd (gR h16 a0 11 2) fun b9 => bd (fX9_init h16 b8 b9) fun h17 => bd (pR h17 a0 11 5 b8) fun h18 => bd2 (nO h18 0) fun b10 h19 => bd (gR h19 a0 11 2) fun b11 => bd (fX0_init h19 b10 b11) fun h20 => bd (pR h20 a0 11 6 b10) fun h21 => bd2 (nO h21 2) fun b12 h22 => bd (gR h22 a0 11 2) fun b13 => bd (fX2_init h22 b12 b13) fun h23 => bd (pR h23 a0 11 7 b12) fun h24 => bd2 (nO h24 1) fun b14 h25 => bd (gR h25 a0 11 2) fun b15 => bd (fX1_init h25 b14 b15) fun h26 => bd (pR h26 a0 11 8 b14) fun h27 => bd (pB h27 a0 11 9 0) fun h28 => bd (pI h28 a0 11 10 0) fun h29 => bd (pI h29 a0 11 11 0) fun h30 => bd (pI h30 a0 11 12 (-1)) fun h31 => some h31
set_option maxRecDepth 20000 in
theorem tX11_init {h' : MH} {h : MH} {a0 : Nat} (hf : fX11_init h a0 = some h') : VM mX11_init 6 none h' h [.ref a0] := by
  show V TT mX11_init 6 _ h' h 0 [.ref a0] []
  unfold fX11_init at hf
  refine V.aload_n (q := 1) rfl dX11_init_0 rfl rfl ?_
  refine V.objInit (q := 4) oiX11_1 (by decide) (Nat.le_of_ble_eq_true rfl) dX11_init_1 rfl ?_
  refine V.aload_n (q := 5) rfl dX11_init_4 rfl rfl ?_
  obtain ⟨b1, h1, eh1, hf⟩ := bd2_ex hf
  obtain ⟨rfl, rfl⟩ := ret_inj eh1
  refine V.new (q := 8) nlX11_7 dX11_init_5 rfl ?_
  generalize hqh1 : nC h 10 0 = h1 at hf ⊢
  generalize hph1 : h.2.2.2.length = b1 at hf ⊢
  refine V.dupR (q := 9) dX11_init_8 rfl ?_
  obtain ⟨h2, eh2, hf⟩ := bd_ex hf
  refine V.callIN (q := 12) (vs := []) (st := [.ref b1, .ref a0]) (S2 := [.ref b1, .ref a0]) okX10_init imX10_init ⟨rfl, rfl⟩ lnX11_9 (tX10_init eh2) rfl (by decide) rfl (Nat.le_of_ble_eq_true rfl) (Nat.le_of_ble_eq_true rfl) rfl dX11_init_9 rfl rfl ?_
  obtain ⟨h3, eh3, hf⟩ := bd_ex hf
  refine V.putR (q := 15) (fqX11_10 rfl rfl) rfl eh3 dX11_init_12 rfl ?_
  refine V.aload_n (q := 16) rfl dX11_init_15 rfl rfl ?_
  obtain ⟨b2, h4, eh4, hf⟩ := bd2_ex hf
  obtain ⟨rfl, rfl⟩ := ret_inj eh4
  refine V.new (q := 19) nlX11_16 dX11_init_16 rfl ?_
  generalize hqh4 : nC h3 8 0 = h4 at hf ⊢
  generalize hph4 : h3.2.2.2.length = b2 at hf ⊢
  refine V.dupR (q := 20) dX11_init_19 rfl ?_
  refine V.aload_n (q := 21) rfl dX11_init_20 rfl rfl ?_
  obtain ⟨b3, eb3, hf⟩ := bd_ex hf
  refine V.getR (q := 24) flX11_10 rfl eb3 dX11_init_21 rfl ?_
  obtain ⟨h5, eh5, hf⟩ := bd_ex hf
  refine V.callI (q := 27) (vs := [.ref b3]) (st := [.ref b2, .ref a0]) (S2 := [.ref b2, .ref a0]) okX8_init imX8_init ⟨rfl, rfl⟩ lkX11_18 (tX8_init eh5) rfl (by decide) rfl (Nat.le_of_ble_eq_true rfl) (Nat.le_of_ble_eq_true rfl) rfl dX11_init_24 rfl rfl ?_
  obtain ⟨h6, eh6, hf⟩ := bd_ex hf
  refine V.putR (q := 30) (fqX11_21 rfl rfl) rfl eh6 dX11_init_27 rfl ?_
  refine V.aload_n (q := 31) rfl dX11_init_30 rfl rfl ?_
  obtain ⟨b4, h7, eh7, hf⟩ := bd2_ex hf
  obtain ⟨rfl, rfl⟩ := ret_inj eh7
  refine V.new (q := 34) nlX11_25 dX11_init_31 rfl ?_
  generalize hqh7 : nC h6 5 0 = h7 at hf ⊢
  generalize hph7 : h6.2.2.2.length = b4 at hf ⊢
  refine V.dupR (q := 35) dX11_init_34 rfl ?_
  obtain ⟨h8, eh8, hf⟩ := bd_ex hf
  refine V.callIN (q := 38) (vs := []) (st := [.ref b4, .ref a0]) (S2 := [.ref b4, .ref a0]) okX5_init imX5_init ⟨rfl, rfl⟩ lnX11_27 (tX5_init eh8) rfl (by decide) rfl (Nat.le_of_ble_eq_true rfl) (Nat.le_of_ble_eq_true rfl) rfl dX11_init_35 rfl rfl ?_
  obtain ⟨h9, eh9, hf⟩ := bd_ex hf
  refine V.putR (q := 41) (fqX11_28 rfl rfl) rfl eh9 dX11_init_38 rfl ?_
  refine V.aload_n (q := 42) rfl dX11_init_41 rfl rfl ?_
  obtain ⟨b5, h10, eh10, hf⟩ := bd2_ex hf
  obtain ⟨rfl, rfl⟩ := ret_inj eh10
  refine V.new (q := 45) nlX11_32 dX11_init_42 rfl ?_
  generalize hqh10 : nC h9 6 0 = h10 at hf ⊢
  generalize hph10 : h9.2.2.2.length = b5 at hf ⊢
  refine V.dupR (q := 46) dX11_init_45 rfl ?_
  obtain ⟨h11, eh11, hf⟩ := bd_ex hf
  refine V.callIN (q := 49) (vs := []) (st := [.ref b5, .ref a0]) (S2 := [.ref b5, .ref a0]) okX6_init imX6_init ⟨rfl, rfl⟩ lnX11_34 (tX6_init eh11) rfl (by decide) rfl (Nat.le_of_ble_eq_true rfl) (Nat.le_of_ble_eq_true rfl) rfl dX11_init_46 rfl rfl ?_
  obtain ⟨h12, eh12, hf⟩ := bd_ex hf
  refine V.putR (q := 52) (fqX11_35 rfl rfl) rfl eh12 dX11_init_49 rfl ?_
  refine V.aload_n (q := 53) rfl dX11_init_52 rfl rfl ?_
  obtain ⟨b6, h13, eh13, hf⟩ := bd2_ex hf
  obtain ⟨rfl, rfl⟩ := ret_inj eh13
  refine V.new (q := 56) nlX11_39 dX11_init_53 rfl ?_
  generalize hqh13 : nC h12 3 0 = h13 at hf ⊢
  generalize hph13 : h12.2.2.2.length = b6 at hf ⊢
  refine V.dupR (q := 57) dX11_init_56 rfl ?_
  refine V.aload_n (q := 58) rfl dX11_init_57 rfl rfl ?_
  obtain ⟨b7, eb7, hf⟩ := bd_ex hf
  refine V.getR (q := 61) flX11_28 rfl eb7 dX11_init_58 rfl ?_
  obtain ⟨h14, eh14, hf⟩ := bd_ex hf
  refine V.callI (q := 64) (vs := [.ref b7]) (st := [.ref b6, .ref a0]) (S2 := [.ref b6, .ref a0]) okX3_init imX3_init ⟨rfl, rfl⟩ lkX11_41 (tX3_init eh14) rfl (by decide) rfl (Nat.le_of_ble_eq_true rfl) (Nat.le_of_ble_eq_true rfl) rfl dX11_init_61 rfl rfl ?_
  obtain ⟨h15, eh15, hf⟩ := bd_ex hf
  refine V.putR (q := 67) (fqX11_44 rfl rfl) rfl eh15 dX11_init_64 rfl ?_
  refine V.aload_n (q := 68) rfl dX11_init_67 rfl rfl ?_
  obtain ⟨b8, h16, eh16, hf⟩ := bd2_ex hf
  obtain ⟨rfl, rfl⟩ := ret_inj eh16
  refine V.new (q := 71) nlX11_48 dX11_init_68 rfl ?_
  generalize hqh16 : nC h15 9 0 = h16 at hf ⊢
  generalize hph16 : h15.2.2.2.length = b8 at hf ⊢
  refine V.dupR (q := 72) dX11_init_71 rfl ?_
  refine V.aload_n (q := 73) rfl dX11_init_72 rfl rfl ?_
  obtain ⟨b9, eb9, hf⟩ := bd_ex hf
  refine V.getR (q := 76) flX11_28 rfl eb9 dX11_init_73 rfl ?_
  obtain ⟨h17, eh17, hf⟩ := bd_ex hf
  refine V.callI (q := 79) (vs := [.ref b9]) (st := [.ref b8, .ref a0]) (S2 := [.ref b8, .ref a0]) okX9_init imX9_init ⟨rfl, rfl⟩ lkX11_50 (tX9_init eh17) rfl (by decide) rfl (Nat.le_of_ble_eq_true rfl) (Nat.le_of_ble_eq_true rfl) rfl dX11_init_76 rfl rfl ?_
  obtain ⟨h18, eh18, hf⟩ := bd_ex hf
  refine V.putR (q := 82) (fqX11_51 rfl rfl) rfl eh18 dX11_init_79 rfl ?_
  refine V.aload_n (q := 83) rfl dX11_init_82 rfl rfl ?_
  obtain ⟨b10, h19, eh19, hf⟩ := bd2_ex hf
  obtain ⟨rfl, rfl⟩ := ret_inj eh19
  refine V.new (q := 86) nlX11_55 dX11_init_83 rfl ?_
  generalize hqh19 : nC h18 0 0 = h19 at hf ⊢
  generalize hph19 : h18.2.2.2.length = b10 at hf ⊢
  refine V.dupR (q := 87) dX11_init_86 rfl ?_
  refine V.aload_n (q := 88) rfl dX11_init_87 rfl rfl ?_
  obtain ⟨b11, eb11, hf⟩ := bd_ex hf
  refine V.getR (q := 91) flX11_28 rfl eb11 dX11_init_88 rfl ?_
  obtain ⟨h20, eh20, hf⟩ := bd_ex hf
  refine V.callI (q := 94) (vs := [.ref b11]) (st := [.ref b10, .ref a0]) (S2 := [.ref b10, .ref a0]) okX0_init imX0_init ⟨rfl, rfl⟩ lkX11_57 (tX0_init eh20) rfl (by decide) rfl (Nat.le_of_ble_eq_true rfl) (Nat.le_of_ble_eq_true rfl) rfl dX11_init_91 rfl rfl ?_
  obtain ⟨h21, eh21, hf⟩ := bd_ex hf
  refine V.putR (q := 97) (fqX11_58 rfl rfl) rfl eh21 dX11_init_94 rfl ?_
  refine V.aload_n (q := 98) rfl dX11_init_97 rfl rfl ?_
  obtain ⟨b12, h22, eh22, hf⟩ := bd2_ex hf
  obtain ⟨rfl, rfl⟩ := ret_inj eh22
  refine V.new (q := 101) nlX11_62 dX11_init_98 rfl ?_
  generalize hqh22 : nC h21 2 0 = h22 at hf ⊢
  generalize hph22 : h21.2.2.2.length = b12 at hf ⊢
  refine V.dupR (q := 102) dX11_init_101 rfl ?_
  refine V.aload_n (q := 103) rfl dX11_init_102 rfl rfl ?_
  obtain ⟨b13, eb13, hf⟩ := bd_ex hf
  refine V.getR (q := 106) flX11_28 rfl eb13 dX11_init_103 rfl ?_
  obtain ⟨h23, eh23, hf⟩ := bd_ex hf
  refine V.callI (q := 109) (vs := [.ref b13]) (st := [.ref b12, .ref a0]) (S2 := [.ref b12, .ref a0]) okX2_init imX2_init ⟨rfl, rfl⟩ lkX11_64 (tX2_init eh23) rfl (by decide) rfl (Nat.le_of_ble_eq_true rfl) (Nat.le_of_ble_eq_true rfl) rfl dX11_init_106 rfl rfl ?_
  obtain ⟨h24, eh24, hf⟩ := bd_ex hf
  refine V.putR (q := 112) (fqX11_65 rfl rfl) rfl eh24 dX11_init_109 rfl ?_
  refine V.aload_n (q := 113) rfl dX11_init_112 rfl rfl ?_
  obtain ⟨b14, h25, eh25, hf⟩ := bd2_ex hf
  obtain ⟨rfl, rfl⟩ := ret_inj eh25
  refine V.new (q := 116) nlX11_69 dX11_init_113 rfl ?_
  generalize hqh25 : nC h24 1 0 = h25 at hf ⊢
  generalize hph25 : h24.2.2.2.length = b14 at hf ⊢
  refine V.dupR (q := 117) dX11_init_116 rfl ?_
  refine V.aload_n (q := 118) rfl dX11_init_117 rfl rfl ?_
  obtain ⟨b15, eb15, hf⟩ := bd_ex hf
  refine V.getR (q := 121) flX11_28 rfl eb15 dX11_init_118 rfl ?_
  obtain ⟨h26, eh26, hf⟩ := bd_ex hf
  refine V.callI (q := 124) (vs := [.ref b15]) (st := [.ref b14, .ref a0]) (S2 := [.ref b14, .ref a0]) okX1_init imX1_init ⟨rfl, rfl⟩ lkX11_71 (tX1_init eh26) rfl (by decide) rfl (Nat.le_of_ble_eq_true rfl) (Nat.le_of_ble_eq_true rfl) rfl dX11_init_121 rfl rfl ?_
  obtain ⟨h27, eh27, hf⟩ := bd_ex hf
  refine V.putR (q := 127) (fqX11_72 rfl rfl) rfl eh27 dX11_init_124 rfl ?_
  refine V.aload_n (q := 128) rfl dX11_init_127 rfl rfl ?_
  refine V.iconst (q := 129) (v := 0) (by decide) dX11_init_128 rfl ?_
  obtain ⟨h28, eh28, hf⟩ := bd_ex hf
  refine V.putB (q := 132) (fpX11_76 rfl) rfl eh28 dX11_init_129 rfl ?_
  refine V.aload_n (q := 133) rfl dX11_init_132 rfl rfl ?_
  refine V.iconst (q := 134) (v := 0) (by decide) dX11_init_133 rfl ?_
  obtain ⟨h29, eh29, hf⟩ := bd_ex hf
  refine V.putI (q := 137) (fpX11_80 rfl) rfl eh29 dX11_init_134 rfl ?_
  refine V.aload_n (q := 138) rfl dX11_init_137 rfl rfl ?_
  refine V.iconst (q := 139) (v := 0) (by decide) dX11_init_138 rfl ?_
  obtain ⟨h30, eh30, hf⟩ := bd_ex hf
  refine V.putI (q := 142) (fpX11_84 rfl) rfl eh30 dX11_init_139 rfl ?_
  refine V.aload_n (q := 143) rfl dX11_init_142 rfl rfl ?_
  refine V.iconst (q := 144) (v := (-1)) (by decide) dX11_init_143 rfl ?_
  obtain ⟨h31, eh31, hf⟩ := bd_ex hf
  refine V.putI (q := 147) (fpX11_87 rfl) rfl eh31 dX11_init_144 rfl ?_
  cases hf
  exact V.ret (r := none) trivial dX11_init_147
def bX11_led_4 (k4 : MH → Nat → Int32 → Int32 → Int32 → Option (Int32 × MH)) (h : MH) (a0 : Nat) (x1 : Int32) (x2 : Int32) (x3 : Int32) : Option (Int32 × MH) := bd (gR h a0 11 2) fun b1 => bd (gR h b1 5 1) fun b2 => bd (gI h b2 7 14) fun v3 => if v3 ≤ x3 then (none) else (bd (gR h a0 11 2) fun b4 => bd (gR h b4 5 0) fun b5 => bd (ck h b5 4) fun _ => bd2 (fX4_latestOn h b5 x3) fun v7 h1 => if v7 = 1 then (if x2 = x1 then (some (x3, h1)) else (bd (some (x2 + 1)) fun v8 => bd (some (x3 + 1)) fun v9 => k4 h1 a0 x1 v8 v9)) else (bd (some (x3 + 1)) fun v8 => k4 h1 a0 x1 x2 v8))
set_option maxRecDepth 20000 in
theorem tX11_led_4 {r : Int32} {h' : MH} (k4 : MH → Nat → Int32 → Int32 → Int32 → Option (Int32 × MH)) (hk4 : ∀ (h : MH) (a0 : Nat) (x1 : Int32) (x2 : Int32) (x3 : Int32), k4 h a0 x1 x2 x3 = some (r, h') → V TT mX11_led 1 (some (.int r)) h' h 4 [.ref a0, .int x1, .int x2, .int x3] [])  {h : MH} {a0 : Nat} {x1 : Int32} {x2 : Int32} {x3 : Int32} (hf : bX11_led_4 k4 h a0 x1 x2 x3 = some (r, h')) : V TT mX11_led 1 (some (.int r)) h' h 4 [.ref a0, .int x1, .int x2, .int x3] [] := by
  unfold bX11_led_4 at hf
  refine V.iload_n (q := 5) rfl dX11_led_4 rfl rfl ?_
  refine V.aload_n (q := 6) rfl dX11_led_5 rfl rfl ?_
  obtain ⟨b1, eb1, hf⟩ := bd_ex hf
  refine V.getR (q := 9) flX11_28 rfl eb1 dX11_led_6 rfl ?_
  obtain ⟨b2, eb2, hf⟩ := bd_ex hf
  refine V.getR (q := 12) flX11_118 rfl eb2 dX11_led_9 rfl ?_
  obtain ⟨v3, ev3, hf⟩ := bd_ex hf
  refine V.getI (q := 15) flX11_122 rfl ev3 dX11_led_12 rfl ?_
  refine V.icmp_ge (q := 18) (tgt := 49) dX11_led_15 rfl (by decide) (fun c => ?_) (fun c => ?_)
  · rw [if_pos c] at hf
    cases hf
  · rw [if_neg c] at hf
    refine V.aload_n (q := 19) rfl dX11_led_18 rfl rfl ?_
    obtain ⟨b4, eb4, hf⟩ := bd_ex hf
    refine V.getR (q := 22) flX11_28 rfl eb4 dX11_led_19 rfl ?_
    obtain ⟨b5, eb5, hf⟩ := bd_ex hf
    refine V.getR (q := 25) flX11_137 rfl eb5 dX11_led_22 rfl ?_
    refine V.iload_n (q := 26) rfl dX11_led_25 rfl rfl ?_
    obtain ⟨_, e6, hf⟩ := bd_ex hf
    obtain ⟨v7, h1, eh1, hf⟩ := bd2_ex hf
    refine V.callV (q := 29) (ci := 4) (vs := [.int x3]) (st := []) (S2 := [.int v7]) okX4_latestOn imX4_latestOn seX4_latestOn rfl lkX11_149 (tX4_latestOn eh1) rfl (ck_is e6) (by decide) rfl (Nat.le_of_ble_eq_true rfl) (Nat.le_of_ble_eq_true rfl) rfl dX11_led_26 rfl rfl ?_
    refine V.iconst (q := 30) (v := 1) (by decide) dX11_led_29 rfl ?_
    refine V.icmp_ne (q := 33) (tgt := 43) dX11_led_30 rfl (by decide) (fun c => ?_) (fun c => ?_)
    · rw [if_neg c] at hf
      obtain ⟨v8, ev8, hf⟩ := bd_ex hf
      refine V.iinc (q := 46) (v := v8) (L' := [.ref a0, .int x1, .int x2, .int v8]) dX11_led_43 rfl rfl (Option.some.inj ev8) (by decide) rfl rfl ?_
      refine V.goto (q := 4) dX11_led_46 (by decide) ?_
      exact hk4 _ _ _ _ _ hf
    · rw [if_pos c] at hf
      refine V.iload_n (q := 34) rfl dX11_led_33 rfl rfl ?_
      refine V.iload_n (q := 35) rfl dX11_led_34 rfl rfl ?_
      refine V.icmp_ne (q := 38) (tgt := 40) dX11_led_35 rfl (by decide) (fun c => ?_) (fun c => ?_)
      · rw [if_neg c] at hf
        obtain ⟨v8, ev8, hf⟩ := bd_ex hf
        refine V.iinc (q := 43) (v := v8) (L' := [.ref a0, .int x1, .int v8, .int x3]) dX11_led_40 rfl rfl (Option.some.inj ev8) (by decide) rfl rfl ?_
        obtain ⟨v9, ev9, hf⟩ := bd_ex hf
        refine V.iinc (q := 46) (v := v9) (L' := [.ref a0, .int x1, .int v8, .int v9]) dX11_led_43 rfl rfl (Option.some.inj ev9) (by decide) rfl rfl ?_
        refine V.goto (q := 4) dX11_led_46 (by decide) ?_
        exact hk4 _ _ _ _ _ hf
      · rw [if_pos c] at hf
        refine V.iload_n (q := 39) rfl dX11_led_38 rfl rfl ?_
        obtain ⟨rfl, rfl⟩ := ret_inj hf
        exact V.ret (r := some (.int x3)) trivial dX11_led_39
def fX11_led_4  : Nat → MH → Nat → Int32 → Int32 → Int32 → Option (Int32 × MH)
  | 0 => fun _ _ _ _ _ => none
  | n + 1 => bX11_led_4  (fX11_led_4  n)
theorem tlX11_led_4 {r : Int32} {h' : MH}   : ∀ (n : Nat) (h : MH) (a0 : Nat) (x1 : Int32) (x2 : Int32) (x3 : Int32), fX11_led_4  n h a0 x1 x2 x3 = some (r, h') → V TT mX11_led 1 (some (.int r)) h' h 4 [.ref a0, .int x1, .int x2, .int x3] [] := by
  intro n
  induction n with
  | zero => intro h a0 x1 x2 x3 hf; exact nomatch (show (none : Option (Int32 × MH)) = some (r, h') from hf)
  | succ n ih => intro h a0 x1 x2 x3 hf; exact tX11_led_4  (fX11_led_4  n) ih hf
def fX11_led (h : MH) (a0 : Nat) (x1 : Int32) : Option (Int32 × MH) := fX11_led_4 FU h a0 x1 0 0
set_option maxRecDepth 20000 in
theorem tX11_led {r : Int32} {h' : MH} {h : MH} {a0 : Nat} {x1 : Int32} (hf : fX11_led h a0 x1 = some (r, h')) : VM mX11_led 1 (some (.int r)) h' h [.ref a0, .int x1] := by
  show V TT mX11_led 1 _ h' h 0 [.ref a0, .int x1, Jk, Jk] []
  unfold fX11_led at hf
  refine V.iconst (q := 1) (v := 0) (by decide) dX11_led_0 rfl ?_
  refine V.istore_n (q := 2) (L' := [.ref a0, .int x1, .int 0, Jk]) rfl dX11_led_1 rfl (by decide) rfl rfl ?_
  refine V.iconst (q := 3) (v := 0) (by decide) dX11_led_2 rfl ?_
  refine V.istore_n (q := 4) (L' := [.ref a0, .int x1, .int 0, .int 0]) rfl dX11_led_3 rfl (by decide) rfl rfl ?_
  exact tlX11_led_4  FU _ _ _ _ _ hf
def bX11_ledx_4 (k4 : MH → Nat → Int32 → Int32 → Int32 → Option (MH)) (h : MH) (a0 : Nat) (x1 : Int32) (x2 : Int32) (x3 : Int32) : Option (MH) := bd (gR h a0 11 2) fun b1 => bd (gR h b1 5 1) fun b2 => bd (gI h b2 7 14) fun v3 => if v3 ≤ x3 then (some h) else (bd (gR h a0 11 2) fun b4 => bd (gR h b4 5 0) fun b5 => bd (ck h b5 4) fun _ => bd2 (fX4_latestOn h b5 x3) fun v7 h1 => if v7 = 1 then (if x2 = x1 then (none) else (bd (some (x2 + 1)) fun v8 => bd (some (x3 + 1)) fun v9 => k4 h1 a0 x1 v8 v9)) else (bd (some (x3 + 1)) fun v8 => k4 h1 a0 x1 x2 v8))
set_option maxRecDepth 20000 in
theorem tX11_ledx_4 {h' : MH} (k4 : MH → Nat → Int32 → Int32 → Int32 → Option (MH)) (hk4 : ∀ (h : MH) (a0 : Nat) (x1 : Int32) (x2 : Int32) (x3 : Int32), k4 h a0 x1 x2 x3 = some h' → V TT mX11_led 1 (some (.retAddr 49)) h' h 4 [.ref a0, .int x1, .int x2, .int x3] [])  {h : MH} {a0 : Nat} {x1 : Int32} {x2 : Int32} {x3 : Int32} (hf : bX11_ledx_4 k4 h a0 x1 x2 x3 = some h') : V TT mX11_led 1 (some (.retAddr 49)) h' h 4 [.ref a0, .int x1, .int x2, .int x3] [] := by
  unfold bX11_ledx_4 at hf
  refine V.iload_n (q := 5) rfl dX11_led_4 rfl rfl ?_
  refine V.aload_n (q := 6) rfl dX11_led_5 rfl rfl ?_
  obtain ⟨b1, eb1, hf⟩ := bd_ex hf
  refine V.getR (q := 9) flX11_28 rfl eb1 dX11_led_6 rfl ?_
  obtain ⟨b2, eb2, hf⟩ := bd_ex hf
  refine V.getR (q := 12) flX11_118 rfl eb2 dX11_led_9 rfl ?_
  obtain ⟨v3, ev3, hf⟩ := bd_ex hf
  refine V.getI (q := 15) flX11_122 rfl ev3 dX11_led_12 rfl ?_
  refine V.icmp_ge (q := 18) (tgt := 49) dX11_led_15 rfl (by decide) (fun c => ?_) (fun c => ?_)
  · rw [if_pos c] at hf
    cases hf
    exact V.exit
  · rw [if_neg c] at hf
    refine V.aload_n (q := 19) rfl dX11_led_18 rfl rfl ?_
    obtain ⟨b4, eb4, hf⟩ := bd_ex hf
    refine V.getR (q := 22) flX11_28 rfl eb4 dX11_led_19 rfl ?_
    obtain ⟨b5, eb5, hf⟩ := bd_ex hf
    refine V.getR (q := 25) flX11_137 rfl eb5 dX11_led_22 rfl ?_
    refine V.iload_n (q := 26) rfl dX11_led_25 rfl rfl ?_
    obtain ⟨_, e6, hf⟩ := bd_ex hf
    obtain ⟨v7, h1, eh1, hf⟩ := bd2_ex hf
    refine V.callV (q := 29) (ci := 4) (vs := [.int x3]) (st := []) (S2 := [.int v7]) okX4_latestOn imX4_latestOn seX4_latestOn rfl lkX11_149 (tX4_latestOn eh1) rfl (ck_is e6) (by decide) rfl (Nat.le_of_ble_eq_true rfl) (Nat.le_of_ble_eq_true rfl) rfl dX11_led_26 rfl rfl ?_
    refine V.iconst (q := 30) (v := 1) (by decide) dX11_led_29 rfl ?_
    refine V.icmp_ne (q := 33) (tgt := 43) dX11_led_30 rfl (by decide) (fun c => ?_) (fun c => ?_)
    · rw [if_neg c] at hf
      obtain ⟨v8, ev8, hf⟩ := bd_ex hf
      refine V.iinc (q := 46) (v := v8) (L' := [.ref a0, .int x1, .int x2, .int v8]) dX11_led_43 rfl rfl (Option.some.inj ev8) (by decide) rfl rfl ?_
      refine V.goto (q := 4) dX11_led_46 (by decide) ?_
      exact hk4 _ _ _ _ _ hf
    · rw [if_pos c] at hf
      refine V.iload_n (q := 34) rfl dX11_led_33 rfl rfl ?_
      refine V.iload_n (q := 35) rfl dX11_led_34 rfl rfl ?_
      refine V.icmp_ne (q := 38) (tgt := 40) dX11_led_35 rfl (by decide) (fun c => ?_) (fun c => ?_)
      · rw [if_neg c] at hf
        obtain ⟨v8, ev8, hf⟩ := bd_ex hf
        refine V.iinc (q := 43) (v := v8) (L' := [.ref a0, .int x1, .int v8, .int x3]) dX11_led_40 rfl rfl (Option.some.inj ev8) (by decide) rfl rfl ?_
        obtain ⟨v9, ev9, hf⟩ := bd_ex hf
        refine V.iinc (q := 46) (v := v9) (L' := [.ref a0, .int x1, .int v8, .int v9]) dX11_led_43 rfl rfl (Option.some.inj ev9) (by decide) rfl rfl ?_
        refine V.goto (q := 4) dX11_led_46 (by decide) ?_
        exact hk4 _ _ _ _ _ hf
      · rw [if_pos c] at hf
        refine V.iload_n (q := 39) rfl dX11_led_38 rfl rfl ?_
        cases hf
def fX11_ledx_4  : Nat → MH → Nat → Int32 → Int32 → Int32 → Option (MH)
  | 0 => fun _ _ _ _ _ => none
  | n + 1 => bX11_ledx_4  (fX11_ledx_4  n)
theorem tlX11_ledx_4 {h' : MH}   : ∀ (n : Nat) (h : MH) (a0 : Nat) (x1 : Int32) (x2 : Int32) (x3 : Int32), fX11_ledx_4  n h a0 x1 x2 x3 = some h' → V TT mX11_led 1 (some (.retAddr 49)) h' h 4 [.ref a0, .int x1, .int x2, .int x3] [] := by
  intro n
  induction n with
  | zero => intro h a0 x1 x2 x3 hf; exact nomatch (show (none : Option (MH)) = some h' from hf)
  | succ n ih => intro h a0 x1 x2 x3 hf; exact tX11_ledx_4  (fX11_ledx_4  n) ih hf
def fX11_ledx (h : MH) (a0 : Nat) (x1 : Int32) : Option (MH) := fX11_ledx_4 FU h a0 x1 0 0
set_option maxRecDepth 20000 in
theorem tX11_ledx {h' : MH} {h : MH} {a0 : Nat} {x1 : Int32} (hf : fX11_ledx h a0 x1 = some h') : VM mX11_led 1 (some (.retAddr 49)) h' h [.ref a0, .int x1] := by
  show V TT mX11_led 1 _ h' h 0 [.ref a0, .int x1, Jk, Jk] []
  unfold fX11_ledx at hf
  refine V.iconst (q := 1) (v := 0) (by decide) dX11_led_0 rfl ?_
  refine V.istore_n (q := 2) (L' := [.ref a0, .int x1, .int 0, Jk]) rfl dX11_led_1 rfl (by decide) rfl rfl ?_
  refine V.iconst (q := 3) (v := 0) (by decide) dX11_led_2 rfl ?_
  refine V.istore_n (q := 4) (L' := [.ref a0, .int x1, .int 0, .int 0]) rfl dX11_led_3 rfl (by decide) rfl rfl ?_
  exact tlX11_ledx_4  FU _ _ _ _ _ hf
