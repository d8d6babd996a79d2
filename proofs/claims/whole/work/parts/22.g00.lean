def fJ13_bitCount_95d88 (h : MH) (y0 : Int64) : Option (Int32 × MH) := bd (some (y0 - (((y0.toUInt64 >>> ((Int32.toInt64 1).toUInt64 &&& Int64.toUInt64 63)).toInt64) &&& 6148914691236517205))) fun w1 => bd (some ((w1 &&& 3689348814741910323) + (((w1.toUInt64 >>> ((Int32.toInt64 2).toUInt64 &&& Int64.toUInt64 63)).toInt64) &&& 3689348814741910323))) fun w2 => bd (some ((w2 + ((w2.toUInt64 >>> ((Int32.toInt64 4).toUInt64 &&& Int64.toUInt64 63)).toInt64)) &&& 1085102592571150095)) fun w3 => bd (some (w3 + ((w3.toUInt64 >>> ((Int32.toInt64 8).toUInt64 &&& Int64.toUInt64 63)).toInt64))) fun w4 => bd (some (w4 + ((w4.toUInt64 >>> ((Int32.toInt64 16).toUInt64 &&& Int64.toUInt64 63)).toInt64))) fun w5 => bd (some (w5 + ((w5.toUInt64 >>> ((Int32.toInt64 32).toUInt64 &&& Int64.toUInt64 63)).toInt64))) fun w6 => some (((Int64.toInt32 w6) &&& 127), h)
set_option maxRecDepth 20000 in
theorem tJ13_bitCount_95d88 {r : Int32} {h' : MH} {h : MH} {y0 : Int64} (hf : fJ13_bitCount_95d88 h y0 = some (r, h')) : VM mJ13_bitCount_95d88 0 (some (.int r)) h' h [.long y0] := by
  show V TT mJ13_bitCount_95d88 0 _ h' h 0 [.long y0, Jk] []
  unfold fJ13_bitCount_95d88 at hf
  refine V.lload_n (q := 1) rfl dJ13_bitCount_95d88_0 rfl rfl ?_
  refine V.lload_n (q := 2) rfl dJ13_bitCount_95d88_1 rfl rfl ?_
  refine V.iconst (q := 3) (v := 1) (by decide) dJ13_bitCount_95d88_2 rfl ?_
  refine V.lushr (q := 4) dJ13_bitCount_95d88_3 rfl ?_
  refine V.ldc2 (q := 7) kcJ13_314 dJ13_bitCount_95d88_4 rfl ?_
  refine V.land (q := 8) dJ13_bitCount_95d88_7 rfl ?_
  refine V.lsub (q := 9) dJ13_bitCount_95d88_8 rfl ?_
  obtain ⟨w1, ew1, hf⟩ := bd_ex hf
  refine V.topL (Option.some.inj ew1) ?_
  refine V.lstore_n (q := 10) (L' := [.long w1, Jk]) rfl dJ13_bitCount_95d88_9 rfl (by decide) rfl rfl ?_
  refine V.lload_n (q := 11) rfl dJ13_bitCount_95d88_10 rfl rfl ?_
  refine V.ldc2 (q := 14) kcJ13_316 dJ13_bitCount_95d88_11 rfl ?_
  refine V.land (q := 15) dJ13_bitCount_95d88_14 rfl ?_
  refine V.lload_n (q := 16) rfl dJ13_bitCount_95d88_15 rfl rfl ?_
  refine V.iconst (q := 17) (v := 2) (by decide) dJ13_bitCount_95d88_16 rfl ?_
  refine V.lushr (q := 18) dJ13_bitCount_95d88_17 rfl ?_
  refine V.ldc2 (q := 21) kcJ13_316 dJ13_bitCount_95d88_18 rfl ?_
  refine V.land (q := 22) dJ13_bitCount_95d88_21 rfl ?_
  refine V.ladd (q := 23) dJ13_bitCount_95d88_22 rfl ?_
  obtain ⟨w2, ew2, hf⟩ := bd_ex hf
  refine V.topL (Option.some.inj ew2) ?_
  refine V.lstore_n (q := 24) (L' := [.long w2, Jk]) rfl dJ13_bitCount_95d88_23 rfl (by decide) rfl rfl ?_
  refine V.lload_n (q := 25) rfl dJ13_bitCount_95d88_24 rfl rfl ?_
  refine V.lload_n (q := 26) rfl dJ13_bitCount_95d88_25 rfl rfl ?_
  refine V.iconst (q := 27) (v := 4) (by decide) dJ13_bitCount_95d88_26 rfl ?_
  refine V.lushr (q := 28) dJ13_bitCount_95d88_27 rfl ?_
  refine V.ladd (q := 29) dJ13_bitCount_95d88_28 rfl ?_
  refine V.ldc2 (q := 32) kcJ13_318 dJ13_bitCount_95d88_29 rfl ?_
  refine V.land (q := 33) dJ13_bitCount_95d88_32 rfl ?_
  obtain ⟨w3, ew3, hf⟩ := bd_ex hf
  refine V.topL (Option.some.inj ew3) ?_
  refine V.lstore_n (q := 34) (L' := [.long w3, Jk]) rfl dJ13_bitCount_95d88_33 rfl (by decide) rfl rfl ?_
  refine V.lload_n (q := 35) rfl dJ13_bitCount_95d88_34 rfl rfl ?_
  refine V.lload_n (q := 36) rfl dJ13_bitCount_95d88_35 rfl rfl ?_
  refine V.bipush (q := 38) (v := 8) (by decide) dJ13_bitCount_95d88_36 rfl ?_
  refine V.lushr (q := 39) dJ13_bitCount_95d88_38 rfl ?_
  refine V.ladd (q := 40) dJ13_bitCount_95d88_39 rfl ?_
  obtain ⟨w4, ew4, hf⟩ := bd_ex hf
  refine V.topL (Option.some.inj ew4) ?_
  refine V.lstore_n (q := 41) (L' := [.long w4, Jk]) rfl dJ13_bitCount_95d88_40 rfl (by decide) rfl rfl ?_
  refine V.lload_n (q := 42) rfl dJ13_bitCount_95d88_41 rfl rfl ?_
  refine V.lload_n (q := 43) rfl dJ13_bitCount_95d88_42 rfl rfl ?_
  refine V.bipush (q := 45) (v := 16) (by decide) dJ13_bitCount_95d88_43 rfl ?_
  refine V.lushr (q := 46) dJ13_bitCount_95d88_45 rfl ?_
  refine V.ladd (q := 47) dJ13_bitCount_95d88_46 rfl ?_
  obtain ⟨w5, ew5, hf⟩ := bd_ex hf
  refine V.topL (Option.some.inj ew5) ?_
  refine V.lstore_n (q := 48) (L' := [.long w5, Jk]) rfl dJ13_bitCount_95d88_47 rfl (by decide) rfl rfl ?_
  refine V.lload_n (q := 49) rfl dJ13_bitCount_95d88_48 rfl rfl ?_
  refine V.lload_n (q := 50) rfl dJ13_bitCount_95d88_49 rfl rfl ?_
  refine V.bipush (q := 52) (v := 32) (by decide) dJ13_bitCount_95d88_50 rfl ?_
  refine V.lushr (q := 53) dJ13_bitCount_95d88_52 rfl ?_
  refine V.ladd (q := 54) dJ13_bitCount_95d88_53 rfl ?_
  obtain ⟨w6, ew6, hf⟩ := bd_ex hf
  refine V.topL (Option.some.inj ew6) ?_
  refine V.lstore_n (q := 55) (L' := [.long w6, Jk]) rfl dJ13_bitCount_95d88_54 rfl (by decide) rfl rfl ?_
  refine V.lload_n (q := 56) rfl dJ13_bitCount_95d88_55 rfl rfl ?_
  refine V.l2i (q := 57) dJ13_bitCount_95d88_56 rfl ?_
  refine V.bipush (q := 59) (v := 127) (by decide) dJ13_bitCount_95d88_57 rfl ?_
  refine V.iand (q := 60) dJ13_bitCount_95d88_59 rfl ?_
  obtain ⟨rfl, rfl⟩ := ret_inj hf
  exact V.ret (r := some (.int ((Int64.toInt32 w6) &&& 127))) trivial dJ13_bitCount_95d88_60
def fJ6_bitCount_0f7a4 (h : MH) (x0 : Int32) : Option (Int32 × MH) := bd (some (x0 - (((x0.toUInt32 >>> ((1 : Int32).toUInt32 &&& Int32.toUInt32 31)).toInt32) &&& 1431655765))) fun v1 => bd (some ((v1 &&& 858993459) + (((v1.toUInt32 >>> ((2 : Int32).toUInt32 &&& Int32.toUInt32 31)).toInt32) &&& 858993459))) fun v2 => bd (some ((v2 + ((v2.toUInt32 >>> ((4 : Int32).toUInt32 &&& Int32.toUInt32 31)).toInt32)) &&& 252645135)) fun v3 => bd (some (v3 + ((v3.toUInt32 >>> ((8 : Int32).toUInt32 &&& Int32.toUInt32 31)).toInt32))) fun v4 => bd (some (v4 + ((v4.toUInt32 >>> ((16 : Int32).toUInt32 &&& Int32.toUInt32 31)).toInt32))) fun v5 => some ((v5 &&& 63), h)
set_option maxRecDepth 20000 in
theorem tJ6_bitCount_0f7a4 {r : Int32} {h' : MH} {h : MH} {x0 : Int32} (hf : fJ6_bitCount_0f7a4 h x0 = some (r, h')) : VM mJ6_bitCount_0f7a4 0 (some (.int r)) h' h [.int x0] := by
  show V TT mJ6_bitCount_0f7a4 0 _ h' h 0 [.int x0] []
  unfold fJ6_bitCount_0f7a4 at hf
  refine V.iload_n (q := 1) rfl dJ6_bitCount_0f7a4_0 rfl rfl ?_
  refine V.iload_n (q := 2) rfl dJ6_bitCount_0f7a4_1 rfl rfl ?_
  refine V.iconst (q := 3) (v := 1) (by decide) dJ6_bitCount_0f7a4_2 rfl ?_
  refine V.iushr (q := 4) dJ6_bitCount_0f7a4_3 rfl ?_
  refine V.ldcw (q := 7) kcJ6_265 dJ6_bitCount_0f7a4_4 rfl ?_
  refine V.iand (q := 8) dJ6_bitCount_0f7a4_7 rfl ?_
  refine V.isub (q := 9) dJ6_bitCount_0f7a4_8 rfl ?_
  obtain ⟨v1, ev1, hf⟩ := bd_ex hf
  refine V.topI (Option.some.inj ev1) ?_
  refine V.istore_n (q := 10) (L' := [.int v1]) rfl dJ6_bitCount_0f7a4_9 rfl (by decide) rfl rfl ?_
  refine V.iload_n (q := 11) rfl dJ6_bitCount_0f7a4_10 rfl rfl ?_
  refine V.ldcw (q := 14) kcJ6_266 dJ6_bitCount_0f7a4_11 rfl ?_
  refine V.iand (q := 15) dJ6_bitCount_0f7a4_14 rfl ?_
  refine V.iload_n (q := 16) rfl dJ6_bitCount_0f7a4_15 rfl rfl ?_
  refine V.iconst (q := 17) (v := 2) (by decide) dJ6_bitCount_0f7a4_16 rfl ?_
  refine V.iushr (q := 18) dJ6_bitCount_0f7a4_17 rfl ?_
  refine V.ldcw (q := 21) kcJ6_266 dJ6_bitCount_0f7a4_18 rfl ?_
  refine V.iand (q := 22) dJ6_bitCount_0f7a4_21 rfl ?_
  refine V.iadd (q := 23) dJ6_bitCount_0f7a4_22 rfl ?_
  obtain ⟨v2, ev2, hf⟩ := bd_ex hf
  refine V.topI (Option.some.inj ev2) ?_
  refine V.istore_n (q := 24) (L' := [.int v2]) rfl dJ6_bitCount_0f7a4_23 rfl (by decide) rfl rfl ?_
  refine V.iload_n (q := 25) rfl dJ6_bitCount_0f7a4_24 rfl rfl ?_
  refine V.iload_n (q := 26) rfl dJ6_bitCount_0f7a4_25 rfl rfl ?_
  refine V.iconst (q := 27) (v := 4) (by decide) dJ6_bitCount_0f7a4_26 rfl ?_
  refine V.iushr (q := 28) dJ6_bitCount_0f7a4_27 rfl ?_
  refine V.iadd (q := 29) dJ6_bitCount_0f7a4_28 rfl ?_
  refine V.ldcw (q := 32) kcJ6_267 dJ6_bitCount_0f7a4_29 rfl ?_
  refine V.iand (q := 33) dJ6_bitCount_0f7a4_32 rfl ?_
  obtain ⟨v3, ev3, hf⟩ := bd_ex hf
  refine V.topI (Option.some.inj ev3) ?_
  refine V.istore_n (q := 34) (L' := [.int v3]) rfl dJ6_bitCount_0f7a4_33 rfl (by decide) rfl rfl ?_
  refine V.iload_n (q := 35) rfl dJ6_bitCount_0f7a4_34 rfl rfl ?_
  refine V.iload_n (q := 36) rfl dJ6_bitCount_0f7a4_35 rfl rfl ?_
  refine V.bipush (q := 38) (v := 8) (by decide) dJ6_bitCount_0f7a4_36 rfl ?_
  refine V.iushr (q := 39) dJ6_bitCount_0f7a4_38 rfl ?_
  refine V.iadd (q := 40) dJ6_bitCount_0f7a4_39 rfl ?_
  obtain ⟨v4, ev4, hf⟩ := bd_ex hf
  refine V.topI (Option.some.inj ev4) ?_
  refine V.istore_n (q := 41) (L' := [.int v4]) rfl dJ6_bitCount_0f7a4_40 rfl (by decide) rfl rfl ?_
  refine V.iload_n (q := 42) rfl dJ6_bitCount_0f7a4_41 rfl rfl ?_
  refine V.iload_n (q := 43) rfl dJ6_bitCount_0f7a4_42 rfl rfl ?_
  refine V.bipush (q := 45) (v := 16) (by decide) dJ6_bitCount_0f7a4_43 rfl ?_
  refine V.iushr (q := 46) dJ6_bitCount_0f7a4_45 rfl ?_
  refine V.iadd (q := 47) dJ6_bitCount_0f7a4_46 rfl ?_
  obtain ⟨v5, ev5, hf⟩ := bd_ex hf
  refine V.topI (Option.some.inj ev5) ?_
  refine V.istore_n (q := 48) (L' := [.int v5]) rfl dJ6_bitCount_0f7a4_47 rfl (by decide) rfl rfl ?_
  refine V.iload_n (q := 49) rfl dJ6_bitCount_0f7a4_48 rfl rfl ?_
  refine V.bipush (q := 51) (v := 63) (by decide) dJ6_bitCount_0f7a4_49 rfl ?_
  refine V.iand (q := 52) dJ6_bitCount_0f7a4_51 rfl ?_
  obtain ⟨rfl, rfl⟩ := ret_inj hf
  exact V.ret (r := some (.int (v5 &&& 63))) trivial dJ6_bitCount_0f7a4_52
def fX11_hasBit (h : MH) (x0 : Int32) (x1 : Int32) : Option (Int32 × MH) := if ((x0 >>> (x1 &&& 31)) &&& 1) = 1 then (some (1, h)) else (some (0, h))
set_option maxRecDepth 20000 in
theorem tX11_hasBit {r : Int32} {h' : MH} {h : MH} {x0 : Int32} {x1 : Int32} (hf : fX11_hasBit h x0 x1 = some (r, h')) : VM mX11_hasBit 0 (some (.int r)) h' h [.int x0, .int x1] := by
  show V TT mX11_hasBit 0 _ h' h 0 [.int x0, .int x1] []
  unfold fX11_hasBit at hf
  refine V.iload_n (q := 1) rfl dX11_hasBit_0 rfl rfl ?_
  refine V.iload_n (q := 2) rfl dX11_hasBit_1 rfl rfl ?_
  refine V.ishr (q := 3) dX11_hasBit_2 rfl ?_
  refine V.iconst (q := 4) (v := 1) (by decide) dX11_hasBit_3 rfl ?_
  refine V.iand (q := 5) dX11_hasBit_4 rfl ?_
  refine V.iconst (q := 6) (v := 1) (by decide) dX11_hasBit_5 rfl ?_
  refine V.icmp_ne (q := 9) (tgt := 13) dX11_hasBit_6 rfl (by decide) (fun c => ?_) (fun c => ?_)
  · rw [if_neg c] at hf
    refine V.iconst (q := 14) (v := 0) (by decide) dX11_hasBit_13 rfl ?_
    obtain ⟨rfl, rfl⟩ := ret_inj hf
    exact V.ret (r := some (.int 0)) (Or.inl rfl) dX11_hasBit_14
  · rw [if_pos c] at hf
    refine V.iconst (q := 10) (v := 1) (by decide) dX11_hasBit_9 rfl ?_
    refine V.goto (q := 14) dX11_hasBit_10 (by decide) ?_
    obtain ⟨rfl, rfl⟩ := ret_inj hf
    exact V.ret (r := some (.int 1)) (Or.inr rfl) dX11_hasBit_14
def fX4_verdictOf (h : MH) (a0 : Nat) (x1 : Int32) : Option (Int32 × MH) := bd (gR h a0 4 0) fun b1 => bd (lI h b1 (18 + x1)) fun v2 => some (v2, h)
set_option maxRecDepth 20000 in
theorem tX4_verdictOf {r : Int32} {h' : MH} {h : MH} {a0 : Nat} {x1 : Int32} (hf : fX4_verdictOf h a0 x1 = some (r, h')) : VM mX4_verdictOf 0 (some (.int r)) h' h [.ref a0, .int x1] := by
  show V TT mX4_verdictOf 0 _ h' h 0 [.ref a0, .int x1] []
  unfold fX4_verdictOf at hf
  refine V.aload_n (q := 1) rfl dX4_verdictOf_0 rfl rfl ?_
  obtain ⟨b1, eb1, hf⟩ := bd_ex hf
  refine V.getR (q := 4) flX4_11 rfl eb1 dX4_verdictOf_1 rfl ?_
  refine V.bipush (q := 6) (v := 18) (by decide) dX4_verdictOf_4 rfl ?_
  refine V.iload_n (q := 7) rfl dX4_verdictOf_6 rfl rfl ?_
  refine V.iadd (q := 8) dX4_verdictOf_7 rfl ?_
  obtain ⟨v2, ev2, hf⟩ := bd_ex hf
  refine V.iald (q := 9) ev2 dX4_verdictOf_8 rfl ?_
  obtain ⟨rfl, rfl⟩ := ret_inj hf
  exact V.ret (r := some (.int v2)) trivial dX4_verdictOf_9
def bX5_firstRule_2 (k2 : MH → Nat → Int32 → Int32 → Int32 → Option (Int32 × MH)) (h : MH) (a0 : Nat) (x1 : Int32) (x2 : Int32) (x3 : Int32) : Option (Int32 × MH) := bd (gR h a0 5 1) fun b1 => bd (gI h b1 7 16) fun v2 => if v2 ≤ x3 then (some ((-2), h)) else (bd (gR h a0 5 1) fun b3 => bd (gR h b3 7 4) fun b4 => bd (lI h b4 x3) fun v5 => if v5 = x1 then (bd (gR h a0 5 1) fun b6 => bd (gR h b6 7 5) fun b7 => bd (lI h b7 x3) fun v8 => bd (gR h a0 5 1) fun b9 => bd (gR h b9 7 6) fun b10 => bd (lI h b10 x3) fun v11 => if ((x2 >>> (v8 &&& 31)) &&& 1) = v11 then (bd (some (x3 + 1)) fun v12 => k2 h a0 x1 x2 v12) else (some (x3, h))) else (bd (some (x3 + 1)) fun v6 => k2 h a0 x1 x2 v6))
set_option maxRecDepth 20000 in
theorem tX5_firstRule_2 {r : Int32} {h' : MH} (k2 : MH → Nat → Int32 → Int32 → Int32 → Option (Int32 × MH)) (hk2 : ∀ (h : MH) (a0 : Nat) (x1 : Int32) (x2 : Int32) (x3 : Int32), k2 h a0 x1 x2 x3 = some (r, h') → V TT mX5_firstRule 0 (some (.int r)) h' h 2 [.ref a0, .int x1, .int x2, .int x3] [])  {h : MH} {a0 : Nat} {x1 : Int32} {x2 : Int32} {x3 : Int32} (hf : bX5_firstRule_2 k2 h a0 x1 x2 x3 = some (r, h')) : V TT mX5_firstRule 0 (some (.int r)) h' h 2 [.ref a0, .int x1, .int x2, .int x3] [] := by
  unfold bX5_firstRule_2 at hf
  refine V.iload_n (q := 3) rfl dX5_firstRule_2 rfl rfl ?_
  refine V.aload_n (q := 4) rfl dX5_firstRule_3 rfl rfl ?_
  obtain ⟨b1, eb1, hf⟩ := bd_ex hf
  refine V.getR (q := 7) flX5_21 rfl eb1 dX5_firstRule_4 rfl ?_
  obtain ⟨v2, ev2, hf⟩ := bd_ex hf
  refine V.getI (q := 10) flX5_38 rfl ev2 dX5_firstRule_7 rfl ?_
  refine V.icmp_ge (q := 13) (tgt := 59) dX5_firstRule_10 rfl (by decide) (fun c => ?_) (fun c => ?_)
  · rw [if_pos c] at hf
    refine V.bipush (q := 61) (v := (-2)) (by decide) dX5_firstRule_59 rfl ?_
    obtain ⟨rfl, rfl⟩ := ret_inj hf
    exact V.ret (r := some (.int (-2))) trivial dX5_firstRule_61
  · rw [if_neg c] at hf
    refine V.aload_n (q := 14) rfl dX5_firstRule_13 rfl rfl ?_
    obtain ⟨b3, eb3, hf⟩ := bd_ex hf
    refine V.getR (q := 17) flX5_21 rfl eb3 dX5_firstRule_14 rfl ?_
    obtain ⟨b4, eb4, hf⟩ := bd_ex hf
    refine V.getR (q := 20) flX5_51 rfl eb4 dX5_firstRule_17 rfl ?_
    refine V.iload_n (q := 21) rfl dX5_firstRule_20 rfl rfl ?_
    obtain ⟨v5, ev5, hf⟩ := bd_ex hf
    refine V.iald (q := 22) ev5 dX5_firstRule_21 rfl ?_
    refine V.iload_n (q := 23) rfl dX5_firstRule_22 rfl rfl ?_
    refine V.icmp_ne (q := 26) (tgt := 53) dX5_firstRule_23 rfl (by decide) (fun c => ?_) (fun c => ?_)
    · rw [if_neg c] at hf
      obtain ⟨v6, ev6, hf⟩ := bd_ex hf
      refine V.iinc (q := 56) (v := v6) (L' := [.ref a0, .int x1, .int x2, .int v6]) dX5_firstRule_53 rfl rfl (Option.some.inj ev6) (by decide) rfl rfl ?_
      refine V.goto (q := 2) dX5_firstRule_56 (by decide) ?_
      exact hk2 _ _ _ _ _ hf
    · rw [if_pos c] at hf
      refine V.iload_n (q := 27) rfl dX5_firstRule_26 rfl rfl ?_
      refine V.aload_n (q := 28) rfl dX5_firstRule_27 rfl rfl ?_
      obtain ⟨b6, eb6, hf⟩ := bd_ex hf
      refine V.getR (q := 31) flX5_21 rfl eb6 dX5_firstRule_28 rfl ?_
      obtain ⟨b7, eb7, hf⟩ := bd_ex hf
      refine V.getR (q := 34) flX5_55 rfl eb7 dX5_firstRule_31 rfl ?_
      refine V.iload_n (q := 35) rfl dX5_firstRule_34 rfl rfl ?_
      obtain ⟨v8, ev8, hf⟩ := bd_ex hf
      refine V.iald (q := 36) ev8 dX5_firstRule_35 rfl ?_
      refine V.ishr (q := 37) dX5_firstRule_36 rfl ?_
      refine V.iconst (q := 38) (v := 1) (by decide) dX5_firstRule_37 rfl ?_
      refine V.iand (q := 39) dX5_firstRule_38 rfl ?_
      refine V.aload_n (q := 40) rfl dX5_firstRule_39 rfl rfl ?_
      obtain ⟨b9, eb9, hf⟩ := bd_ex hf
      refine V.getR (q := 43) flX5_21 rfl eb9 dX5_firstRule_40 rfl ?_
      obtain ⟨b10, eb10, hf⟩ := bd_ex hf
      refine V.getR (q := 46) flX5_58 rfl eb10 dX5_firstRule_43 rfl ?_
      refine V.iload_n (q := 47) rfl dX5_firstRule_46 rfl rfl ?_
      obtain ⟨v11, ev11, hf⟩ := bd_ex hf
      refine V.iald (q := 48) ev11 dX5_firstRule_47 rfl ?_
      refine V.icmp_eq (q := 51) (tgt := 53) dX5_firstRule_48 rfl (by decide) (fun c => ?_) (fun c => ?_)
      · rw [if_pos c] at hf
        obtain ⟨v12, ev12, hf⟩ := bd_ex hf
        refine V.iinc (q := 56) (v := v12) (L' := [.ref a0, .int x1, .int x2, .int v12]) dX5_firstRule_53 rfl rfl (Option.some.inj ev12) (by decide) rfl rfl ?_
        refine V.goto (q := 2) dX5_firstRule_56 (by decide) ?_
        exact hk2 _ _ _ _ _ hf
      · rw [if_neg c] at hf
        refine V.iload_n (q := 52) rfl dX5_firstRule_51 rfl rfl ?_
        obtain ⟨rfl, rfl⟩ := ret_inj hf
        exact V.ret (r := some (.int x3)) trivial dX5_firstRule_52
def fX5_firstRule_2  : Nat → MH → Nat → Int32 → Int32 → Int32 → Option (Int32 × MH)
  | 0 => fun _ _ _ _ _ => none
  | n + 1 => bX5_firstRule_2  (fX5_firstRule_2  n)
theorem tlX5_firstRule_2 {r : Int32} {h' : MH}   : ∀ (n : Nat) (h : MH) (a0 : Nat) (x1 : Int32) (x2 : Int32) (x3 : Int32), fX5_firstRule_2  n h a0 x1 x2 x3 = some (r, h') → V TT mX5_firstRule 0 (some (.int r)) h' h 2 [.ref a0, .int x1, .int x2, .int x3] [] := by
  intro n
  induction n with
  | zero => intro h a0 x1 x2 x3 hf; exact nomatch (show (none : Option (Int32 × MH)) = some (r, h') from hf)
  | succ n ih => intro h a0 x1 x2 x3 hf; exact tX5_firstRule_2  (fX5_firstRule_2  n) ih hf
def fX5_firstRule (h : MH) (a0 : Nat) (x1 : Int32) (x2 : Int32) : Option (Int32 × MH) := fX5_firstRule_2 FU h a0 x1 x2 0
set_option maxRecDepth 20000 in
theorem tX5_firstRule {r : Int32} {h' : MH} {h : MH} {a0 : Nat} {x1 : Int32} {x2 : Int32} (hf : fX5_firstRule h a0 x1 x2 = some (r, h')) : VM mX5_firstRule 0 (some (.int r)) h' h [.ref a0, .int x1, .int x2] := by
  show V TT mX5_firstRule 0 _ h' h 0 [.ref a0, .int x1, .int x2, Jk] []
  unfold fX5_firstRule at hf
  refine V.iconst (q := 1) (v := 0) (by decide) dX5_firstRule_0 rfl ?_
  refine V.istore_n (q := 2) (L' := [.ref a0, .int x1, .int x2, .int 0]) rfl dX5_firstRule_1 rfl (by decide) rfl rfl ?_
  exact tlX5_firstRule_2  FU _ _ _ _ _ hf
def fX5_sayOf (h : MH) (a0 : Nat) (x1 : Int32) (x2 : Int32) : Option (Int32 × MH) := bd (ck h a0 5) fun _ => bd2 (fX5_firstRule h a0 x1 x2) fun v2 h1 => if v2 < 0 then (bd (gR h1 a0 5 1) fun b3 => bd (gR h1 b3 7 2) fun b4 => bd (lI h1 b4 x1) fun v5 => some (v5, h1)) else (bd (gR h1 a0 5 0) fun b3 => bd (ck h1 b3 4) fun _ => bd2 (fX4_verdictOf h1 b3 v2) fun v5 h2 => some (v5, h2))
set_option maxRecDepth 20000 in
theorem tX5_sayOf {r : Int32} {h' : MH} {h : MH} {a0 : Nat} {x1 : Int32} {x2 : Int32} (hf : fX5_sayOf h a0 x1 x2 = some (r, h')) : VM mX5_sayOf 1 (some (.int r)) h' h [.ref a0, .int x1, .int x2] := by
  show V TT mX5_sayOf 1 _ h' h 0 [.ref a0, .int x1, .int x2, Jk] []
  unfold fX5_sayOf at hf
  refine V.aload_n (q := 1) rfl dX5_sayOf_0 rfl rfl ?_
  refine V.iload_n (q := 2) rfl dX5_sayOf_1 rfl rfl ?_
  refine V.iload_n (q := 3) rfl dX5_sayOf_2 rfl rfl ?_
  obtain ⟨_, e1, hf⟩ := bd_ex hf
  obtain ⟨v2, h1, eh1, hf⟩ := bd2_ex hf
  refine V.callV (q := 6) (ci := 5) (vs := [.int x1, .int x2]) (st := []) (S2 := [.int v2]) okX5_firstRule imX5_firstRule seX5_firstRule rfl lkX5_61 (tX5_firstRule eh1) rfl (ck_is e1) (by decide) rfl (Nat.le_of_ble_eq_true rfl) (Nat.le_of_ble_eq_true rfl) rfl dX5_sayOf_3 rfl rfl ?_
  refine V.istore_n (q := 7) (L' := [.ref a0, .int x1, .int x2, .int v2]) rfl dX5_sayOf_6 rfl (by decide) rfl rfl ?_
  refine V.iload_n (q := 8) rfl dX5_sayOf_7 rfl rfl ?_
  refine V.if_lt (q := 11) (tgt := 22) dX5_sayOf_8 rfl (by decide) (fun c => ?_) (fun c => ?_)
  · rw [if_pos c] at hf
    refine V.aload_n (q := 23) rfl dX5_sayOf_22 rfl rfl ?_
    obtain ⟨b3, eb3, hf⟩ := bd_ex hf
    refine V.getR (q := 26) flX5_21 rfl eb3 dX5_sayOf_23 rfl ?_
    obtain ⟨b4, eb4, hf⟩ := bd_ex hf
    refine V.getR (q := 29) flX5_69 rfl eb4 dX5_sayOf_26 rfl ?_
    refine V.iload_n (q := 30) rfl dX5_sayOf_29 rfl rfl ?_
    obtain ⟨v5, ev5, hf⟩ := bd_ex hf
    refine V.iald (q := 31) ev5 dX5_sayOf_30 rfl ?_
    obtain ⟨rfl, rfl⟩ := ret_inj hf
    exact V.ret (r := some (.int v5)) trivial dX5_sayOf_31
  · rw [if_neg c] at hf
    refine V.aload_n (q := 12) rfl dX5_sayOf_11 rfl rfl ?_
    obtain ⟨b3, eb3, hf⟩ := bd_ex hf
    refine V.getR (q := 15) flX5_12 rfl eb3 dX5_sayOf_12 rfl ?_
    refine V.iload_n (q := 16) rfl dX5_sayOf_15 rfl rfl ?_
    obtain ⟨_, e4, hf⟩ := bd_ex hf
    obtain ⟨v5, h2, eh2, hf⟩ := bd2_ex hf
    refine V.callV (q := 19) (ci := 4) (vs := [.int v2]) (st := []) (S2 := [.int v5]) okX4_verdictOf imX4_verdictOf seX4_verdictOf rfl lkX5_65 (tX4_verdictOf eh2) rfl (ck_is e4) (by decide) rfl (Nat.le_of_ble_eq_true rfl) (Nat.le_of_ble_eq_true rfl) rfl dX5_sayOf_16 rfl rfl ?_
    refine V.goto (q := 31) dX5_sayOf_19 (by decide) ?_
    obtain ⟨rfl, rfl⟩ := ret_inj hf
    exact V.ret (r := some (.int v5)) trivial dX5_sayOf_31
def bX0_yesOverNo_5 (k5 : MH → Nat → Int32 → Int32 → Int32 → Int32 → Option (Int32 × MH)) (h : MH) (a0 : Nat) (x1 : Int32) (x2 : Int32) (x3 : Int32) (x4 : Int32) : Option (Int32 × MH) := bd (gR h a0 0 0) fun b1 => bd (gR h b1 5 1) fun b2 => bd (gI h b2 7 15) fun v3 => if v3 ≤ x4 then (some (x3, h)) else (if x4 = x2 then (bd (some (x4 + 1)) fun v4 => k5 h a0 x1 x2 x3 v4) else (bd2 (fX11_hasBit h x1 x4) fun v4 h1 => if v4 = 0 then (bd (some (x4 + 1)) fun v5 => k5 h1 a0 x1 x2 x3 v5) else (bd (gR h1 a0 0 0) fun b5 => bd (gR h1 a0 0 0) fun b6 => bd (gR h1 b6 5 1) fun b7 => bd (gR h1 b7 7 3) fun b8 => bd (lI h1 b8 x2) fun v9 => bd (ck h1 b5 5) fun _ => bd2 (fX5_sayOf h1 b5 x4 v9) fun v11 h2 => if v11 = 1 then (bd (some (x3 + 1)) fun v12 => bd (some (x4 + 1)) fun v13 => k5 h2 a0 x1 x2 v12 v13) else (if v11 = 0 then (bd (some (x3 + (-1))) fun v12 => bd (some (x4 + 1)) fun v13 => k5 h2 a0 x1 x2 v12 v13) else (bd (some (x3 + 0)) fun v12 => bd (some (x4 + 1)) fun v13 => k5 h2 a0 x1 x2 v12 v13)))))
set_option maxRecDepth 20000 in
theorem tX0_yesOverNo_5 {r : Int32} {h' : MH} (k5 : MH → Nat → Int32 → Int32 → Int32 → Int32 → Option (Int32 × MH)) (hk5 : ∀ (h : MH) (a0 : Nat) (x1 : Int32) (x2 : Int32) (x3 : Int32) (x4 : Int32), k5 h a0 x1 x2 x3 x4 = some (r, h') → V TT mX0_yesOverNo 2 (some (.int r)) h' h 5 [.ref a0, .int x1, .int x2, .int x3, .int x4, Jk] [])  {h : MH} {a0 : Nat} {x1 : Int32} {x2 : Int32} {x3 : Int32} {x4 : Int32} (hf : bX0_yesOverNo_5 k5 h a0 x1 x2 x3 x4 = some (r, h')) : V TT mX0_yesOverNo 2 (some (.int r)) h' h 5 [.ref a0, .int x1, .int x2, .int x3, .int x4, Jk] [] := by
  unfold bX0_yesOverNo_5 at hf
  refine V.iload (q := 7) dX0_yesOverNo_5 rfl rfl ?_
  refine V.aload_n (q := 8) rfl dX0_yesOverNo_7 rfl rfl ?_
  obtain ⟨b1, eb1, hf⟩ := bd_ex hf
  refine V.getR (q := 11) flX0_9 rfl eb1 dX0_yesOverNo_8 rfl ?_
  obtain ⟨b2, eb2, hf⟩ := bd_ex hf
  refine V.getR (q := 14) flX0_15 rfl eb2 dX0_yesOverNo_11 rfl ?_
  obtain ⟨v3, ev3, hf⟩ := bd_ex hf
  refine V.getI (q := 17) flX0_21 rfl ev3 dX0_yesOverNo_14 rfl ?_
  refine V.icmp_ge (q := 20) (tgt := 87) dX0_yesOverNo_17 rfl (by decide) (fun c => ?_) (fun c => ?_)
  · rw [if_pos c] at hf
    refine V.iload_n (q := 88) rfl dX0_yesOverNo_87 rfl rfl ?_
    obtain ⟨rfl, rfl⟩ := ret_inj hf
    exact V.ret (r := some (.int x3)) trivial dX0_yesOverNo_88
  · rw [if_neg c] at hf
    refine V.iload (q := 22) dX0_yesOverNo_20 rfl rfl ?_
    refine V.iload_n (q := 23) rfl dX0_yesOverNo_22 rfl rfl ?_
    refine V.icmp_eq (q := 26) (tgt := 81) dX0_yesOverNo_23 rfl (by decide) (fun c => ?_) (fun c => ?_)
    · rw [if_pos c] at hf
      obtain ⟨v4, ev4, hf⟩ := bd_ex hf
      refine V.iinc (q := 84) (v := v4) (L' := [.ref a0, .int x1, .int x2, .int x3, .int v4, Jk]) dX0_yesOverNo_81 rfl rfl (Option.some.inj ev4) (by decide) rfl rfl ?_
      refine V.goto (q := 5) dX0_yesOverNo_84 (by decide) ?_
      exact hk5 _ _ _ _ _ _ hf
    · rw [if_neg c] at hf
      refine V.iload_n (q := 27) rfl dX0_yesOverNo_26 rfl rfl ?_
      refine V.iload (q := 29) dX0_yesOverNo_27 rfl rfl ?_
      obtain ⟨v4, h1, eh1, hf⟩ := bd2_ex hf
      refine V.callSN (q := 32) (vs := [.int x1, .int x4]) (st := []) (S2 := [.int v4]) okX11_hasBit stX11_hasBit lnX0_31 (tX11_hasBit eh1) rfl (by decide) rfl (Nat.le_of_ble_eq_true rfl) (Nat.le_of_ble_eq_true rfl) rfl dX0_yesOverNo_29 rfl rfl ?_
      refine V.if_eq (q := 35) (tgt := 81) dX0_yesOverNo_32 rfl (by decide) (fun c => ?_) (fun c => ?_)
      · rw [if_pos c] at hf
        obtain ⟨v5, ev5, hf⟩ := bd_ex hf
        refine V.iinc (q := 84) (v := v5) (L' := [.ref a0, .int x1, .int x2, .int x3, .int v5, Jk]) dX0_yesOverNo_81 rfl rfl (Option.some.inj ev5) (by decide) rfl rfl ?_
        refine V.goto (q := 5) dX0_yesOverNo_84 (by decide) ?_
        exact hk5 _ _ _ _ _ _ hf
      · rw [if_neg c] at hf
        refine V.aload_n (q := 36) rfl dX0_yesOverNo_35 rfl rfl ?_
        obtain ⟨b5, eb5, hf⟩ := bd_ex hf
        refine V.getR (q := 39) flX0_9 rfl eb5 dX0_yesOverNo_36 rfl ?_
        refine V.iload (q := 41) dX0_yesOverNo_39 rfl rfl ?_
        refine V.aload_n (q := 42) rfl dX0_yesOverNo_41 rfl rfl ?_
        obtain ⟨b6, eb6, hf⟩ := bd_ex hf
        refine V.getR (q := 45) flX0_9 rfl eb6 dX0_yesOverNo_42 rfl ?_
        obtain ⟨b7, eb7, hf⟩ := bd_ex hf
        refine V.getR (q := 48) flX0_15 rfl eb7 dX0_yesOverNo_45 rfl ?_
        obtain ⟨b8, eb8, hf⟩ := bd_ex hf
        refine V.getR (q := 51) flX0_35 rfl eb8 dX0_yesOverNo_48 rfl ?_
        refine V.iload_n (q := 52) rfl dX0_yesOverNo_51 rfl rfl ?_
        obtain ⟨v9, ev9, hf⟩ := bd_ex hf
        refine V.iald (q := 53) ev9 dX0_yesOverNo_52 rfl ?_
        obtain ⟨_, e10, hf⟩ := bd_ex hf
        obtain ⟨v11, h2, eh2, hf⟩ := bd2_ex hf
        refine V.callV (q := 56) (ci := 5) (vs := [.int x4, .int v9]) (st := []) (S2 := [.int v11]) okX5_sayOf imX5_sayOf seX5_sayOf rfl lkX0_39 (tX5_sayOf eh2) rfl (ck_is e10) (by decide) rfl (Nat.le_of_ble_eq_true rfl) (Nat.le_of_ble_eq_true rfl) rfl dX0_yesOverNo_53 rfl rfl ?_
        refine V.istore (q := 58) (L' := [.ref a0, .int x1, .int x2, .int x3, .int x4, .int v11]) dX0_yesOverNo_56 rfl (by decide) rfl rfl ?_
        refine V.iload_n (q := 59) rfl dX0_yesOverNo_58 rfl rfl ?_
        refine V.iload (q := 61) dX0_yesOverNo_59 rfl rfl ?_
        refine V.iconst (q := 62) (v := 1) (by decide) dX0_yesOverNo_61 rfl ?_
        refine V.icmp_ne (q := 65) (tgt := 69) dX0_yesOverNo_62 rfl (by decide) (fun c => ?_) (fun c => ?_)
        · rw [if_neg c] at hf
          refine V.iload (q := 71) dX0_yesOverNo_69 rfl rfl ?_
          refine V.if_ne (q := 74) (tgt := 78) dX0_yesOverNo_71 rfl (by decide) (fun c => ?_) (fun c => ?_)
          · rw [if_neg c] at hf
            refine V.iconst (q := 79) (v := 0) (by decide) dX0_yesOverNo_78 rfl ?_
            refine V.iadd (q := 80) dX0_yesOverNo_79 rfl ?_
            obtain ⟨v12, ev12, hf⟩ := bd_ex hf
            refine V.topI (Option.some.inj ev12) ?_
            refine V.istore_n (q := 81) (L' := [.ref a0, .int x1, .int x2, .int v12, .int x4, .int v11]) rfl dX0_yesOverNo_80 rfl (by decide) rfl rfl ?_
            obtain ⟨v13, ev13, hf⟩ := bd_ex hf
            refine V.iinc (q := 84) (v := v13) (L' := [.ref a0, .int x1, .int x2, .int v12, .int v13, .int v11]) dX0_yesOverNo_81 rfl rfl (Option.some.inj ev13) (by decide) rfl rfl ?_
            refine V.goto (q := 5) dX0_yesOverNo_84 (by decide) ?_
            refine V.forget (L' := [.ref a0, .int x1, .int x2, .int v12, .int v13, Jk]) ⟨Or.inr rfl, Or.inr rfl, Or.inr rfl, Or.inr rfl, Or.inr rfl, Or.inl rfl, trivial⟩ ?_
            exact hk5 _ _ _ _ _ _ hf
          · rw [if_pos c] at hf
            refine V.iconst (q := 75) (v := (-1)) (by decide) dX0_yesOverNo_74 rfl ?_
            refine V.goto (q := 79) dX0_yesOverNo_75 (by decide) ?_
            refine V.iadd (q := 80) dX0_yesOverNo_79 rfl ?_
            obtain ⟨v12, ev12, hf⟩ := bd_ex hf
            refine V.topI (Option.some.inj ev12) ?_
            refine V.istore_n (q := 81) (L' := [.ref a0, .int x1, .int x2, .int v12, .int x4, .int v11]) rfl dX0_yesOverNo_80 rfl (by decide) rfl rfl ?_
            obtain ⟨v13, ev13, hf⟩ := bd_ex hf
            refine V.iinc (q := 84) (v := v13) (L' := [.ref a0, .int x1, .int x2, .int v12, .int v13, .int v11]) dX0_yesOverNo_81 rfl rfl (Option.some.inj ev13) (by decide) rfl rfl ?_
            refine V.goto (q := 5) dX0_yesOverNo_84 (by decide) ?_
            refine V.forget (L' := [.ref a0, .int x1, .int x2, .int v12, .int v13, Jk]) ⟨Or.inr rfl, Or.inr rfl, Or.inr rfl, Or.inr rfl, Or.inr rfl, Or.inl rfl, trivial⟩ ?_
            exact hk5 _ _ _ _ _ _ hf
        · rw [if_pos c] at hf
          refine V.iconst (q := 66) (v := 1) (by decide) dX0_yesOverNo_65 rfl ?_
          refine V.goto (q := 79) dX0_yesOverNo_66 (by decide) ?_
          refine V.iadd (q := 80) dX0_yesOverNo_79 rfl ?_
          obtain ⟨v12, ev12, hf⟩ := bd_ex hf
          refine V.topI (Option.some.inj ev12) ?_
          refine V.istore_n (q := 81) (L' := [.ref a0, .int x1, .int x2, .int v12, .int x4, .int v11]) rfl dX0_yesOverNo_80 rfl (by decide) rfl rfl ?_
          obtain ⟨v13, ev13, hf⟩ := bd_ex hf
          refine V.iinc (q := 84) (v := v13) (L' := [.ref a0, .int x1, .int x2, .int v12, .int v13, .int v11]) dX0_yesOverNo_81 rfl rfl (Option.some.inj ev13) (by decide) rfl rfl ?_
          refine V.goto (q := 5) dX0_yesOverNo_84 (by decide) ?_
          refine V.forget (L' := [.ref a0, .int x1, .int x2, .int v12, .int v13, Jk]) ⟨Or.inr rfl, Or.inr rfl, Or.inr rfl, Or.inr rfl, Or.inr rfl, Or.inl rfl, trivial⟩ ?_
          exact hk5 _ _ _ _ _ _ hf
def fX0_yesOverNo_5  : Nat → MH → Nat → Int32 → Int32 → Int32 → Int32 → Option (Int32 × MH)
  | 0 => fun _ _ _ _ _ _ => none
  | n + 1 => bX0_yesOverNo_5  (fX0_yesOverNo_5  n)
theorem tlX0_yesOverNo_5 {r : Int32} {h' : MH}   : ∀ (n : Nat) (h : MH) (a0 : Nat) (x1 : Int32) (x2 : Int32) (x3 : Int32) (x4 : Int32), fX0_yesOverNo_5  n h a0 x1 x2 x3 x4 = some (r, h') → V TT mX0_yesOverNo 2 (some (.int r)) h' h 5 [.ref a0, .int x1, .int x2, .int x3, .int x4, Jk] [] := by
  intro n
  induction n with
  | zero => intro h a0 x1 x2 x3 x4 hf; exact nomatch (show (none : Option (Int32 × MH)) = some (r, h') from hf)
  | succ n ih => intro h a0 x1 x2 x3 x4 hf; exact tX0_yesOverNo_5  (fX0_yesOverNo_5  n) ih hf
def fX0_yesOverNo (h : MH) (a0 : Nat) (x1 : Int32) (x2 : Int32) : Option (Int32 × MH) := fX0_yesOverNo_5 FU h a0 x1 x2 0 0
set_option maxRecDepth 20000 in
theorem tX0_yesOverNo {r : Int32} {h' : MH} {h : MH} {a0 : Nat} {x1 : Int32} {x2 : Int32} (hf : fX0_yesOverNo h a0 x1 x2 = some (r, h')) : VM mX0_yesOverNo 2 (some (.int r)) h' h [.ref a0, .int x1, .int x2] := by
  show V TT mX0_yesOverNo 2 _ h' h 0 [.ref a0, .int x1, .int x2, Jk, Jk, Jk] []
  unfold fX0_yesOverNo at hf
  refine V.iconst (q := 1) (v := 0) (by decide) dX0_yesOverNo_0 rfl ?_
  refine V.istore_n (q := 2) (L' := [.ref a0, .int x1, .int x2, .int 0, Jk, Jk]) rfl dX0_yesOverNo_1 rfl (by decide) rfl rfl ?_
  refine V.iconst (q := 3) (v := 0) (by decide) dX0_yesOverNo_2 rfl ?_
  refine V.istore (q := 5) (L' := [.ref a0, .int x1, .int x2, .int 0, .int 0, Jk]) dX0_yesOverNo_3 rfl (by decide) rfl rfl ?_
  exact tlX0_yesOverNo_5  FU _ _ _ _ _ _ hf
def bX0_behindMonth_4 (k4 : MH → Nat → Int32 → Int32 → Int32 → Option (Int32 × MH)) (h : MH) (a0 : Nat) (x1 : Int32) (x2 : Int32) (x3 : Int32) : Option (Int32 × MH) := bd (gR h a0 0 0) fun b1 => bd (gR h b1 5 1) fun b2 => bd (gI h b2 7 15) fun v3 => if v3 ≤ x3 then (some (x2, h)) else (bd (ck h a0 0) fun _ => bd2 (fX0_yesOverNo h a0 x1 x3) fun v5 h1 => if 0 < v5 then (bd (some (x2 ||| (1 <<< (x3 &&& 31)))) fun v6 => bd (some (x3 + 1)) fun v7 => k4 h1 a0 x1 v6 v7) else (if v5 = 0 then (bd2 (fX11_hasBit h1 x1 x3) fun v6 h2 => if v6 = 0 then (bd (some (x3 + 1)) fun v7 => k4 h2 a0 x1 x2 v7) else (bd (some (x2 ||| (1 <<< (x3 &&& 31)))) fun v7 => bd (some (x3 + 1)) fun v8 => k4 h2 a0 x1 v7 v8)) else (bd (some (x3 + 1)) fun v6 => k4 h1 a0 x1 x2 v6)))
set_option maxRecDepth 20000 in
theorem tX0_behindMonth_4 {r : Int32} {h' : MH} (k4 : MH → Nat → Int32 → Int32 → Int32 → Option (Int32 × MH)) (hk4 : ∀ (h : MH) (a0 : Nat) (x1 : Int32) (x2 : Int32) (x3 : Int32), k4 h a0 x1 x2 x3 = some (r, h') → V TT mX0_behindMonth 3 (some (.int r)) h' h 4 [.ref a0, .int x1, .int x2, .int x3, Jk] [])  {h : MH} {a0 : Nat} {x1 : Int32} {x2 : Int32} {x3 : Int32} (hf : bX0_behindMonth_4 k4 h a0 x1 x2 x3 = some (r, h')) : V TT mX0_behindMonth 3 (some (.int r)) h' h 4 [.ref a0, .int x1, .int x2, .int x3, Jk] [] := by
  unfold bX0_behindMonth_4 at hf
  refine V.iload_n (q := 5) rfl dX0_behindMonth_4 rfl rfl ?_
  refine V.aload_n (q := 6) rfl dX0_behindMonth_5 rfl rfl ?_
  obtain ⟨b1, eb1, hf⟩ := bd_ex hf
  refine V.getR (q := 9) flX0_9 rfl eb1 dX0_behindMonth_6 rfl ?_
  obtain ⟨b2, eb2, hf⟩ := bd_ex hf
  refine V.getR (q := 12) flX0_15 rfl eb2 dX0_behindMonth_9 rfl ?_
  obtain ⟨v3, ev3, hf⟩ := bd_ex hf
  refine V.getI (q := 15) flX0_21 rfl ev3 dX0_behindMonth_12 rfl ?_
  refine V.icmp_ge (q := 18) (tgt := 56) dX0_behindMonth_15 rfl (by decide) (fun c => ?_) (fun c => ?_)
  · rw [if_pos c] at hf
    refine V.iload_n (q := 57) rfl dX0_behindMonth_56 rfl rfl ?_
    obtain ⟨rfl, rfl⟩ := ret_inj hf
    exact V.ret (r := some (.int x2)) trivial dX0_behindMonth_57
  · rw [if_neg c] at hf
    refine V.aload_n (q := 19) rfl dX0_behindMonth_18 rfl rfl ?_
    refine V.iload_n (q := 20) rfl dX0_behindMonth_19 rfl rfl ?_
    refine V.iload_n (q := 21) rfl dX0_behindMonth_20 rfl rfl ?_
    obtain ⟨_, e4, hf⟩ := bd_ex hf
    obtain ⟨v5, h1, eh1, hf⟩ := bd2_ex hf
    refine V.callV (q := 24) (ci := 0) (vs := [.int x1, .int x3]) (st := []) (S2 := [.int v5]) okX0_yesOverNo imX0_yesOverNo seX0_yesOverNo rfl lkX0_27 (tX0_yesOverNo eh1) rfl (ck_is e4) (by decide) rfl (Nat.le_of_ble_eq_true rfl) (Nat.le_of_ble_eq_true rfl) rfl dX0_behindMonth_21 rfl rfl ?_
    refine V.istore (q := 26) (L' := [.ref a0, .int x1, .int x2, .int x3, .int v5]) dX0_behindMonth_24 rfl (by decide) rfl rfl ?_
    refine V.iload (q := 28) dX0_behindMonth_26 rfl rfl ?_
    refine V.if_gt (q := 31) (tgt := 44) dX0_behindMonth_28 rfl (by decide) (fun c => ?_) (fun c => ?_)
    · rw [if_pos c] at hf
      refine V.iload_n (q := 45) rfl dX0_behindMonth_44 rfl rfl ?_
      refine V.iconst (q := 46) (v := 1) (by decide) dX0_behindMonth_45 rfl ?_
      refine V.iload_n (q := 47) rfl dX0_behindMonth_46 rfl rfl ?_
      refine V.ishl (q := 48) dX0_behindMonth_47 rfl ?_
      refine V.ior (q := 49) dX0_behindMonth_48 rfl ?_
      obtain ⟨v6, ev6, hf⟩ := bd_ex hf
      refine V.topI (Option.some.inj ev6) ?_
      refine V.istore_n (q := 50) (L' := [.ref a0, .int x1, .int v6, .int x3, .int v5]) rfl dX0_behindMonth_49 rfl (by decide) rfl rfl ?_
      obtain ⟨v7, ev7, hf⟩ := bd_ex hf
      refine V.iinc (q := 53) (v := v7) (L' := [.ref a0, .int x1, .int v6, .int v7, .int v5]) dX0_behindMonth_50 rfl rfl (Option.some.inj ev7) (by decide) rfl rfl ?_
      refine V.goto (q := 4) dX0_behindMonth_53 (by decide) ?_
      refine V.forget (L' := [.ref a0, .int x1, .int v6, .int v7, Jk]) ⟨Or.inr rfl, Or.inr rfl, Or.inr rfl, Or.inr rfl, Or.inl rfl, trivial⟩ ?_
      exact hk4 _ _ _ _ _ hf
    · rw [if_neg c] at hf
      refine V.iload (q := 33) dX0_behindMonth_31 rfl rfl ?_
      refine V.if_ne (q := 36) (tgt := 50) dX0_behindMonth_33 rfl (by decide) (fun c => ?_) (fun c => ?_)
      · rw [if_neg c] at hf
        obtain ⟨v6, ev6, hf⟩ := bd_ex hf
        refine V.iinc (q := 53) (v := v6) (L' := [.ref a0, .int x1, .int x2, .int v6, .int v5]) dX0_behindMonth_50 rfl rfl (Option.some.inj ev6) (by decide) rfl rfl ?_
        refine V.goto (q := 4) dX0_behindMonth_53 (by decide) ?_
        refine V.forget (L' := [.ref a0, .int x1, .int x2, .int v6, Jk]) ⟨Or.inr rfl, Or.inr rfl, Or.inr rfl, Or.inr rfl, Or.inl rfl, trivial⟩ ?_
        exact hk4 _ _ _ _ _ hf
      · rw [if_pos c] at hf
        refine V.iload_n (q := 37) rfl dX0_behindMonth_36 rfl rfl ?_
        refine V.iload_n (q := 38) rfl dX0_behindMonth_37 rfl rfl ?_
        obtain ⟨v6, h2, eh2, hf⟩ := bd2_ex hf
        refine V.callSN (q := 41) (vs := [.int x1, .int x3]) (st := []) (S2 := [.int v6]) okX11_hasBit stX11_hasBit lnX0_31 (tX11_hasBit eh2) rfl (by decide) rfl (Nat.le_of_ble_eq_true rfl) (Nat.le_of_ble_eq_true rfl) rfl dX0_behindMonth_38 rfl rfl ?_
        refine V.if_eq (q := 44) (tgt := 50) dX0_behindMonth_41 rfl (by decide) (fun c => ?_) (fun c => ?_)
        · rw [if_pos c] at hf
          obtain ⟨v7, ev7, hf⟩ := bd_ex hf
          refine V.iinc (q := 53) (v := v7) (L' := [.ref a0, .int x1, .int x2, .int v7, .int v5]) dX0_behindMonth_50 rfl rfl (Option.some.inj ev7) (by decide) rfl rfl ?_
          refine V.goto (q := 4) dX0_behindMonth_53 (by decide) ?_
          refine V.forget (L' := [.ref a0, .int x1, .int x2, .int v7, Jk]) ⟨Or.inr rfl, Or.inr rfl, Or.inr rfl, Or.inr rfl, Or.inl rfl, trivial⟩ ?_
          exact hk4 _ _ _ _ _ hf
        · rw [if_neg c] at hf
          refine V.iload_n (q := 45) rfl dX0_behindMonth_44 rfl rfl ?_
          refine V.iconst (q := 46) (v := 1) (by decide) dX0_behindMonth_45 rfl ?_
          refine V.iload_n (q := 47) rfl dX0_behindMonth_46 rfl rfl ?_
          refine V.ishl (q := 48) dX0_behindMonth_47 rfl ?_
          refine V.ior (q := 49) dX0_behindMonth_48 rfl ?_
          obtain ⟨v7, ev7, hf⟩ := bd_ex hf
          refine V.topI (Option.some.inj ev7) ?_
          refine V.istore_n (q := 50) (L' := [.ref a0, .int x1, .int v7, .int x3, .int v5]) rfl dX0_behindMonth_49 rfl (by decide) rfl rfl ?_
          obtain ⟨v8, ev8, hf⟩ := bd_ex hf
          refine V.iinc (q := 53) (v := v8) (L' := [.ref a0, .int x1, .int v7, .int v8, .int v5]) dX0_behindMonth_50 rfl rfl (Option.some.inj ev8) (by decide) rfl rfl ?_
          refine V.goto (q := 4) dX0_behindMonth_53 (by decide) ?_
          refine V.forget (L' := [.ref a0, .int x1, .int v7, .int v8, Jk]) ⟨Or.inr rfl, Or.inr rfl, Or.inr rfl, Or.inr rfl, Or.inl rfl, trivial⟩ ?_
          exact hk4 _ _ _ _ _ hf
def fX0_behindMonth_4  : Nat → MH → Nat → Int32 → Int32 → Int32 → Option (Int32 × MH)
  | 0 => fun _ _ _ _ _ => none
  | n + 1 => bX0_behindMonth_4  (fX0_behindMonth_4  n)
theorem tlX0_behindMonth_4 {r : Int32} {h' : MH}   : ∀ (n : Nat) (h : MH) (a0 : Nat) (x1 : Int32) (x2 : Int32) (x3 : Int32), fX0_behindMonth_4  n h a0 x1 x2 x3 = some (r, h') → V TT mX0_behindMonth 3 (some (.int r)) h' h 4 [.ref a0, .int x1, .int x2, .int x3, Jk] [] := by
  intro n
  induction n with
  | zero => intro h a0 x1 x2 x3 hf; exact nomatch (show (none : Option (Int32 × MH)) = some (r, h') from hf)
  | succ n ih => intro h a0 x1 x2 x3 hf; exact tX0_behindMonth_4  (fX0_behindMonth_4  n) ih hf
def fX0_behindMonth (h : MH) (a0 : Nat) (x1 : Int32) : Option (Int32 × MH) := fX0_behindMonth_4 FU h a0 x1 0 0
set_option maxRecDepth 20000 in
theorem tX0_behindMonth {r : Int32} {h' : MH} {h : MH} {a0 : Nat} {x1 : Int32} (hf : fX0_behindMonth h a0 x1 = some (r, h')) : VM mX0_behindMonth 3 (some (.int r)) h' h [.ref a0, .int x1] := by
  show V TT mX0_behindMonth 3 _ h' h 0 [.ref a0, .int x1, Jk, Jk, Jk] []
  unfold fX0_behindMonth at hf
  refine V.iconst (q := 1) (v := 0) (by decide) dX0_behindMonth_0 rfl ?_
  refine V.istore_n (q := 2) (L' := [.ref a0, .int x1, .int 0, Jk, Jk]) rfl dX0_behindMonth_1 rfl (by decide) rfl rfl ?_
  refine V.iconst (q := 3) (v := 0) (by decide) dX0_behindMonth_2 rfl ?_
  refine V.istore_n (q := 4) (L' := [.ref a0, .int x1, .int 0, .int 0, Jk]) rfl dX0_behindMonth_3 rfl (by decide) rfl rfl ?_
  exact tlX0_behindMonth_4  FU _ _ _ _ _ hf
def fX0_stampSets (h : MH) (a0 : Nat) : Option (Int32 × MH) := bd (gR h a0 0 0) fun b1 => bd (gR h b1 5 1) fun b2 => bd (gI h b2 7 15) fun v3 => some ((1 <<< (v3 &&& 31)), h)
set_option maxRecDepth 20000 in
theorem tX0_stampSets {r : Int32} {h' : MH} {h : MH} {a0 : Nat} (hf : fX0_stampSets h a0 = some (r, h')) : VM mX0_stampSets 0 (some (.int r)) h' h [.ref a0] := by
  show V TT mX0_stampSets 0 _ h' h 0 [.ref a0] []
  unfold fX0_stampSets at hf
  refine V.iconst (q := 1) (v := 1) (by decide) dX0_stampSets_0 rfl ?_
  refine V.aload_n (q := 2) rfl dX0_stampSets_1 rfl rfl ?_
  obtain ⟨b1, eb1, hf⟩ := bd_ex hf
  refine V.getR (q := 5) flX0_9 rfl eb1 dX0_stampSets_2 rfl ?_
  obtain ⟨b2, eb2, hf⟩ := bd_ex hf
  refine V.getR (q := 8) flX0_15 rfl eb2 dX0_stampSets_5 rfl ?_
  obtain ⟨v3, ev3, hf⟩ := bd_ex hf
  refine V.getI (q := 11) flX0_21 rfl ev3 dX0_stampSets_8 rfl ?_
  refine V.ishl (q := 12) dX0_stampSets_11 rfl ?_
  obtain ⟨rfl, rfl⟩ := ret_inj hf
  exact V.ret (r := some (.int (1 <<< (v3 &&& 31)))) trivial dX0_stampSets_12
def bX0_goodBehind_9 (k9 : MH → Nat → Int32 → Int32 → Int32 → Option (Int32 × MH)) (h : MH) (a0 : Nat) (x1 : Int32) (x2 : Int32) (x3 : Int32) : Option (Int32 × MH) := if x1 ≤ x3 then (some (x2, h)) else (bd (ck h a0 0) fun _ => bd2 (fX0_behindMonth h a0 x2) fun v2 h1 => bd (some (x3 + 1)) fun v3 => k9 h1 a0 x1 v2 v3)
set_option maxRecDepth 20000 in
theorem tX0_goodBehind_9 {r : Int32} {h' : MH} (k9 : MH → Nat → Int32 → Int32 → Int32 → Option (Int32 × MH)) (hk9 : ∀ (h : MH) (a0 : Nat) (x1 : Int32) (x2 : Int32) (x3 : Int32), k9 h a0 x1 x2 x3 = some (r, h') → V TT mX0_goodBehind 4 (some (.int r)) h' h 9 [.ref a0, .int x1, .int x2, .int x3] [])  {h : MH} {a0 : Nat} {x1 : Int32} {x2 : Int32} {x3 : Int32} (hf : bX0_goodBehind_9 k9 h a0 x1 x2 x3 = some (r, h')) : V TT mX0_goodBehind 4 (some (.int r)) h' h 9 [.ref a0, .int x1, .int x2, .int x3] [] := by
  unfold bX0_goodBehind_9 at hf
  refine V.iload_n (q := 10) rfl dX0_goodBehind_9 rfl rfl ?_
  refine V.iload_n (q := 11) rfl dX0_goodBehind_10 rfl rfl ?_
  refine V.icmp_ge (q := 14) (tgt := 26) dX0_goodBehind_11 rfl (by decide) (fun c => ?_) (fun c => ?_)
  · rw [if_pos c] at hf
    refine V.iload_n (q := 27) rfl dX0_goodBehind_26 rfl rfl ?_
    obtain ⟨rfl, rfl⟩ := ret_inj hf
    exact V.ret (r := some (.int x2)) trivial dX0_goodBehind_27
  · rw [if_neg c] at hf
    refine V.aload_n (q := 15) rfl dX0_goodBehind_14 rfl rfl ?_
    refine V.iload_n (q := 16) rfl dX0_goodBehind_15 rfl rfl ?_
    obtain ⟨_, e1, hf⟩ := bd_ex hf
    obtain ⟨v2, h1, eh1, hf⟩ := bd2_ex hf
    refine V.callV (q := 19) (ci := 0) (vs := [.int x2]) (st := []) (S2 := [.int v2]) okX0_behindMonth imX0_behindMonth seX0_behindMonth rfl lkX0_46 (tX0_behindMonth eh1) rfl (ck_is e1) (by decide) rfl (Nat.le_of_ble_eq_true rfl) (Nat.le_of_ble_eq_true rfl) rfl dX0_goodBehind_16 rfl rfl ?_
    refine V.istore_n (q := 20) (L' := [.ref a0, .int x1, .int v2, .int x3]) rfl dX0_goodBehind_19 rfl (by decide) rfl rfl ?_
    obtain ⟨v3, ev3, hf⟩ := bd_ex hf
    refine V.iinc (q := 23) (v := v3) (L' := [.ref a0, .int x1, .int v2, .int v3]) dX0_goodBehind_20 rfl rfl (Option.some.inj ev3) (by decide) rfl rfl ?_
    refine V.goto (q := 9) dX0_goodBehind_23 (by decide) ?_
    exact hk9 _ _ _ _ _ hf
def fX0_goodBehind_9  : Nat → MH → Nat → Int32 → Int32 → Int32 → Option (Int32 × MH)
  | 0 => fun _ _ _ _ _ => none
  | n + 1 => bX0_goodBehind_9  (fX0_goodBehind_9  n)
theorem tlX0_goodBehind_9 {r : Int32} {h' : MH}   : ∀ (n : Nat) (h : MH) (a0 : Nat) (x1 : Int32) (x2 : Int32) (x3 : Int32), fX0_goodBehind_9  n h a0 x1 x2 x3 = some (r, h') → V TT mX0_goodBehind 4 (some (.int r)) h' h 9 [.ref a0, .int x1, .int x2, .int x3] [] := by
  intro n
  induction n with
  | zero => intro h a0 x1 x2 x3 hf; exact nomatch (show (none : Option (Int32 × MH)) = some (r, h') from hf)
  | succ n ih => intro h a0 x1 x2 x3 hf; exact tX0_goodBehind_9  (fX0_goodBehind_9  n) ih hf
def fX0_goodBehind (h : MH) (a0 : Nat) (x1 : Int32) : Option (Int32 × MH) := bd (ck h a0 0) fun _ => bd2 (fX0_stampSets h a0 ) fun v2 h1 => bd (some (v2 - 1)) fun v3 => fX0_goodBehind_9 FU h1 a0 x1 v3 0
set_option maxRecDepth 20000 in
theorem tX0_goodBehind {r : Int32} {h' : MH} {h : MH} {a0 : Nat} {x1 : Int32} (hf : fX0_goodBehind h a0 x1 = some (r, h')) : VM mX0_goodBehind 4 (some (.int r)) h' h [.ref a0, .int x1] := by
  show V TT mX0_goodBehind 4 _ h' h 0 [.ref a0, .int x1, Jk, Jk] []
  unfold fX0_goodBehind at hf
  refine V.aload_n (q := 1) rfl dX0_goodBehind_0 rfl rfl ?_
  obtain ⟨_, e1, hf⟩ := bd_ex hf
  obtain ⟨v2, h1, eh1, hf⟩ := bd2_ex hf
  refine V.callV (q := 4) (ci := 0) (vs := []) (st := []) (S2 := [.int v2]) okX0_stampSets imX0_stampSets seX0_stampSets rfl lkX0_42 (tX0_stampSets eh1) rfl (ck_is e1) (by decide) rfl (Nat.le_of_ble_eq_true rfl) (Nat.le_of_ble_eq_true rfl) rfl dX0_goodBehind_1 rfl rfl ?_
  refine V.iconst (q := 5) (v := 1) (by decide) dX0_goodBehind_4 rfl ?_
  refine V.isub (q := 6) dX0_goodBehind_5 rfl ?_
  obtain ⟨v3, ev3, hf⟩ := bd_ex hf
  refine V.topI (Option.some.inj ev3) ?_
  refine V.istore_n (q := 7) (L' := [.ref a0, .int x1, .int v3, Jk]) rfl dX0_goodBehind_6 rfl (by decide) rfl rfl ?_
  refine V.iconst (q := 8) (v := 0) (by decide) dX0_goodBehind_7 rfl ?_
  refine V.istore_n (q := 9) (L' := [.ref a0, .int x1, .int v3, .int 0]) rfl dX0_goodBehind_8 rfl (by decide) rfl rfl ?_
  exact tlX0_goodBehind_9  FU _ _ _ _ _ hf
def fX0_init (h : MH) (a0 : Nat) (a1 : Nat) : Option (MH) := bd (pR h a0 0 0 a1) fun h1 => some h1
set_option maxRecDepth 20000 in
theorem tX0_init {h' : MH} {h : MH} {a0 : Nat} {a1 : Nat} (hf : fX0_init h a0 a1 = some h') : VM mX0_init 1 none h' h [.ref a0, .ref a1] := by
  show V TT mX0_init 1 _ h' h 0 [.ref a0, .ref a1] []
  unfold fX0_init at hf
  refine V.aload_n (q := 1) rfl dX0_init_0 rfl rfl ?_
  refine V.objInit (q := 4) oiX0_3 (by decide) (Nat.le_of_ble_eq_true rfl) dX0_init_1 rfl ?_
  refine V.aload_n (q := 5) rfl dX0_init_4 rfl rfl ?_
  refine V.aload_n (q := 6) rfl dX0_init_5 rfl rfl ?_
  obtain ⟨h1, eh1, hf⟩ := bd_ex hf
  refine V.putR (q := 9) (fqX0_9 rfl rfl) rfl eh1 dX0_init_6 rfl ?_
  cases hf
  exact V.ret (r := none) trivial dX0_init_9
def bX0_monthsToSettle_9 (k9 : MH → Nat → Int32 → Int32 → Option (Int32 × MH)) (h : MH) (a0 : Nat) (x1 : Int32) (x2 : Int32) : Option (Int32 × MH) := if 20 < x2 then (some ((-2), h)) else (bd (ck h a0 0) fun _ => bd2 (fX0_behindMonth h a0 x1) fun v2 h1 => if v2 = x1 then (some (x2, h1)) else (bd (some (x2 + 1)) fun v3 => k9 h1 a0 v2 v3))
set_option maxRecDepth 20000 in
theorem tX0_monthsToSettle_9 {r : Int32} {h' : MH} (k9 : MH → Nat → Int32 → Int32 → Option (Int32 × MH)) (hk9 : ∀ (h : MH) (a0 : Nat) (x1 : Int32) (x2 : Int32), k9 h a0 x1 x2 = some (r, h') → V TT mX0_monthsToSettle 4 (some (.int r)) h' h 9 [.ref a0, .int x1, .int x2, Jk] [])  {h : MH} {a0 : Nat} {x1 : Int32} {x2 : Int32} (hf : bX0_monthsToSettle_9 k9 h a0 x1 x2 = some (r, h')) : V TT mX0_monthsToSettle 4 (some (.int r)) h' h 9 [.ref a0, .int x1, .int x2, Jk] [] := by
  unfold bX0_monthsToSettle_9 at hf
  refine V.iload_n (q := 10) rfl dX0_monthsToSettle_9 rfl rfl ?_
  refine V.bipush (q := 12) (v := 20) (by decide) dX0_monthsToSettle_10 rfl ?_
  refine V.icmp_gt (q := 15) (tgt := 36) dX0_monthsToSettle_12 rfl (by decide) (fun c => ?_) (fun c => ?_)
  · rw [if_pos c] at hf
    refine V.bipush (q := 38) (v := (-2)) (by decide) dX0_monthsToSettle_36 rfl ?_
    obtain ⟨rfl, rfl⟩ := ret_inj hf
    exact V.ret (r := some (.int (-2))) trivial dX0_monthsToSettle_38
  · rw [if_neg c] at hf
    refine V.aload_n (q := 16) rfl dX0_monthsToSettle_15 rfl rfl ?_
    refine V.iload_n (q := 17) rfl dX0_monthsToSettle_16 rfl rfl ?_
    obtain ⟨_, e1, hf⟩ := bd_ex hf
    obtain ⟨v2, h1, eh1, hf⟩ := bd2_ex hf
    refine V.callV (q := 20) (ci := 0) (vs := [.int x1]) (st := []) (S2 := [.int v2]) okX0_behindMonth imX0_behindMonth seX0_behindMonth rfl lkX0_46 (tX0_behindMonth eh1) rfl (ck_is e1) (by decide) rfl (Nat.le_of_ble_eq_true rfl) (Nat.le_of_ble_eq_true rfl) rfl dX0_monthsToSettle_17 rfl rfl ?_
    refine V.istore_n (q := 21) (L' := [.ref a0, .int x1, .int x2, .int v2]) rfl dX0_monthsToSettle_20 rfl (by decide) rfl rfl ?_
    refine V.iload_n (q := 22) rfl dX0_monthsToSettle_21 rfl rfl ?_
    refine V.iload_n (q := 23) rfl dX0_monthsToSettle_22 rfl rfl ?_
    refine V.icmp_ne (q := 26) (tgt := 28) dX0_monthsToSettle_23 rfl (by decide) (fun c => ?_) (fun c => ?_)
    · rw [if_neg c] at hf
      refine V.iload_n (q := 29) rfl dX0_monthsToSettle_28 rfl rfl ?_
      refine V.istore_n (q := 30) (L' := [.ref a0, .int v2, .int x2, .int v2]) rfl dX0_monthsToSettle_29 rfl (by decide) rfl rfl ?_
      obtain ⟨v3, ev3, hf⟩ := bd_ex hf
      refine V.iinc (q := 33) (v := v3) (L' := [.ref a0, .int v2, .int v3, .int v2]) dX0_monthsToSettle_30 rfl rfl (Option.some.inj ev3) (by decide) rfl rfl ?_
      refine V.goto (q := 9) dX0_monthsToSettle_33 (by decide) ?_
      refine V.forget (L' := [.ref a0, .int v2, .int v3, Jk]) ⟨Or.inr rfl, Or.inr rfl, Or.inr rfl, Or.inl rfl, trivial⟩ ?_
      exact hk9 _ _ _ _ hf
    · rw [if_pos c] at hf
      refine V.iload_n (q := 27) rfl dX0_monthsToSettle_26 rfl rfl ?_
      obtain ⟨rfl, rfl⟩ := ret_inj hf
      exact V.ret (r := some (.int x2)) trivial dX0_monthsToSettle_27
def fX0_monthsToSettle_9  : Nat → MH → Nat → Int32 → Int32 → Option (Int32 × MH)
  | 0 => fun _ _ _ _ => none
  | n + 1 => bX0_monthsToSettle_9  (fX0_monthsToSettle_9  n)
theorem tlX0_monthsToSettle_9 {r : Int32} {h' : MH}   : ∀ (n : Nat) (h : MH) (a0 : Nat) (x1 : Int32) (x2 : Int32), fX0_monthsToSettle_9  n h a0 x1 x2 = some (r, h') → V TT mX0_monthsToSettle 4 (some (.int r)) h' h 9 [.ref a0, .int x1, .int x2, Jk] [] := by
  intro n
  induction n with
  | zero => intro h a0 x1 x2 hf; exact nomatch (show (none : Option (Int32 × MH)) = some (r, h') from hf)
  | succ n ih => intro h a0 x1 x2 hf; exact tX0_monthsToSettle_9  (fX0_monthsToSettle_9  n) ih hf
def fX0_monthsToSettle (h : MH) (a0 : Nat) : Option (Int32 × MH) := bd (ck h a0 0) fun _ => bd2 (fX0_stampSets h a0 ) fun v2 h1 => bd (some (v2 - 1)) fun v3 => fX0_monthsToSettle_9 FU h1 a0 v3 0
set_option maxRecDepth 20000 in
theorem tX0_monthsToSettle {r : Int32} {h' : MH} {h : MH} {a0 : Nat} (hf : fX0_monthsToSettle h a0 = some (r, h')) : VM mX0_monthsToSettle 4 (some (.int r)) h' h [.ref a0] := by
  show V TT mX0_monthsToSettle 4 _ h' h 0 [.ref a0, Jk, Jk, Jk] []
  unfold fX0_monthsToSettle at hf
  refine V.aload_n (q := 1) rfl dX0_monthsToSettle_0 rfl rfl ?_
  obtain ⟨_, e1, hf⟩ := bd_ex hf
  obtain ⟨v2, h1, eh1, hf⟩ := bd2_ex hf
  refine V.callV (q := 4) (ci := 0) (vs := []) (st := []) (S2 := [.int v2]) okX0_stampSets imX0_stampSets seX0_stampSets rfl lkX0_42 (tX0_stampSets eh1) rfl (ck_is e1) (by decide) rfl (Nat.le_of_ble_eq_true rfl) (Nat.le_of_ble_eq_true rfl) rfl dX0_monthsToSettle_1 rfl rfl ?_
  refine V.iconst (q := 5) (v := 1) (by decide) dX0_monthsToSettle_4 rfl ?_
  refine V.isub (q := 6) dX0_monthsToSettle_5 rfl ?_
  obtain ⟨v3, ev3, hf⟩ := bd_ex hf
  refine V.topI (Option.some.inj ev3) ?_
  refine V.istore_n (q := 7) (L' := [.ref a0, .int v3, Jk, Jk]) rfl dX0_monthsToSettle_6 rfl (by decide) rfl rfl ?_
  refine V.iconst (q := 8) (v := 0) (by decide) dX0_monthsToSettle_7 rfl ?_
  refine V.istore_n (q := 9) (L' := [.ref a0, .int v3, .int 0, Jk]) rfl dX0_monthsToSettle_8 rfl (by decide) rfl rfl ?_
  exact tlX0_monthsToSettle_9  FU _ _ _ _ hf
def bX0_unchangedSets_4 (k4 : MH → Nat → Int32 → Int32 → Option (Int32 × MH)) (h : MH) (a0 : Nat) (x1 : Int32) (x2 : Int32) : Option (Int32 × MH) := bd (ck h a0 0) fun _ => bd2 (fX0_stampSets h a0 ) fun v2 h1 => if v2 ≤ x2 then (some (x1, h1)) else (bd (ck h1 a0 0) fun _ => bd2 (fX0_behindMonth h1 a0 x2) fun v4 h2 => if v4 = x2 then (bd (some (x1 + 1)) fun v5 => bd (some (x2 + 1)) fun v6 => k4 h2 a0 v5 v6) else (bd (some (x2 + 1)) fun v5 => k4 h2 a0 x1 v5))
set_option maxRecDepth 20000 in
theorem tX0_unchangedSets_4 {r : Int32} {h' : MH} (k4 : MH → Nat → Int32 → Int32 → Option (Int32 × MH)) (hk4 : ∀ (h : MH) (a0 : Nat) (x1 : Int32) (x2 : Int32), k4 h a0 x1 x2 = some (r, h') → V TT mX0_unchangedSets 4 (some (.int r)) h' h 4 [.ref a0, .int x1, .int x2] [])  {h : MH} {a0 : Nat} {x1 : Int32} {x2 : Int32} (hf : bX0_unchangedSets_4 k4 h a0 x1 x2 = some (r, h')) : V TT mX0_unchangedSets 4 (some (.int r)) h' h 4 [.ref a0, .int x1, .int x2] [] := by
  unfold bX0_unchangedSets_4 at hf
  refine V.iload_n (q := 5) rfl dX0_unchangedSets_4 rfl rfl ?_
  refine V.aload_n (q := 6) rfl dX0_unchangedSets_5 rfl rfl ?_
  obtain ⟨_, e1, hf⟩ := bd_ex hf
  obtain ⟨v2, h1, eh1, hf⟩ := bd2_ex hf
  refine V.callV (q := 9) (ci := 0) (vs := []) (st := [.int x2]) (S2 := [.int v2, .int x2]) okX0_stampSets imX0_stampSets seX0_stampSets rfl lkX0_42 (tX0_stampSets eh1) rfl (ck_is e1) (by decide) rfl (Nat.le_of_ble_eq_true rfl) (Nat.le_of_ble_eq_true rfl) rfl dX0_unchangedSets_6 rfl rfl ?_
  refine V.icmp_ge (q := 12) (tgt := 30) dX0_unchangedSets_9 rfl (by decide) (fun c => ?_) (fun c => ?_)
  · rw [if_pos c] at hf
    refine V.iload_n (q := 31) rfl dX0_unchangedSets_30 rfl rfl ?_
    obtain ⟨rfl, rfl⟩ := ret_inj hf
    exact V.ret (r := some (.int x1)) trivial dX0_unchangedSets_31
  · rw [if_neg c] at hf
    refine V.aload_n (q := 13) rfl dX0_unchangedSets_12 rfl rfl ?_
    refine V.iload_n (q := 14) rfl dX0_unchangedSets_13 rfl rfl ?_
    obtain ⟨_, e3, hf⟩ := bd_ex hf
    obtain ⟨v4, h2, eh2, hf⟩ := bd2_ex hf
    refine V.callV (q := 17) (ci := 0) (vs := [.int x2]) (st := []) (S2 := [.int v4]) okX0_behindMonth imX0_behindMonth seX0_behindMonth rfl lkX0_46 (tX0_behindMonth eh2) rfl (ck_is e3) (by decide) rfl (Nat.le_of_ble_eq_true rfl) (Nat.le_of_ble_eq_true rfl) rfl dX0_unchangedSets_14 rfl rfl ?_
    refine V.iload_n (q := 18) rfl dX0_unchangedSets_17 rfl rfl ?_
    refine V.icmp_ne (q := 21) (tgt := 24) dX0_unchangedSets_18 rfl (by decide) (fun c => ?_) (fun c => ?_)
    · rw [if_neg c] at hf
      obtain ⟨v5, ev5, hf⟩ := bd_ex hf
      refine V.iinc (q := 27) (v := v5) (L' := [.ref a0, .int x1, .int v5]) dX0_unchangedSets_24 rfl rfl (Option.some.inj ev5) (by decide) rfl rfl ?_
      refine V.goto (q := 4) dX0_unchangedSets_27 (by decide) ?_
      exact hk4 _ _ _ _ hf
    · rw [if_pos c] at hf
      obtain ⟨v5, ev5, hf⟩ := bd_ex hf
      refine V.iinc (q := 24) (v := v5) (L' := [.ref a0, .int v5, .int x2]) dX0_unchangedSets_21 rfl rfl (Option.some.inj ev5) (by decide) rfl rfl ?_
      obtain ⟨v6, ev6, hf⟩ := bd_ex hf
      refine V.iinc (q := 27) (v := v6) (L' := [.ref a0, .int v5, .int v6]) dX0_unchangedSets_24 rfl rfl (Option.some.inj ev6) (by decide) rfl rfl ?_
      refine V.goto (q := 4) dX0_unchangedSets_27 (by decide) ?_
      exact hk4 _ _ _ _ hf
def fX0_unchangedSets_4  : Nat → MH → Nat → Int32 → Int32 → Option (Int32 × MH)
  | 0 => fun _ _ _ _ => none
  | n + 1 => bX0_unchangedSets_4  (fX0_unchangedSets_4  n)
theorem tlX0_unchangedSets_4 {r : Int32} {h' : MH}   : ∀ (n : Nat) (h : MH) (a0 : Nat) (x1 : Int32) (x2 : Int32), fX0_unchangedSets_4  n h a0 x1 x2 = some (r, h') → V TT mX0_unchangedSets 4 (some (.int r)) h' h 4 [.ref a0, .int x1, .int x2] [] := by
  intro n
  induction n with
  | zero => intro h a0 x1 x2 hf; exact nomatch (show (none : Option (Int32 × MH)) = some (r, h') from hf)
  | succ n ih => intro h a0 x1 x2 hf; exact tX0_unchangedSets_4  (fX0_unchangedSets_4  n) ih hf
def fX0_unchangedSets (h : MH) (a0 : Nat) : Option (Int32 × MH) := fX0_unchangedSets_4 FU h a0 0 0
set_option maxRecDepth 20000 in
theorem tX0_unchangedSets {r : Int32} {h' : MH} {h : MH} {a0 : Nat} (hf : fX0_unchangedSets h a0 = some (r, h')) : VM mX0_unchangedSets 4 (some (.int r)) h' h [.ref a0] := by
  show V TT mX0_unchangedSets 4 _ h' h 0 [.ref a0, Jk, Jk] []
  unfold fX0_unchangedSets at hf
  refine V.iconst (q := 1) (v := 0) (by decide) dX0_unchangedSets_0 rfl ?_
  refine V.istore_n (q := 2) (L' := [.ref a0, .int 0, Jk]) rfl dX0_unchangedSets_1 rfl (by decide) rfl rfl ?_
  refine V.iconst (q := 3) (v := 0) (by decide) dX0_unchangedSets_2 rfl ?_
  refine V.istore_n (q := 4) (L' := [.ref a0, .int 0, .int 0]) rfl dX0_unchangedSets_3 rfl (by decide) rfl rfl ?_
  exact tlX0_unchangedSets_4  FU _ _ _ _ hf
def bX10_sortAt_35  (h : MH) (x2 : Int32) : Option (Int32 × MH) := if x2 = 59 then (some (3, h)) else (if x2 = 44 then (some (4, h)) else (some (5, h)))
set_option maxRecDepth 20000 in
theorem tX10_sortAt_35 {r : Int32} {h' : MH}   {h : MH} {x2 : Int32} (hf : bX10_sortAt_35  h x2 = some (r, h')) : V TT mX10_sortAt 0 (some (.int r)) h' h 35 [Jk, Jk, .int x2] [] := by
  unfold bX10_sortAt_35 at hf
  refine V.iload_n (q := 36) rfl dX10_sortAt_35 rfl rfl ?_
  refine V.bipush (q := 38) (v := 59) (by decide) dX10_sortAt_36 rfl ?_
  refine V.icmp_ne (q := 41) (tgt := 45) dX10_sortAt_38 rfl (by decide) (fun c => ?_) (fun c => ?_)
  · rw [if_neg c] at hf
    refine V.iload_n (q := 46) rfl dX10_sortAt_45 rfl rfl ?_
    refine V.bipush (q := 48) (v := 44) (by decide) dX10_sortAt_46 rfl ?_
    refine V.icmp_ne (q := 51) (tgt := 55) dX10_sortAt_48 rfl (by decide) (fun c => ?_) (fun c => ?_)
    · rw [if_neg c] at hf
      refine V.iconst (q := 56) (v := 5) (by decide) dX10_sortAt_55 rfl ?_
      obtain ⟨rfl, rfl⟩ := ret_inj hf
      exact V.ret (r := some (.int 5)) trivial dX10_sortAt_56
    · rw [if_pos c] at hf
      refine V.iconst (q := 52) (v := 4) (by decide) dX10_sortAt_51 rfl ?_
      refine V.goto (q := 56) dX10_sortAt_52 (by decide) ?_
      obtain ⟨rfl, rfl⟩ := ret_inj hf
      exact V.ret (r := some (.int 4)) trivial dX10_sortAt_56
  · rw [if_pos c] at hf
    refine V.iconst (q := 42) (v := 3) (by decide) dX10_sortAt_41 rfl ?_
    refine V.goto (q := 56) dX10_sortAt_42 (by decide) ?_
    obtain ⟨rfl, rfl⟩ := ret_inj hf
    exact V.ret (r := some (.int 3)) trivial dX10_sortAt_56
def bX10_sortAt_21  (h : MH) (x2 : Int32) : Option (Int32 × MH) := if x2 < 48 then (bX10_sortAt_35 h x2) else (if 57 < x2 then (bX10_sortAt_35 h x2) else (some (2, h)))
set_option maxRecDepth 20000 in
theorem tX10_sortAt_21 {r : Int32} {h' : MH}   {h : MH} {x2 : Int32} (hf : bX10_sortAt_21  h x2 = some (r, h')) : V TT mX10_sortAt 0 (some (.int r)) h' h 21 [Jk, Jk, .int x2] [] := by
  unfold bX10_sortAt_21 at hf
  refine V.iload_n (q := 22) rfl dX10_sortAt_21 rfl rfl ?_
  refine V.bipush (q := 24) (v := 48) (by decide) dX10_sortAt_22 rfl ?_
  refine V.icmp_lt (q := 27) (tgt := 35) dX10_sortAt_24 rfl (by decide) (fun c => ?_) (fun c => ?_)
  · rw [if_pos c] at hf
    exact tX10_sortAt_35  hf
  · rw [if_neg c] at hf
    refine V.iload_n (q := 28) rfl dX10_sortAt_27 rfl rfl ?_
    refine V.bipush (q := 30) (v := 57) (by decide) dX10_sortAt_28 rfl ?_
    refine V.icmp_gt (q := 33) (tgt := 35) dX10_sortAt_30 rfl (by decide) (fun c => ?_) (fun c => ?_)
    · rw [if_pos c] at hf
      exact tX10_sortAt_35  hf
    · rw [if_neg c] at hf
      refine V.iconst (q := 34) (v := 2) (by decide) dX10_sortAt_33 rfl ?_
      obtain ⟨rfl, rfl⟩ := ret_inj hf
      exact V.ret (r := some (.int 2)) trivial dX10_sortAt_34
def fX10_sortAt (h : MH) (a0 : Nat) (x1 : Int32) : Option (Int32 × MH) := bd (gR h a0 10 0) fun b1 => bd (lB h b1 x1) fun v2 => if v2 < 97 then (bX10_sortAt_21 h v2) else (if 122 < v2 then (bX10_sortAt_21 h v2) else (some (1, h)))
set_option maxRecDepth 20000 in
theorem tX10_sortAt {r : Int32} {h' : MH} {h : MH} {a0 : Nat} {x1 : Int32} (hf : fX10_sortAt h a0 x1 = some (r, h')) : VM mX10_sortAt 0 (some (.int r)) h' h [.ref a0, .int x1] := by
  show V TT mX10_sortAt 0 _ h' h 0 [.ref a0, .int x1, Jk] []
  unfold fX10_sortAt at hf
  refine V.aload_n (q := 1) rfl dX10_sortAt_0 rfl rfl ?_
  obtain ⟨b1, eb1, hf⟩ := bd_ex hf
  refine V.getR (q := 4) flX10_11 rfl eb1 dX10_sortAt_1 rfl ?_
  refine V.iload_n (q := 5) rfl dX10_sortAt_4 rfl rfl ?_
  obtain ⟨v2, ev2, hf⟩ := bd_ex hf
  refine V.bald (q := 6) ev2 dX10_sortAt_5 rfl ?_
  refine V.istore_n (q := 7) (L' := [.ref a0, .int x1, .int v2]) rfl dX10_sortAt_6 rfl (by decide) rfl rfl ?_
  refine V.iload_n (q := 8) rfl dX10_sortAt_7 rfl rfl ?_
  refine V.bipush (q := 10) (v := 97) (by decide) dX10_sortAt_8 rfl ?_
  refine V.icmp_lt (q := 13) (tgt := 21) dX10_sortAt_10 rfl (by decide) (fun c => ?_) (fun c => ?_)
  · rw [if_pos c] at hf
    refine V.forget (L' := [Jk, Jk, .int v2]) ⟨Or.inl rfl, Or.inl rfl, Or.inr rfl, trivial⟩ ?_
    exact tX10_sortAt_21  hf
  · rw [if_neg c] at hf
    refine V.iload_n (q := 14) rfl dX10_sortAt_13 rfl rfl ?_
    refine V.bipush (q := 16) (v := 122) (by decide) dX10_sortAt_14 rfl ?_
    refine V.icmp_gt (q := 19) (tgt := 21) dX10_sortAt_16 rfl (by decide) (fun c => ?_) (fun c => ?_)
    · rw [if_pos c] at hf
      refine V.forget (L' := [Jk, Jk, .int v2]) ⟨Or.inl rfl, Or.inl rfl, Or.inr rfl, trivial⟩ ?_
      exact tX10_sortAt_21  hf
    · rw [if_neg c] at hf
      refine V.iconst (q := 20) (v := 1) (by decide) dX10_sortAt_19 rfl ?_
      obtain ⟨rfl, rfl⟩ := ret_inj hf
      exact V.ret (r := some (.int 1)) trivial dX10_sortAt_20
def bX10_spelling_7 (k7 : MH → Nat → Int64 → Int32 → Option (Int64 × MH)) (h : MH) (a0 : Nat) (y1 : Int64) (x3 : Int32) : Option (Int64 × MH) := bd (gI h a0 10 5) fun v1 => if v1 ≤ x3 then (some (y1, h)) else (bd (gR h a0 10 0) fun b2 => bd (lB h b2 x3) fun v3 => bd (some ((y1 <<< (Int32.toInt64 5 &&& 63)) ||| (Int32.toInt64 (v3 &&& 31)))) fun w4 => bd (some (x3 + 1)) fun v5 => k7 h a0 w4 v5)
set_option maxRecDepth 20000 in
theorem tX10_spelling_7 {r : Int64} {h' : MH} (k7 : MH → Nat → Int64 → Int32 → Option (Int64 × MH)) (hk7 : ∀ (h : MH) (a0 : Nat) (y1 : Int64) (x3 : Int32), k7 h a0 y1 x3 = some (r, h') → V TT mX10_spelling 0 (some (.long r)) h' h 7 [.ref a0, .long y1, Jk, .int x3] [])  {h : MH} {a0 : Nat} {y1 : Int64} {x3 : Int32} (hf : bX10_spelling_7 k7 h a0 y1 x3 = some (r, h')) : V TT mX10_spelling 0 (some (.long r)) h' h 7 [.ref a0, .long y1, Jk, .int x3] [] := by
  unfold bX10_spelling_7 at hf
  refine V.iload_n (q := 8) rfl dX10_spelling_7 rfl rfl ?_
  refine V.aload_n (q := 9) rfl dX10_spelling_8 rfl rfl ?_
  obtain ⟨v1, ev1, hf⟩ := bd_ex hf
  refine V.getI (q := 12) flX10_22 rfl ev1 dX10_spelling_9 rfl ?_
  refine V.icmp_ge (q := 15) (tgt := 36) dX10_spelling_12 rfl (by decide) (fun c => ?_) (fun c => ?_)
  · rw [if_pos c] at hf
    refine V.lload_n (q := 37) rfl dX10_spelling_36 rfl rfl ?_
    obtain ⟨rfl, rfl⟩ := ret_inj hf
    exact V.ret (r := some (.long y1)) trivial dX10_spelling_37
  · rw [if_neg c] at hf
    refine V.lload_n (q := 16) rfl dX10_spelling_15 rfl rfl ?_
    refine V.iconst (q := 17) (v := 5) (by decide) dX10_spelling_16 rfl ?_
    refine V.lshl (q := 18) dX10_spelling_17 rfl ?_
    refine V.aload_n (q := 19) rfl dX10_spelling_18 rfl rfl ?_
    obtain ⟨b2, eb2, hf⟩ := bd_ex hf
    refine V.getR (q := 22) flX10_11 rfl eb2 dX10_spelling_19 rfl ?_
    refine V.iload_n (q := 23) rfl dX10_spelling_22 rfl rfl ?_
    obtain ⟨v3, ev3, hf⟩ := bd_ex hf
    refine V.bald (q := 24) ev3 dX10_spelling_23 rfl ?_
    refine V.bipush (q := 26) (v := 31) (by decide) dX10_spelling_24 rfl ?_
    refine V.iand (q := 27) dX10_spelling_26 rfl ?_
    refine V.i2l (q := 28) dX10_spelling_27 rfl ?_
    refine V.lor (q := 29) dX10_spelling_28 rfl ?_
    obtain ⟨w4, ew4, hf⟩ := bd_ex hf
    refine V.topL (Option.some.inj ew4) ?_
    refine V.lstore_n (q := 30) (L' := [.ref a0, .long w4, Jk, .int x3]) rfl dX10_spelling_29 rfl (by decide) rfl rfl ?_
    obtain ⟨v5, ev5, hf⟩ := bd_ex hf
    refine V.iinc (q := 33) (v := v5) (L' := [.ref a0, .long w4, Jk, .int v5]) dX10_spelling_30 rfl rfl (Option.some.inj ev5) (by decide) rfl rfl ?_
    refine V.goto (q := 7) dX10_spelling_33 (by decide) ?_
    exact hk7 _ _ _ _ hf
def fX10_spelling_7  : Nat → MH → Nat → Int64 → Int32 → Option (Int64 × MH)
  | 0 => fun _ _ _ _ => none
  | n + 1 => bX10_spelling_7  (fX10_spelling_7  n)
theorem tlX10_spelling_7 {r : Int64} {h' : MH}   : ∀ (n : Nat) (h : MH) (a0 : Nat) (y1 : Int64) (x3 : Int32), fX10_spelling_7  n h a0 y1 x3 = some (r, h') → V TT mX10_spelling 0 (some (.long r)) h' h 7 [.ref a0, .long y1, Jk, .int x3] [] := by
  intro n
  induction n with
  | zero => intro h a0 y1 x3 hf; exact nomatch (show (none : Option (Int64 × MH)) = some (r, h') from hf)
  | succ n ih => intro h a0 y1 x3 hf; exact tX10_spelling_7  (fX10_spelling_7  n) ih hf
def fX10_spelling (h : MH) (a0 : Nat) : Option (Int64 × MH) := bd (gI h a0 10 4) fun v1 => fX10_spelling_7 FU h a0 0 v1
set_option maxRecDepth 20000 in
theorem tX10_spelling {r : Int64} {h' : MH} {h : MH} {a0 : Nat} (hf : fX10_spelling h a0 = some (r, h')) : VM mX10_spelling 0 (some (.long r)) h' h [.ref a0] := by
  show V TT mX10_spelling 0 _ h' h 0 [.ref a0, Jk, Jk, Jk] []
  unfold fX10_spelling at hf
  refine V.lconst (q := 1) (v := 0) (by decide) dX10_spelling_0 rfl ?_
  refine V.lstore_n (q := 2) (L' := [.ref a0, .long 0, Jk, Jk]) rfl dX10_spelling_1 rfl (by decide) rfl rfl ?_
  refine V.aload_n (q := 3) rfl dX10_spelling_2 rfl rfl ?_
  obtain ⟨v1, ev1, hf⟩ := bd_ex hf
  refine V.getI (q := 6) flX10_28 rfl ev1 dX10_spelling_3 rfl ?_
  refine V.istore_n (q := 7) (L' := [.ref a0, .long 0, Jk, .int v1]) rfl dX10_spelling_6 rfl (by decide) rfl rfl ?_
  exact tlX10_spelling_7  FU _ _ _ _ hf
def bX10_advance_201  (h : MH) (a0 : Nat) : Option (MH) := bd (gI h a0 10 3) fun v1 => if v1 = 1 then (bd (ck h a0 10) fun _ => bd2 (fX10_spelling h a0 ) fun w3 h1 => bd (pJ h1 a0 10 6 w3) fun h2 => some h2) else (bd (pJ h a0 10 6 0) fun h1 => some h1)
set_option maxRecDepth 20000 in
theorem tX10_advance_201 {h' : MH}   {h : MH} {a0 : Nat} (hf : bX10_advance_201  h a0 = some h') : V TT mX10_advance 1 none h' h 201 [.ref a0] [] := by
  unfold bX10_advance_201 at hf
  refine V.aload_n (q := 202) rfl dX10_advance_201 rfl rfl ?_
  refine V.aload_n (q := 203) rfl dX10_advance_202 rfl rfl ?_
  obtain ⟨v1, ev1, hf⟩ := bd_ex hf
  refine V.getI (q := 206) flX10_31 rfl ev1 dX10_advance_203 rfl ?_
  refine V.iconst (q := 207) (v := 1) (by decide) dX10_advance_206 rfl ?_
  refine V.icmp_ne (q := 210) (tgt := 217) dX10_advance_207 rfl (by decide) (fun c => ?_) (fun c => ?_)
  · rw [if_neg c] at hf
    refine V.lconst (q := 218) (v := 0) (by decide) dX10_advance_217 rfl ?_
    obtain ⟨h1, eh1, hf⟩ := bd_ex hf
    refine V.putJ (q := 221) (fpX10_34 rfl) rfl eh1 dX10_advance_218 rfl ?_
    cases hf
    exact V.ret (r := none) trivial dX10_advance_221
  · rw [if_pos c] at hf
    refine V.aload_n (q := 211) rfl dX10_advance_210 rfl rfl ?_
    obtain ⟨_, e2, hf⟩ := bd_ex hf
    obtain ⟨w3, h1, eh1, hf⟩ := bd2_ex hf
    refine V.callV (q := 214) (ci := 10) (vs := []) (st := [.ref a0]) (S2 := [.long w3, .ref a0]) okX10_spelling imX10_spelling seX10_spelling rfl lkX10_42 (tX10_spelling eh1) rfl (ck_is e2) (by decide) rfl (Nat.le_of_ble_eq_true rfl) (Nat.le_of_ble_eq_true rfl) rfl dX10_advance_211 rfl rfl ?_
    refine V.goto (q := 218) dX10_advance_214 (by decide) ?_
    obtain ⟨h2, eh2, hf⟩ := bd_ex hf
    refine V.putJ (q := 221) (fpX10_34 rfl) rfl eh2 dX10_advance_218 rfl ?_
    cases hf
    exact V.ret (r := none) trivial dX10_advance_221
def bX10_advance_175  (h : MH) (a0 : Nat) : Option (MH) := bd (gI h a0 10 3) fun v1 => if v1 = 2 then (bd (gI h a0 10 5) fun v2 => bd (gI h a0 10 4) fun v3 => if (v2 - v3) ≤ 3 then (bX10_advance_201 h a0) else (bd (pI h a0 10 3 5) fun h1 => bX10_advance_201 h1 a0)) else (bX10_advance_201 h a0)
set_option maxRecDepth 20000 in
theorem tX10_advance_175 {h' : MH}   {h : MH} {a0 : Nat} (hf : bX10_advance_175  h a0 = some h') : V TT mX10_advance 1 none h' h 175 [.ref a0] [] := by
  unfold bX10_advance_175 at hf
  refine V.aload_n (q := 176) rfl dX10_advance_175 rfl rfl ?_
  obtain ⟨v1, ev1, hf⟩ := bd_ex hf
  refine V.getI (q := 179) flX10_31 rfl ev1 dX10_advance_176 rfl ?_
  refine V.iconst (q := 180) (v := 2) (by decide) dX10_advance_179 rfl ?_
  refine V.icmp_ne (q := 183) (tgt := 201) dX10_advance_180 rfl (by decide) (fun c => ?_) (fun c => ?_)
  · rw [if_neg c] at hf
    exact tX10_advance_201  hf
  · rw [if_pos c] at hf
    refine V.aload_n (q := 184) rfl dX10_advance_183 rfl rfl ?_
    obtain ⟨v2, ev2, hf⟩ := bd_ex hf
    refine V.getI (q := 187) flX10_22 rfl ev2 dX10_advance_184 rfl ?_
    refine V.aload_n (q := 188) rfl dX10_advance_187 rfl rfl ?_
    obtain ⟨v3, ev3, hf⟩ := bd_ex hf
    refine V.getI (q := 191) flX10_28 rfl ev3 dX10_advance_188 rfl ?_
    refine V.isub (q := 192) dX10_advance_191 rfl ?_
    refine V.iconst (q := 193) (v := 3) (by decide) dX10_advance_192 rfl ?_
    refine V.icmp_le (q := 196) (tgt := 201) dX10_advance_193 rfl (by decide) (fun c => ?_) (fun c => ?_)
    · rw [if_pos c] at hf
      exact tX10_advance_201  hf
    · rw [if_neg c] at hf
      refine V.aload_n (q := 197) rfl dX10_advance_196 rfl rfl ?_
      refine V.iconst (q := 198) (v := 5) (by decide) dX10_advance_197 rfl ?_
      obtain ⟨h1, eh1, hf⟩ := bd_ex hf
      refine V.putI (q := 201) (fpX10_31 rfl) rfl eh1 dX10_advance_198 rfl ?_
      exact tX10_advance_201  hf
def bX10_advance_153  (h : MH) (a0 : Nat) : Option (MH) := bd (gI h a0 10 3) fun v1 => if v1 = 1 then (bd (gI h a0 10 5) fun v2 => bd (gI h a0 10 4) fun v3 => if 8 < (v2 - v3) then (bd (pI h a0 10 3 5) fun h1 => bX10_advance_201 h1 a0) else (bX10_advance_175 h a0)) else (bX10_advance_175 h a0)
set_option maxRecDepth 20000 in
theorem tX10_advance_153 {h' : MH}   {h : MH} {a0 : Nat} (hf : bX10_advance_153  h a0 = some h') : V TT mX10_advance 1 none h' h 153 [.ref a0] [] := by
  unfold bX10_advance_153 at hf
  refine V.aload_n (q := 154) rfl dX10_advance_153 rfl rfl ?_
  obtain ⟨v1, ev1, hf⟩ := bd_ex hf
  refine V.getI (q := 157) flX10_31 rfl ev1 dX10_advance_154 rfl ?_
  refine V.iconst (q := 158) (v := 1) (by decide) dX10_advance_157 rfl ?_
  refine V.icmp_ne (q := 161) (tgt := 175) dX10_advance_158 rfl (by decide) (fun c => ?_) (fun c => ?_)
  · rw [if_neg c] at hf
    exact tX10_advance_175  hf
  · rw [if_pos c] at hf
    refine V.aload_n (q := 162) rfl dX10_advance_161 rfl rfl ?_
    obtain ⟨v2, ev2, hf⟩ := bd_ex hf
    refine V.getI (q := 165) flX10_22 rfl ev2 dX10_advance_162 rfl ?_
    refine V.aload_n (q := 166) rfl dX10_advance_165 rfl rfl ?_
    obtain ⟨v3, ev3, hf⟩ := bd_ex hf
    refine V.getI (q := 169) flX10_28 rfl ev3 dX10_advance_166 rfl ?_
    refine V.isub (q := 170) dX10_advance_169 rfl ?_
    refine V.bipush (q := 172) (v := 8) (by decide) dX10_advance_170 rfl ?_
    refine V.icmp_gt (q := 175) (tgt := 196) dX10_advance_172 rfl (by decide) (fun c => ?_) (fun c => ?_)
    · rw [if_pos c] at hf
      refine V.aload_n (q := 197) rfl dX10_advance_196 rfl rfl ?_
      refine V.iconst (q := 198) (v := 5) (by decide) dX10_advance_197 rfl ?_
      obtain ⟨h1, eh1, hf⟩ := bd_ex hf
      refine V.putI (q := 201) (fpX10_31 rfl) rfl eh1 dX10_advance_198 rfl ?_
      exact tX10_advance_201  hf
    · rw [if_neg c] at hf
      exact tX10_advance_175  hf
def bX10_advance_114 (k98 : MH → Nat → Option (MH)) (h : MH) (a0 : Nat) : Option (MH) := bd (gI h a0 10 5) fun v1 => bd (gI h a0 10 2) fun v2 => if v2 ≤ v1 then (bX10_advance_153 h a0) else (bd (gI h a0 10 5) fun v3 => bd (ck h a0 10) fun _ => bd2 (fX10_sortAt h a0 v3) fun v5 h1 => bd (gI h1 a0 10 3) fun v6 => if v5 = v6 then (bd (gI h1 a0 10 5) fun v7 => bd (pI h1 a0 10 5 (v7 + 1)) fun h2 => k98 h2 a0) else (bX10_advance_153 h1 a0))
set_option maxRecDepth 20000 in
theorem tX10_advance_114 {h' : MH} (k98 : MH → Nat → Option (MH)) (hk98 : ∀ (h : MH) (a0 : Nat), k98 h a0 = some h' → V TT mX10_advance 1 none h' h 98 [.ref a0] [])  {h : MH} {a0 : Nat} (hf : bX10_advance_114 k98 h a0 = some h') : V TT mX10_advance 1 none h' h 114 [.ref a0] [] := by
  unfold bX10_advance_114 at hf
  refine V.aload_n (q := 115) rfl dX10_advance_114 rfl rfl ?_
  obtain ⟨v1, ev1, hf⟩ := bd_ex hf
  refine V.getI (q := 118) flX10_22 rfl ev1 dX10_advance_115 rfl ?_
  refine V.aload_n (q := 119) rfl dX10_advance_118 rfl rfl ?_
  obtain ⟨v2, ev2, hf⟩ := bd_ex hf
  refine V.getI (q := 122) flX10_19 rfl ev2 dX10_advance_119 rfl ?_
  refine V.icmp_ge (q := 125) (tgt := 153) dX10_advance_122 rfl (by decide) (fun c => ?_) (fun c => ?_)
  · rw [if_pos c] at hf
    exact tX10_advance_153  hf
  · rw [if_neg c] at hf
    refine V.aload_n (q := 126) rfl dX10_advance_125 rfl rfl ?_
    refine V.aload_n (q := 127) rfl dX10_advance_126 rfl rfl ?_
    obtain ⟨v3, ev3, hf⟩ := bd_ex hf
    refine V.getI (q := 130) flX10_22 rfl ev3 dX10_advance_127 rfl ?_
    obtain ⟨_, e4, hf⟩ := bd_ex hf
    obtain ⟨v5, h1, eh1, hf⟩ := bd2_ex hf
    refine V.callV (q := 133) (ci := 10) (vs := [.int v3]) (st := []) (S2 := [.int v5]) okX10_sortAt imX10_sortAt seX10_sortAt rfl lkX10_38 (tX10_sortAt eh1) rfl (ck_is e4) (by decide) rfl (Nat.le_of_ble_eq_true rfl) (Nat.le_of_ble_eq_true rfl) rfl dX10_advance_130 rfl rfl ?_
    refine V.aload_n (q := 134) rfl dX10_advance_133 rfl rfl ?_
    obtain ⟨v6, ev6, hf⟩ := bd_ex hf
    refine V.getI (q := 137) flX10_31 rfl ev6 dX10_advance_134 rfl ?_
    refine V.icmp_ne (q := 140) (tgt := 153) dX10_advance_137 rfl (by decide) (fun c => ?_) (fun c => ?_)
    · rw [if_neg c] at hf
      exact tX10_advance_153  hf
    · rw [if_pos c] at hf
      refine V.aload_n (q := 141) rfl dX10_advance_140 rfl rfl ?_
      refine V.dupR (q := 142) dX10_advance_141 rfl ?_
      obtain ⟨v7, ev7, hf⟩ := bd_ex hf
      refine V.getI (q := 145) flX10_22 rfl ev7 dX10_advance_142 rfl ?_
      refine V.iconst (q := 146) (v := 1) (by decide) dX10_advance_145 rfl ?_
      refine V.iadd (q := 147) dX10_advance_146 rfl ?_
      obtain ⟨h2, eh2, hf⟩ := bd_ex hf
      refine V.putI (q := 150) (fpX10_22 rfl) rfl eh2 dX10_advance_147 rfl ?_
      refine V.goto (q := 98) dX10_advance_150 (by decide) ?_
      exact hk98 _ _ hf
def bX10_advance_98 (k98 : MH → Nat → Option (MH)) (h : MH) (a0 : Nat) : Option (MH) := bd (gI h a0 10 3) fun v1 => if v1 = 1 then (bX10_advance_114 k98 h a0) else (bd (gI h a0 10 3) fun v2 => if v2 = 2 then (bX10_advance_114 k98 h a0) else (bX10_advance_153 h a0))
set_option maxRecDepth 20000 in
theorem tX10_advance_98 {h' : MH} (k98 : MH → Nat → Option (MH)) (hk98 : ∀ (h : MH) (a0 : Nat), k98 h a0 = some h' → V TT mX10_advance 1 none h' h 98 [.ref a0] [])  {h : MH} {a0 : Nat} (hf : bX10_advance_98 k98 h a0 = some h') : V TT mX10_advance 1 none h' h 98 [.ref a0] [] := by
  unfold bX10_advance_98 at hf
  refine V.aload_n (q := 99) rfl dX10_advance_98 rfl rfl ?_
  obtain ⟨v1, ev1, hf⟩ := bd_ex hf
  refine V.getI (q := 102) flX10_31 rfl ev1 dX10_advance_99 rfl ?_
  refine V.iconst (q := 103) (v := 1) (by decide) dX10_advance_102 rfl ?_
  refine V.icmp_eq (q := 106) (tgt := 114) dX10_advance_103 rfl (by decide) (fun c => ?_) (fun c => ?_)
  · rw [if_pos c] at hf
    exact tX10_advance_114 k98 hk98 hf
  · rw [if_neg c] at hf
    refine V.aload_n (q := 107) rfl dX10_advance_106 rfl rfl ?_
    obtain ⟨v2, ev2, hf⟩ := bd_ex hf
    refine V.getI (q := 110) flX10_31 rfl ev2 dX10_advance_107 rfl ?_
    refine V.iconst (q := 111) (v := 2) (by decide) dX10_advance_110 rfl ?_
    refine V.icmp_ne (q := 114) (tgt := 153) dX10_advance_111 rfl (by decide) (fun c => ?_) (fun c => ?_)
    · rw [if_neg c] at hf
      exact tX10_advance_153  hf
    · rw [if_pos c] at hf
      exact tX10_advance_114 k98 hk98 hf
def fX10_advance_98  : Nat → MH → Nat → Option (MH)
  | 0 => fun _ _ => none
  | n + 1 => bX10_advance_98  (fX10_advance_98  n)
theorem tlX10_advance_98 {h' : MH}   : ∀ (n : Nat) (h : MH) (a0 : Nat), fX10_advance_98  n h a0 = some h' → V TT mX10_advance 1 none h' h 98 [.ref a0] [] := by
  intro n
  induction n with
  | zero => intro h a0 hf; exact nomatch (show (none : Option (MH)) = some h' from hf)
  | succ n ih => intro h a0 hf; exact tX10_advance_98  (fX10_advance_98  n) ih hf
def bX10_advance_46  (h : MH) (a0 : Nat) : Option (MH) := bd (gI h a0 10 4) fun v1 => bd (pI h a0 10 5 v1) fun h1 => bd (gI h1 a0 10 4) fun v2 => bd (gI h1 a0 10 2) fun v3 => if v2 < v3 then (bd (gI h1 a0 10 4) fun v4 => bd (ck h1 a0 10) fun _ => bd2 (fX10_sortAt h1 a0 v4) fun v6 h2 => bd (pI h2 a0 10 3 v6) fun h3 => bd (gI h3 a0 10 4) fun v7 => bd (pI h3 a0 10 5 (v7 + 1)) fun h4 => fX10_advance_98 FU h4 a0) else (bd (pI h1 a0 10 3 0) fun h2 => bd (pJ h2 a0 10 6 0) fun h3 => some h3)
set_option maxRecDepth 20000 in
theorem tX10_advance_46 {h' : MH}   {h : MH} {a0 : Nat} (hf : bX10_advance_46  h a0 = some h') : V TT mX10_advance 1 none h' h 46 [.ref a0] [] := by
  unfold bX10_advance_46 at hf
  refine V.aload_n (q := 47) rfl dX10_advance_46 rfl rfl ?_
  refine V.aload_n (q := 48) rfl dX10_advance_47 rfl rfl ?_
  obtain ⟨v1, ev1, hf⟩ := bd_ex hf
  refine V.getI (q := 51) flX10_28 rfl ev1 dX10_advance_48 rfl ?_
  obtain ⟨h1, eh1, hf⟩ := bd_ex hf
  refine V.putI (q := 54) (fpX10_22 rfl) rfl eh1 dX10_advance_51 rfl ?_
  refine V.aload_n (q := 55) rfl dX10_advance_54 rfl rfl ?_
  obtain ⟨v2, ev2, hf⟩ := bd_ex hf
  refine V.getI (q := 58) flX10_28 rfl ev2 dX10_advance_55 rfl ?_
  refine V.aload_n (q := 59) rfl dX10_advance_58 rfl rfl ?_
  obtain ⟨v3, ev3, hf⟩ := bd_ex hf
  refine V.getI (q := 62) flX10_19 rfl ev3 dX10_advance_59 rfl ?_
  refine V.icmp_lt (q := 65) (tgt := 76) dX10_advance_62 rfl (by decide) (fun c => ?_) (fun c => ?_)
  · rw [if_pos c] at hf
    refine V.aload_n (q := 77) rfl dX10_advance_76 rfl rfl ?_
    refine V.aload_n (q := 78) rfl dX10_advance_77 rfl rfl ?_
    refine V.aload_n (q := 79) rfl dX10_advance_78 rfl rfl ?_
    obtain ⟨v4, ev4, hf⟩ := bd_ex hf
    refine V.getI (q := 82) flX10_28 rfl ev4 dX10_advance_79 rfl ?_
    obtain ⟨_, e5, hf⟩ := bd_ex hf
    obtain ⟨v6, h2, eh2, hf⟩ := bd2_ex hf
    refine V.callV (q := 85) (ci := 10) (vs := [.int v4]) (st := [.ref a0]) (S2 := [.int v6, .ref a0]) okX10_sortAt imX10_sortAt seX10_sortAt rfl lkX10_38 (tX10_sortAt eh2) rfl (ck_is e5) (by decide) rfl (Nat.le_of_ble_eq_true rfl) (Nat.le_of_ble_eq_true rfl) rfl dX10_advance_82 rfl rfl ?_
    obtain ⟨h3, eh3, hf⟩ := bd_ex hf
    refine V.putI (q := 88) (fpX10_31 rfl) rfl eh3 dX10_advance_85 rfl ?_
    refine V.aload_n (q := 89) rfl dX10_advance_88 rfl rfl ?_
    refine V.aload_n (q := 90) rfl dX10_advance_89 rfl rfl ?_
    obtain ⟨v7, ev7, hf⟩ := bd_ex hf
    refine V.getI (q := 93) flX10_28 rfl ev7 dX10_advance_90 rfl ?_
    refine V.iconst (q := 94) (v := 1) (by decide) dX10_advance_93 rfl ?_
    refine V.iadd (q := 95) dX10_advance_94 rfl ?_
    obtain ⟨h4, eh4, hf⟩ := bd_ex hf
    refine V.putI (q := 98) (fpX10_22 rfl) rfl eh4 dX10_advance_95 rfl ?_
    exact tlX10_advance_98  FU _ _ hf
  · rw [if_neg c] at hf
    refine V.aload_n (q := 66) rfl dX10_advance_65 rfl rfl ?_
    refine V.iconst (q := 67) (v := 0) (by decide) dX10_advance_66 rfl ?_
    obtain ⟨h2, eh2, hf⟩ := bd_ex hf
    refine V.putI (q := 70) (fpX10_31 rfl) rfl eh2 dX10_advance_67 rfl ?_
    refine V.aload_n (q := 71) rfl dX10_advance_70 rfl rfl ?_
    refine V.lconst (q := 72) (v := 0) (by decide) dX10_advance_71 rfl ?_
    obtain ⟨h3, eh3, hf⟩ := bd_ex hf
    refine V.putJ (q := 75) (fpX10_34 rfl) rfl eh3 dX10_advance_72 rfl ?_
    cases hf
    exact V.ret (r := none) trivial dX10_advance_75
def bX10_advance_8 (k8 : MH → Nat → Option (MH)) (h : MH) (a0 : Nat) : Option (MH) := bd (gI h a0 10 4) fun v1 => bd (gI h a0 10 2) fun v2 => if v2 ≤ v1 then (bX10_advance_46 h a0) else (bd (gR h a0 10 0) fun b3 => bd (gI h a0 10 4) fun v4 => bd (lB h b3 v4) fun v5 => if v5 = 32 then (bd (gI h a0 10 4) fun v6 => bd (pI h a0 10 4 (v6 + 1)) fun h1 => k8 h1 a0) else (bX10_advance_46 h a0))
set_option maxRecDepth 20000 in
theorem tX10_advance_8 {h' : MH} (k8 : MH → Nat → Option (MH)) (hk8 : ∀ (h : MH) (a0 : Nat), k8 h a0 = some h' → V TT mX10_advance 1 none h' h 8 [.ref a0] [])  {h : MH} {a0 : Nat} (hf : bX10_advance_8 k8 h a0 = some h') : V TT mX10_advance 1 none h' h 8 [.ref a0] [] := by
  unfold bX10_advance_8 at hf
  refine V.aload_n (q := 9) rfl dX10_advance_8 rfl rfl ?_
  obtain ⟨v1, ev1, hf⟩ := bd_ex hf
  refine V.getI (q := 12) flX10_28 rfl ev1 dX10_advance_9 rfl ?_
  refine V.aload_n (q := 13) rfl dX10_advance_12 rfl rfl ?_
  obtain ⟨v2, ev2, hf⟩ := bd_ex hf
  refine V.getI (q := 16) flX10_19 rfl ev2 dX10_advance_13 rfl ?_
  refine V.icmp_ge (q := 19) (tgt := 46) dX10_advance_16 rfl (by decide) (fun c => ?_) (fun c => ?_)
  · rw [if_pos c] at hf
    exact tX10_advance_46  hf
  · rw [if_neg c] at hf
    refine V.aload_n (q := 20) rfl dX10_advance_19 rfl rfl ?_
    obtain ⟨b3, eb3, hf⟩ := bd_ex hf
    refine V.getR (q := 23) flX10_11 rfl eb3 dX10_advance_20 rfl ?_
    refine V.aload_n (q := 24) rfl dX10_advance_23 rfl rfl ?_
    obtain ⟨v4, ev4, hf⟩ := bd_ex hf
    refine V.getI (q := 27) flX10_28 rfl ev4 dX10_advance_24 rfl ?_
    obtain ⟨v5, ev5, hf⟩ := bd_ex hf
    refine V.bald (q := 28) ev5 dX10_advance_27 rfl ?_
    refine V.bipush (q := 30) (v := 32) (by decide) dX10_advance_28 rfl ?_
    refine V.icmp_ne (q := 33) (tgt := 46) dX10_advance_30 rfl (by decide) (fun c => ?_) (fun c => ?_)
    · rw [if_neg c] at hf
      exact tX10_advance_46  hf
    · rw [if_pos c] at hf
      refine V.aload_n (q := 34) rfl dX10_advance_33 rfl rfl ?_
      refine V.dupR (q := 35) dX10_advance_34 rfl ?_
      obtain ⟨v6, ev6, hf⟩ := bd_ex hf
      refine V.getI (q := 38) flX10_28 rfl ev6 dX10_advance_35 rfl ?_
      refine V.iconst (q := 39) (v := 1) (by decide) dX10_advance_38 rfl ?_
      refine V.iadd (q := 40) dX10_advance_39 rfl ?_
      obtain ⟨h1, eh1, hf⟩ := bd_ex hf
      refine V.putI (q := 43) (fpX10_28 rfl) rfl eh1 dX10_advance_40 rfl ?_
      refine V.goto (q := 8) dX10_advance_43 (by decide) ?_
      exact hk8 _ _ hf
def fX10_advance_8  : Nat → MH → Nat → Option (MH)
  | 0 => fun _ _ => none
  | n + 1 => bX10_advance_8  (fX10_advance_8  n)
theorem tlX10_advance_8 {h' : MH}   : ∀ (n : Nat) (h : MH) (a0 : Nat), fX10_advance_8  n h a0 = some h' → V TT mX10_advance 1 none h' h 8 [.ref a0] [] := by
  intro n
  induction n with
  | zero => intro h a0 hf; exact nomatch (show (none : Option (MH)) = some h' from hf)
  | succ n ih => intro h a0 hf; exact tX10_advance_8  (fX10_advance_8  n) ih hf
def fX10_advance (h : MH) (a0 : Nat) : Option (MH) := bd (gI h a0 10 5) fun v1 => bd (pI h a0 10 4 v1) fun h1 => fX10_advance_8 FU h1 a0
set_option maxRecDepth 20000 in
theorem tX10_advance {h' : MH} {h : MH} {a0 : Nat} (hf : fX10_advance h a0 = some h') : VM mX10_advance 1 none h' h [.ref a0] := by
  show V TT mX10_advance 1 _ h' h 0 [.ref a0] []
  unfold fX10_advance at hf
  refine V.aload_n (q := 1) rfl dX10_advance_0 rfl rfl ?_
  refine V.aload_n (q := 2) rfl dX10_advance_1 rfl rfl ?_
  obtain ⟨v1, ev1, hf⟩ := bd_ex hf
  refine V.getI (q := 5) flX10_22 rfl ev1 dX10_advance_2 rfl ?_
  obtain ⟨h1, eh1, hf⟩ := bd_ex hf
  refine V.putI (q := 8) (fpX10_28 rfl) rfl eh1 dX10_advance_5 rfl ?_
  exact tlX10_advance_8  FU _ _ hf
def fX10_begin (h : MH) (a0 : Nat) (x1 : Int32) : Option (MH) := bd (pI h a0 10 2 x1) fun h1 => bd (pI h1 a0 10 5 0) fun h2 => bd (ck h2 a0 10) fun _ => bd (fX10_advance h2 a0 ) fun h3 => some h3
set_option maxRecDepth 20000 in
theorem tX10_begin {h' : MH} {h : MH} {a0 : Nat} {x1 : Int32} (hf : fX10_begin h a0 x1 = some h') : VM mX10_begin 2 none h' h [.ref a0, .int x1] := by
  show V TT mX10_begin 2 _ h' h 0 [.ref a0, .int x1] []
  unfold fX10_begin at hf
  refine V.aload_n (q := 1) rfl dX10_begin_0 rfl rfl ?_
  refine V.iload_n (q := 2) rfl dX10_begin_1 rfl rfl ?_
  obtain ⟨h1, eh1, hf⟩ := bd_ex hf
  refine V.putI (q := 5) (fpX10_19 rfl) rfl eh1 dX10_begin_2 rfl ?_
  refine V.aload_n (q := 6) rfl dX10_begin_5 rfl rfl ?_
  refine V.iconst (q := 7) (v := 0) (by decide) dX10_begin_6 rfl ?_
  obtain ⟨h2, eh2, hf⟩ := bd_ex hf
  refine V.putI (q := 10) (fpX10_22 rfl) rfl eh2 dX10_begin_7 rfl ?_
  refine V.aload_n (q := 11) rfl dX10_begin_10 rfl rfl ?_
  obtain ⟨_, e1, hf⟩ := bd_ex hf
  obtain ⟨h3, eh3, hf⟩ := bd_ex hf
  refine V.callV (q := 14) (ci := 10) (vs := []) (st := []) (S2 := []) okX10_advance imX10_advance seX10_advance rfl lkX10_25 (tX10_advance eh3) rfl (ck_is e1) (by decide) rfl (Nat.le_of_ble_eq_true rfl) (Nat.le_of_ble_eq_true rfl) rfl dX10_begin_11 rfl rfl ?_
  cases hf
  exact V.ret (r := none) trivial dX10_begin_14
def bX10_choice_2 (k2 : MH → Nat → Nat → Int32 → Option (Int32 × MH)) (h : MH) (a0 : Nat) (a1 : Nat) (x2 : Int32) : Option (Int32 × MH) := bd (nA h a1) fun v1 => if v1 ≤ x2 then (some ((-1), h)) else (bd (lJ h a1 x2) fun w2 => bd (gJ h a0 10 6) fun w3 => if (lg_cmp w2 w3) = 0 then (some (x2, h)) else (bd (some (x2 + 1)) fun v4 => k2 h a0 a1 v4))
set_option maxRecDepth 20000 in
theorem tX10_choice_2 {r : Int32} {h' : MH} (k2 : MH → Nat → Nat → Int32 → Option (Int32 × MH)) (hk2 : ∀ (h : MH) (a0 : Nat) (a1 : Nat) (x2 : Int32), k2 h a0 a1 x2 = some (r, h') → V TT mX10_choice 0 (some (.int r)) h' h 2 [.ref a0, .ref a1, .int x2] [])  {h : MH} {a0 : Nat} {a1 : Nat} {x2 : Int32} (hf : bX10_choice_2 k2 h a0 a1 x2 = some (r, h')) : V TT mX10_choice 0 (some (.int r)) h' h 2 [.ref a0, .ref a1, .int x2] [] := by
  unfold bX10_choice_2 at hf
  refine V.iload_n (q := 3) rfl dX10_choice_2 rfl rfl ?_
  refine V.aload_n (q := 4) rfl dX10_choice_3 rfl rfl ?_
  obtain ⟨v1, ev1, hf⟩ := bd_ex hf
  refine V.alen (q := 5) ev1 dX10_choice_4 rfl ?_
  refine V.icmp_ge (q := 8) (tgt := 27) dX10_choice_5 rfl (by decide) (fun c => ?_) (fun c => ?_)
  · rw [if_pos c] at hf
    refine V.iconst (q := 28) (v := (-1)) (by decide) dX10_choice_27 rfl ?_
    obtain ⟨rfl, rfl⟩ := ret_inj hf
    exact V.ret (r := some (.int (-1))) trivial dX10_choice_28
  · rw [if_neg c] at hf
    refine V.aload_n (q := 9) rfl dX10_choice_8 rfl rfl ?_
    refine V.iload_n (q := 10) rfl dX10_choice_9 rfl rfl ?_
    obtain ⟨w2, ew2, hf⟩ := bd_ex hf
    refine V.lald (q := 11) ew2 dX10_choice_10 rfl ?_
    refine V.aload_n (q := 12) rfl dX10_choice_11 rfl rfl ?_
    obtain ⟨w3, ew3, hf⟩ := bd_ex hf
    refine V.getJ (q := 15) flX10_34 rfl ew3 dX10_choice_12 rfl ?_
    refine V.lcmp (q := 16) dX10_choice_15 rfl ?_
    refine V.if_ne (q := 19) (tgt := 21) dX10_choice_16 rfl (by decide) (fun c => ?_) (fun c => ?_)
    · rw [if_neg c] at hf
      obtain ⟨v4, ev4, hf⟩ := bd_ex hf
      refine V.iinc (q := 24) (v := v4) (L' := [.ref a0, .ref a1, .int v4]) dX10_choice_21 rfl rfl (Option.some.inj ev4) (by decide) rfl rfl ?_
      refine V.goto (q := 2) dX10_choice_24 (by decide) ?_
      exact hk2 _ _ _ _ hf
    · rw [if_pos c] at hf
      refine V.iload_n (q := 20) rfl dX10_choice_19 rfl rfl ?_
      obtain ⟨rfl, rfl⟩ := ret_inj hf
      exact V.ret (r := some (.int x2)) trivial dX10_choice_20
def fX10_choice_2  : Nat → MH → Nat → Nat → Int32 → Option (Int32 × MH)
  | 0 => fun _ _ _ _ => none
  | n + 1 => bX10_choice_2  (fX10_choice_2  n)
theorem tlX10_choice_2 {r : Int32} {h' : MH}   : ∀ (n : Nat) (h : MH) (a0 : Nat) (a1 : Nat) (x2 : Int32), fX10_choice_2  n h a0 a1 x2 = some (r, h') → V TT mX10_choice 0 (some (.int r)) h' h 2 [.ref a0, .ref a1, .int x2] [] := by
  intro n
  induction n with
  | zero => intro h a0 a1 x2 hf; exact nomatch (show (none : Option (Int32 × MH)) = some (r, h') from hf)
  | succ n ih => intro h a0 a1 x2 hf; exact tX10_choice_2  (fX10_choice_2  n) ih hf
def fX10_choice (h : MH) (a0 : Nat) (a1 : Nat) : Option (Int32 × MH) := fX10_choice_2 FU h a0 a1 0
set_option maxRecDepth 20000 in
theorem tX10_choice {r : Int32} {h' : MH} {h : MH} {a0 : Nat} {a1 : Nat} (hf : fX10_choice h a0 a1 = some (r, h')) : VM mX10_choice 0 (some (.int r)) h' h [.ref a0, .ref a1] := by
  show V TT mX10_choice 0 _ h' h 0 [.ref a0, .ref a1, Jk] []
  unfold fX10_choice at hf
  refine V.iconst (q := 1) (v := 0) (by decide) dX10_choice_0 rfl ?_
  refine V.istore_n (q := 2) (L' := [.ref a0, .ref a1, .int 0]) rfl dX10_choice_1 rfl (by decide) rfl rfl ?_
  exact tlX10_choice_2  FU _ _ _ _ hf
def fX10_hasRoom (h : MH) (a0 : Nat) : Option (Int32 × MH) := bd (gI h a0 10 1) fun v1 => if 900 < (v1 + 20) then (some (0, h)) else (some (1, h))
set_option maxRecDepth 20000 in
theorem tX10_hasRoom {r : Int32} {h' : MH} {h : MH} {a0 : Nat} (hf : fX10_hasRoom h a0 = some (r, h')) : VM mX10_hasRoom 0 (some (.int r)) h' h [.ref a0] := by
  show V TT mX10_hasRoom 0 _ h' h 0 [.ref a0] []
  unfold fX10_hasRoom at hf
  refine V.aload_n (q := 1) rfl dX10_hasRoom_0 rfl rfl ?_
  obtain ⟨v1, ev1, hf⟩ := bd_ex hf
  refine V.getI (q := 4) flX10_15 rfl ev1 dX10_hasRoom_1 rfl ?_
  refine V.bipush (q := 6) (v := 20) (by decide) dX10_hasRoom_4 rfl ?_
  refine V.iadd (q := 7) dX10_hasRoom_6 rfl ?_
  refine V.sipush (q := 10) (v := 900) (by decide) dX10_hasRoom_7 rfl ?_
  refine V.icmp_gt (q := 13) (tgt := 17) dX10_hasRoom_10 rfl (by decide) (fun c => ?_) (fun c => ?_)
  · rw [if_pos c] at hf
    refine V.iconst (q := 18) (v := 0) (by decide) dX10_hasRoom_17 rfl ?_
    obtain ⟨rfl, rfl⟩ := ret_inj hf
    exact V.ret (r := some (.int 0)) (Or.inl rfl) dX10_hasRoom_18
  · rw [if_neg c] at hf
    refine V.iconst (q := 14) (v := 1) (by decide) dX10_hasRoom_13 rfl ?_
    refine V.goto (q := 18) dX10_hasRoom_14 (by decide) ?_
    obtain ⟨rfl, rfl⟩ := ret_inj hf
    exact V.ret (r := some (.int 1)) (Or.inr rfl) dX10_hasRoom_18
def fX10_init (h : MH) (a0 : Nat) : Option (MH) := bd2 (nO2 h 14 900) fun b1 h1 => bd (pR h1 a0 10 0 b1) fun h2 => some h2
set_option maxRecDepth 20000 in
theorem tX10_init {h' : MH} {h : MH} {a0 : Nat} (hf : fX10_init h a0 = some h') : VM mX10_init 1 none h' h [.ref a0] := by
  show V TT mX10_init 1 _ h' h 0 [.ref a0] []
  unfold fX10_init at hf
  refine V.aload_n (q := 1) rfl dX10_init_0 rfl rfl ?_
  refine V.objInit (q := 4) oiX10_3 (by decide) (Nat.le_of_ble_eq_true rfl) dX10_init_1 rfl ?_
  refine V.aload_n (q := 5) rfl dX10_init_4 rfl rfl ?_
  refine V.sipush (q := 8) (v := 900) (by decide) dX10_init_5 rfl ?_
  obtain ⟨b1, h1, eh1, hf⟩ := bd2_ex hf
  obtain ⟨rfl, rfl⟩ := ret_inj eh1
  refine V.newB (q := 10) (N := 900) (by decide) (by decide) (by decide) dX10_init_8 rfl ?_
  generalize hqh1 : nC h 14 900 = h1 at hf ⊢
  generalize hph1 : h.2.2.2.length = b1 at hf ⊢
  obtain ⟨h2, eh2, hf⟩ := bd_ex hf
  refine V.putR (q := 13) (fqX10_11 rfl rfl) rfl eh2 dX10_init_10 rfl ?_
  cases hf
  exact V.ret (r := none) trivial dX10_init_13
def bX10_put_3 (k3 : MH → Nat → Int32 → Int32 → Option (MH)) (h : MH) (a0 : Nat) (x1 : Int32) (x2 : Int32) : Option (MH) := if x2 < 0 then (some h) else (bd (gI h a0 10 1) fun v1 => if 900 ≤ v1 then (bd (some (x2 + (-8))) fun v2 => k3 h a0 x1 v2) else (bd (gR h a0 10 0) fun b2 => bd (gI h a0 10 1) fun v3 => bd (tB h b2 v3 (Int8.toInt32 (Int32.toInt8 (x1 >>> (x2 &&& 31))))) fun h1 => bd (gI h1 a0 10 1) fun v4 => bd (pI h1 a0 10 1 (v4 + 1)) fun h2 => bd (some (x2 + (-8))) fun v5 => k3 h2 a0 x1 v5))
set_option maxRecDepth 20000 in
theorem tX10_put_3 {h' : MH} (k3 : MH → Nat → Int32 → Int32 → Option (MH)) (hk3 : ∀ (h : MH) (a0 : Nat) (x1 : Int32) (x2 : Int32), k3 h a0 x1 x2 = some h' → V TT mX10_put 0 none h' h 3 [.ref a0, .int x1, .int x2] [])  {h : MH} {a0 : Nat} {x1 : Int32} {x2 : Int32} (hf : bX10_put_3 k3 h a0 x1 x2 = some h') : V TT mX10_put 0 none h' h 3 [.ref a0, .int x1, .int x2] [] := by
  unfold bX10_put_3 at hf
  refine V.iload_n (q := 4) rfl dX10_put_3 rfl rfl ?_
  refine V.if_lt (q := 7) (tgt := 46) dX10_put_4 rfl (by decide) (fun c => ?_) (fun c => ?_)
  · rw [if_pos c] at hf
    cases hf
    exact V.ret (r := none) trivial dX10_put_46
  · rw [if_neg c] at hf
    refine V.aload_n (q := 8) rfl dX10_put_7 rfl rfl ?_
    obtain ⟨v1, ev1, hf⟩ := bd_ex hf
    refine V.getI (q := 11) flX10_15 rfl ev1 dX10_put_8 rfl ?_
    refine V.sipush (q := 14) (v := 900) (by decide) dX10_put_11 rfl ?_
    refine V.icmp_ge (q := 17) (tgt := 40) dX10_put_14 rfl (by decide) (fun c => ?_) (fun c => ?_)
    · rw [if_pos c] at hf
      obtain ⟨v2, ev2, hf⟩ := bd_ex hf
      refine V.iinc (q := 43) (v := v2) (L' := [.ref a0, .int x1, .int v2]) dX10_put_40 rfl rfl (Option.some.inj ev2) (by decide) rfl rfl ?_
      refine V.goto (q := 3) dX10_put_43 (by decide) ?_
      exact hk3 _ _ _ _ hf
    · rw [if_neg c] at hf
      refine V.aload_n (q := 18) rfl dX10_put_17 rfl rfl ?_
      obtain ⟨b2, eb2, hf⟩ := bd_ex hf
      refine V.getR (q := 21) flX10_11 rfl eb2 dX10_put_18 rfl ?_
      refine V.aload_n (q := 22) rfl dX10_put_21 rfl rfl ?_
      obtain ⟨v3, ev3, hf⟩ := bd_ex hf
      refine V.getI (q := 25) flX10_15 rfl ev3 dX10_put_22 rfl ?_
      refine V.iload_n (q := 26) rfl dX10_put_25 rfl rfl ?_
      refine V.iload_n (q := 27) rfl dX10_put_26 rfl rfl ?_
      refine V.ishr (q := 28) dX10_put_27 rfl ?_
      refine V.i2b (q := 29) dX10_put_28 rfl ?_
      obtain ⟨h1, eh1, hf⟩ := bd_ex hf
      refine V.bast (q := 30) eh1 dX10_put_29 rfl ?_
      refine V.aload_n (q := 31) rfl dX10_put_30 rfl rfl ?_
      refine V.dupR (q := 32) dX10_put_31 rfl ?_
      obtain ⟨v4, ev4, hf⟩ := bd_ex hf
      refine V.getI (q := 35) flX10_15 rfl ev4 dX10_put_32 rfl ?_
      refine V.iconst (q := 36) (v := 1) (by decide) dX10_put_35 rfl ?_
      refine V.iadd (q := 37) dX10_put_36 rfl ?_
      obtain ⟨h2, eh2, hf⟩ := bd_ex hf
      refine V.putI (q := 40) (fpX10_15 rfl) rfl eh2 dX10_put_37 rfl ?_
      obtain ⟨v5, ev5, hf⟩ := bd_ex hf
      refine V.iinc (q := 43) (v := v5) (L' := [.ref a0, .int x1, .int v5]) dX10_put_40 rfl rfl (Option.some.inj ev5) (by decide) rfl rfl ?_
      refine V.goto (q := 3) dX10_put_43 (by decide) ?_
      exact hk3 _ _ _ _ hf
def fX10_put_3  : Nat → MH → Nat → Int32 → Int32 → Option (MH)
  | 0 => fun _ _ _ _ => none
  | n + 1 => bX10_put_3  (fX10_put_3  n)
theorem tlX10_put_3 {h' : MH}   : ∀ (n : Nat) (h : MH) (a0 : Nat) (x1 : Int32) (x2 : Int32), fX10_put_3  n h a0 x1 x2 = some h' → V TT mX10_put 0 none h' h 3 [.ref a0, .int x1, .int x2] [] := by
  intro n
  induction n with
  | zero => intro h a0 x1 x2 hf; exact nomatch (show (none : Option (MH)) = some h' from hf)
  | succ n ih => intro h a0 x1 x2 hf; exact tX10_put_3  (fX10_put_3  n) ih hf
def fX10_put (h : MH) (a0 : Nat) (x1 : Int32) : Option (MH) := fX10_put_3 FU h a0 x1 24
set_option maxRecDepth 20000 in
theorem tX10_put {h' : MH} {h : MH} {a0 : Nat} {x1 : Int32} (hf : fX10_put h a0 x1 = some h') : VM mX10_put 0 none h' h [.ref a0, .int x1] := by
  show V TT mX10_put 0 _ h' h 0 [.ref a0, .int x1, Jk] []
  unfold fX10_put at hf
  refine V.bipush (q := 2) (v := 24) (by decide) dX10_put_0 rfl ?_
  refine V.istore_n (q := 3) (L' := [.ref a0, .int x1, .int 24]) rfl dX10_put_2 rfl (by decide) rfl rfl ?_
  exact tlX10_put_3  FU _ _ _ _ hf
def bX10_spellAll_4 (k4 : MH → Nat → Nat → Int32 → Int32 → Option (MH)) (h : MH) (t0 : Nat) (a1 : Nat) (x2 : Int32) (x3 : Int32) : Option (MH) := bd (tkc t0) fun _ => bd (fJ0_length_8abf5 t0 ) fun v1 => if v1 ≤ x3 then (some h) else (bd (nA h a1) fun v2 => if v2 ≤ x2 then (some h) else (bd (fJ0_charAt_5068e t0 x3) fun v3 => if v3 = 32 then (bd (some (x2 + 1)) fun v4 => bd (some (x3 + 1)) fun v5 => k4 h t0 a1 v4 v5) else (bd (lJ h a1 x2) fun w4 => bd (fJ0_charAt_5068e t0 x3) fun v5 => bd (tJ h a1 x2 ((w4 <<< (Int32.toInt64 5 &&& 63)) ||| (Int32.toInt64 (v5 &&& 31)))) fun h1 => bd (some (x3 + 1)) fun v6 => k4 h1 t0 a1 x2 v6)))
set_option maxRecDepth 20000 in
theorem tX10_spellAll_4 {h' : MH} (k4 : MH → Nat → Nat → Int32 → Int32 → Option (MH)) (hk4 : ∀ (h : MH) (t0 : Nat) (a1 : Nat) (x2 : Int32) (x3 : Int32), k4 h t0 a1 x2 x3 = some h' → V TT mX10_spellAll 4 none h' h 4 [.retAddr t0, .ref a1, .int x2, .int x3] [])  {h : MH} {t0 : Nat} {a1 : Nat} {x2 : Int32} {x3 : Int32} (hf : bX10_spellAll_4 k4 h t0 a1 x2 x3 = some h') : V TT mX10_spellAll 4 none h' h 4 [.retAddr t0, .ref a1, .int x2, .int x3] [] := by
  unfold bX10_spellAll_4 at hf
  obtain ⟨_, et_t0, hf⟩ := bd_ex hf
  have ht_t0 := tkc_is et_t0
  refine V.iload_n (q := 5) rfl dX10_spellAll_4 rfl rfl ?_
  refine V.aloadT_n (q := 6) rfl (tk_ne ht_t0) (tk_ad ht_t0) dX10_spellAll_5 rfl rfl ?_
  obtain ⟨v1, ev1, hf⟩ := bd_ex hf
  refine V.callVT (q := 9) (vs := []) (st := [.int x3]) (S2 := [.int v1, .int x3]) ht_t0 okJ0_length_8abf5 imJ0_length_8abf5 seJ0_length_8abf5 rfl lkX10_46 (tJ0_length_8abf5 ev1) rfl (by decide) rfl (Nat.le_of_ble_eq_true rfl) (Nat.le_of_ble_eq_true rfl) rfl dX10_spellAll_6 rfl rfl ?_
  refine V.icmp_ge (q := 12) (tgt := 58) dX10_spellAll_9 rfl (by decide) (fun c => ?_) (fun c => ?_)
  · rw [if_pos c] at hf
    cases hf
    exact V.ret (r := none) trivial dX10_spellAll_58
  · rw [if_neg c] at hf
    refine V.iload_n (q := 13) rfl dX10_spellAll_12 rfl rfl ?_
    refine V.aload_n (q := 14) rfl dX10_spellAll_13 rfl rfl ?_
    obtain ⟨v2, ev2, hf⟩ := bd_ex hf
    refine V.alen (q := 15) ev2 dX10_spellAll_14 rfl ?_
    refine V.icmp_ge (q := 18) (tgt := 58) dX10_spellAll_15 rfl (by decide) (fun c => ?_) (fun c => ?_)
    · rw [if_pos c] at hf
      cases hf
      exact V.ret (r := none) trivial dX10_spellAll_58
    · rw [if_neg c] at hf
      refine V.aloadT_n (q := 19) rfl (tk_ne ht_t0) (tk_ad ht_t0) dX10_spellAll_18 rfl rfl ?_
      refine V.iload_n (q := 20) rfl dX10_spellAll_19 rfl rfl ?_
      obtain ⟨v3, ev3, hf⟩ := bd_ex hf
      refine V.callVT (q := 23) (vs := [.int x3]) (st := []) (S2 := [.int v3]) ht_t0 okJ0_charAt_5068e imJ0_charAt_5068e seJ0_charAt_5068e rfl lkX10_51 (tJ0_charAt_5068e ev3) rfl (by decide) rfl (Nat.le_of_ble_eq_true rfl) (Nat.le_of_ble_eq_true rfl) rfl dX10_spellAll_20 rfl rfl ?_
      refine V.bipush (q := 25) (v := 32) (by decide) dX10_spellAll_23 rfl ?_
      refine V.icmp_ne (q := 28) (tgt := 34) dX10_spellAll_25 rfl (by decide) (fun c => ?_) (fun c => ?_)
      · rw [if_neg c] at hf
        refine V.aload_n (q := 35) rfl dX10_spellAll_34 rfl rfl ?_
        refine V.iload_n (q := 36) rfl dX10_spellAll_35 rfl rfl ?_
        refine V.aload_n (q := 37) rfl dX10_spellAll_36 rfl rfl ?_
        refine V.iload_n (q := 38) rfl dX10_spellAll_37 rfl rfl ?_
        obtain ⟨w4, ew4, hf⟩ := bd_ex hf
        refine V.lald (q := 39) ew4 dX10_spellAll_38 rfl ?_
        refine V.iconst (q := 40) (v := 5) (by decide) dX10_spellAll_39 rfl ?_
        refine V.lshl (q := 41) dX10_spellAll_40 rfl ?_
        refine V.aloadT_n (q := 42) rfl (tk_ne ht_t0) (tk_ad ht_t0) dX10_spellAll_41 rfl rfl ?_
        refine V.iload_n (q := 43) rfl dX10_spellAll_42 rfl rfl ?_
        obtain ⟨v5, ev5, hf⟩ := bd_ex hf
        refine V.callVT (q := 46) (vs := [.int x3]) (st := [.long (w4 <<< (Int32.toInt64 5 &&& 63)), .int x2, .ref a1]) (S2 := [.int v5, .long (w4 <<< (Int32.toInt64 5 &&& 63)), .int x2, .ref a1]) ht_t0 okJ0_charAt_5068e imJ0_charAt_5068e seJ0_charAt_5068e rfl lkX10_51 (tJ0_charAt_5068e ev5) rfl (by decide) rfl (Nat.le_of_ble_eq_true rfl) (Nat.le_of_ble_eq_true rfl) rfl dX10_spellAll_43 rfl rfl ?_
        refine V.bipush (q := 48) (v := 31) (by decide) dX10_spellAll_46 rfl ?_
        refine V.iand (q := 49) dX10_spellAll_48 rfl ?_
        refine V.i2l (q := 50) dX10_spellAll_49 rfl ?_
        refine V.lor (q := 51) dX10_spellAll_50 rfl ?_
        obtain ⟨h1, eh1, hf⟩ := bd_ex hf
        refine V.last (q := 52) eh1 dX10_spellAll_51 rfl ?_
        obtain ⟨v6, ev6, hf⟩ := bd_ex hf
        refine V.iinc (q := 55) (v := v6) (L' := [.retAddr t0, .ref a1, .int x2, .int v6]) dX10_spellAll_52 rfl rfl (Option.some.inj ev6) (by decide) rfl rfl ?_
        refine V.goto (q := 4) dX10_spellAll_55 (by decide) ?_
        exact hk4 _ _ _ _ _ hf
      · rw [if_pos c] at hf
        obtain ⟨v4, ev4, hf⟩ := bd_ex hf
        refine V.iinc (q := 31) (v := v4) (L' := [.retAddr t0, .ref a1, .int v4, .int x3]) dX10_spellAll_28 rfl rfl (Option.some.inj ev4) (by decide) rfl rfl ?_
        refine V.goto (q := 52) dX10_spellAll_31 (by decide) ?_
        obtain ⟨v5, ev5, hf⟩ := bd_ex hf
        refine V.iinc (q := 55) (v := v5) (L' := [.retAddr t0, .ref a1, .int v4, .int v5]) dX10_spellAll_52 rfl rfl (Option.some.inj ev5) (by decide) rfl rfl ?_
        refine V.goto (q := 4) dX10_spellAll_55 (by decide) ?_
        exact hk4 _ _ _ _ _ hf
def fX10_spellAll_4  : Nat → MH → Nat → Nat → Int32 → Int32 → Option (MH)
  | 0 => fun _ _ _ _ _ => none
  | n + 1 => bX10_spellAll_4  (fX10_spellAll_4  n)
theorem tlX10_spellAll_4 {h' : MH}   : ∀ (n : Nat) (h : MH) (t0 : Nat) (a1 : Nat) (x2 : Int32) (x3 : Int32), fX10_spellAll_4  n h t0 a1 x2 x3 = some h' → V TT mX10_spellAll 4 none h' h 4 [.retAddr t0, .ref a1, .int x2, .int x3] [] := by
  intro n
  induction n with
  | zero => intro h t0 a1 x2 x3 hf; exact nomatch (show (none : Option (MH)) = some h' from hf)
  | succ n ih => intro h t0 a1 x2 x3 hf; exact tX10_spellAll_4  (fX10_spellAll_4  n) ih hf
def fX10_spellAll (h : MH) (t0 : Nat) (a1 : Nat) : Option (MH) := bd (tkc t0) fun _ => fX10_spellAll_4 FU h t0 a1 0 0
set_option maxRecDepth 20000 in
theorem tX10_spellAll {h' : MH} {h : MH} {t0 : Nat} {a1 : Nat} (hf : fX10_spellAll h t0 a1 = some h') : VM mX10_spellAll 4 none h' h [.retAddr t0, .ref a1] := by
  show V TT mX10_spellAll 4 _ h' h 0 [.retAddr t0, .ref a1, Jk, Jk] []
  unfold fX10_spellAll at hf
  obtain ⟨_, et_t0, hf⟩ := bd_ex hf
  have ht_t0 := tkc_is et_t0
  refine V.iconst (q := 1) (v := 0) (by decide) dX10_spellAll_0 rfl ?_
  refine V.istore_n (q := 2) (L' := [.retAddr t0, .ref a1, .int 0, Jk]) rfl dX10_spellAll_1 rfl (by decide) rfl rfl ?_
  refine V.iconst (q := 3) (v := 0) (by decide) dX10_spellAll_2 rfl ?_
  refine V.istore_n (q := 4) (L' := [.retAddr t0, .ref a1, .int 0, .int 0]) rfl dX10_spellAll_3 rfl (by decide) rfl rfl ?_
  exact tlX10_spellAll_4  FU _ _ _ _ _ hf
def bX10_value_7 (k7 : MH → Nat → Int32 → Int32 → Option (Int32 × MH)) (h : MH) (a0 : Nat) (x1 : Int32) (x2 : Int32) : Option (Int32 × MH) := bd (gI h a0 10 5) fun v1 => if v1 ≤ x2 then (some (x1, h)) else (bd (gR h a0 10 0) fun b2 => bd (lB h b2 x2) fun v3 => bd (some ((10 * x1) + (v3 - 48))) fun v4 => bd (some (x2 + 1)) fun v5 => k7 h a0 v4 v5)
set_option maxRecDepth 20000 in
theorem tX10_value_7 {r : Int32} {h' : MH} (k7 : MH → Nat → Int32 → Int32 → Option (Int32 × MH)) (hk7 : ∀ (h : MH) (a0 : Nat) (x1 : Int32) (x2 : Int32), k7 h a0 x1 x2 = some (r, h') → V TT mX10_value 0 (some (.int r)) h' h 7 [.ref a0, .int x1, .int x2] [])  {h : MH} {a0 : Nat} {x1 : Int32} {x2 : Int32} (hf : bX10_value_7 k7 h a0 x1 x2 = some (r, h')) : V TT mX10_value 0 (some (.int r)) h' h 7 [.ref a0, .int x1, .int x2] [] := by
  unfold bX10_value_7 at hf
  refine V.iload_n (q := 8) rfl dX10_value_7 rfl rfl ?_
  refine V.aload_n (q := 9) rfl dX10_value_8 rfl rfl ?_
  obtain ⟨v1, ev1, hf⟩ := bd_ex hf
  refine V.getI (q := 12) flX10_22 rfl ev1 dX10_value_9 rfl ?_
  refine V.icmp_ge (q := 15) (tgt := 36) dX10_value_12 rfl (by decide) (fun c => ?_) (fun c => ?_)
  · rw [if_pos c] at hf
    refine V.iload_n (q := 37) rfl dX10_value_36 rfl rfl ?_
    obtain ⟨rfl, rfl⟩ := ret_inj hf
    exact V.ret (r := some (.int x1)) trivial dX10_value_37
  · rw [if_neg c] at hf
    refine V.bipush (q := 17) (v := 10) (by decide) dX10_value_15 rfl ?_
    refine V.iload_n (q := 18) rfl dX10_value_17 rfl rfl ?_
    refine V.imul (q := 19) dX10_value_18 rfl ?_
    refine V.aload_n (q := 20) rfl dX10_value_19 rfl rfl ?_
    obtain ⟨b2, eb2, hf⟩ := bd_ex hf
    refine V.getR (q := 23) flX10_11 rfl eb2 dX10_value_20 rfl ?_
    refine V.iload_n (q := 24) rfl dX10_value_23 rfl rfl ?_
    obtain ⟨v3, ev3, hf⟩ := bd_ex hf
    refine V.bald (q := 25) ev3 dX10_value_24 rfl ?_
    refine V.bipush (q := 27) (v := 48) (by decide) dX10_value_25 rfl ?_
    refine V.isub (q := 28) dX10_value_27 rfl ?_
    refine V.iadd (q := 29) dX10_value_28 rfl ?_
    obtain ⟨v4, ev4, hf⟩ := bd_ex hf
    refine V.topI (Option.some.inj ev4) ?_
    refine V.istore_n (q := 30) (L' := [.ref a0, .int v4, .int x2]) rfl dX10_value_29 rfl (by decide) rfl rfl ?_
    obtain ⟨v5, ev5, hf⟩ := bd_ex hf
    refine V.iinc (q := 33) (v := v5) (L' := [.ref a0, .int v4, .int v5]) dX10_value_30 rfl rfl (Option.some.inj ev5) (by decide) rfl rfl ?_
    refine V.goto (q := 7) dX10_value_33 (by decide) ?_
    exact hk7 _ _ _ _ hf
def fX10_value_7  : Nat → MH → Nat → Int32 → Int32 → Option (Int32 × MH)
  | 0 => fun _ _ _ _ => none
  | n + 1 => bX10_value_7  (fX10_value_7  n)
theorem tlX10_value_7 {r : Int32} {h' : MH}   : ∀ (n : Nat) (h : MH) (a0 : Nat) (x1 : Int32) (x2 : Int32), fX10_value_7  n h a0 x1 x2 = some (r, h') → V TT mX10_value 0 (some (.int r)) h' h 7 [.ref a0, .int x1, .int x2] [] := by
  intro n
  induction n with
  | zero => intro h a0 x1 x2 hf; exact nomatch (show (none : Option (Int32 × MH)) = some (r, h') from hf)
  | succ n ih => intro h a0 x1 x2 hf; exact tX10_value_7  (fX10_value_7  n) ih hf
def fX10_value (h : MH) (a0 : Nat) : Option (Int32 × MH) := bd (gI h a0 10 4) fun v1 => fX10_value_7 FU h a0 0 v1
set_option maxRecDepth 20000 in
theorem tX10_value {r : Int32} {h' : MH} {h : MH} {a0 : Nat} (hf : fX10_value h a0 = some (r, h')) : VM mX10_value 0 (some (.int r)) h' h [.ref a0] := by
  show V TT mX10_value 0 _ h' h 0 [.ref a0, Jk, Jk] []
  unfold fX10_value at hf
  refine V.iconst (q := 1) (v := 0) (by decide) dX10_value_0 rfl ?_
  refine V.istore_n (q := 2) (L' := [.ref a0, .int 0, Jk]) rfl dX10_value_1 rfl (by decide) rfl rfl ?_
  refine V.aload_n (q := 3) rfl dX10_value_2 rfl rfl ?_
  obtain ⟨v1, ev1, hf⟩ := bd_ex hf
  refine V.getI (q := 6) flX10_28 rfl ev1 dX10_value_3 rfl ?_
  refine V.istore_n (q := 7) (L' := [.ref a0, .int 0, .int v1]) rfl dX10_value_6 rfl (by decide) rfl rfl ?_
  exact tlX10_value_7  FU _ _ _ _ hf
def fX11_allow (h : MH) (a0 : Nat) : Option (Int32 × MH) := bd (pI h a0 11 10 0) fun h1 => some (1, h1)
set_option maxRecDepth 20000 in
theorem tX11_allow {r : Int32} {h' : MH} {h : MH} {a0 : Nat} (hf : fX11_allow h a0 = some (r, h')) : VM mX11_allow 0 (some (.int r)) h' h [.ref a0] := by
  show V TT mX11_allow 0 _ h' h 0 [.ref a0] []
  unfold fX11_allow at hf
  refine V.aload_n (q := 1) rfl dX11_allow_0 rfl rfl ?_
  refine V.iconst (q := 2) (v := 0) (by decide) dX11_allow_1 rfl ?_
  obtain ⟨h1, eh1, hf⟩ := bd_ex hf
  refine V.putI (q := 5) (fpX11_80 rfl) rfl eh1 dX11_allow_2 rfl ?_
  refine V.iconst (q := 6) (v := 1) (by decide) dX11_allow_5 rfl ?_
  obtain ⟨rfl, rfl⟩ := ret_inj hf
  exact V.ret (r := some (.int 1)) (Or.inr rfl) dX11_allow_6
def fX11_answer (h : MH) (a0 : Nat) (x1 : Int32) : Option (Int32 × MH) := bd (pI h a0 11 10 0) fun h1 => some (x1, h1)
set_option maxRecDepth 20000 in
theorem tX11_answer {r : Int32} {h' : MH} {h : MH} {a0 : Nat} {x1 : Int32} (hf : fX11_answer h a0 x1 = some (r, h')) : VM mX11_answer 0 (some (.int r)) h' h [.ref a0, .int x1] := by
  show V TT mX11_answer 0 _ h' h 0 [.ref a0, .int x1] []
  unfold fX11_answer at hf
  refine V.aload_n (q := 1) rfl dX11_answer_0 rfl rfl ?_
  refine V.iconst (q := 2) (v := 0) (by decide) dX11_answer_1 rfl ?_
  obtain ⟨h1, eh1, hf⟩ := bd_ex hf
  refine V.putI (q := 5) (fpX11_80 rfl) rfl eh1 dX11_answer_2 rfl ?_
  refine V.iload_n (q := 6) rfl dX11_answer_5 rfl rfl ?_
  obtain ⟨rfl, rfl⟩ := ret_inj hf
  exact V.ret (r := some (.int x1)) trivial dX11_answer_6
def bX11_commonDivisor_9 (k9 : MH → Int64 → Int64 → Int32 → Option (Int64 × MH)) (h : MH) (y4 : Int64) (y6 : Int64) (x8 : Int32) : Option (Int64 × MH) := if 100 ≤ x8 then (some (y4, h)) else (if (lg_cmp y6 0) = 0 then (some (y4, h)) else (bd (nzJ y6) fun _ => bd (some (y4 - y4 / y6 * y6)) fun w2 => bd (some (x8 + 1)) fun v3 => k9 h y6 w2 v3))
set_option maxRecDepth 20000 in
theorem tX11_commonDivisor_9 {r : Int64} {h' : MH} (k9 : MH → Int64 → Int64 → Int32 → Option (Int64 × MH)) (hk9 : ∀ (h : MH) (y4 : Int64) (y6 : Int64) (x8 : Int32), k9 h y4 y6 x8 = some (r, h') → V TT mX11_commonDivisor 0 (some (.long r)) h' h 9 [Jk, Jk, Jk, Jk, .long y4, Jk, .long y6, Jk, .int x8, Jk, Jk] [])  {h : MH} {y4 : Int64} {y6 : Int64} {x8 : Int32} (hf : bX11_commonDivisor_9 k9 h y4 y6 x8 = some (r, h')) : V TT mX11_commonDivisor 0 (some (.long r)) h' h 9 [Jk, Jk, Jk, Jk, .long y4, Jk, .long y6, Jk, .int x8, Jk, Jk] [] := by
  unfold bX11_commonDivisor_9 at hf
  refine V.iload (q := 11) dX11_commonDivisor_9 rfl rfl ?_
  refine V.bipush (q := 13) (v := 100) (by decide) dX11_commonDivisor_11 rfl ?_
  refine V.icmp_ge (q := 16) (tgt := 44) dX11_commonDivisor_13 rfl (by decide) (fun c => ?_) (fun c => ?_)
  · rw [if_pos c] at hf
    refine V.lload (q := 46) dX11_commonDivisor_44 rfl rfl ?_
    obtain ⟨rfl, rfl⟩ := ret_inj hf
    exact V.ret (r := some (.long y4)) trivial dX11_commonDivisor_46
  · rw [if_neg c] at hf
    refine V.lload (q := 18) dX11_commonDivisor_16 rfl rfl ?_
    refine V.lconst (q := 19) (v := 0) (by decide) dX11_commonDivisor_18 rfl ?_
    refine V.lcmp (q := 20) dX11_commonDivisor_19 rfl ?_
    refine V.if_eq (q := 23) (tgt := 44) dX11_commonDivisor_20 rfl (by decide) (fun c => ?_) (fun c => ?_)
    · rw [if_pos c] at hf
      refine V.lload (q := 46) dX11_commonDivisor_44 rfl rfl ?_
      obtain ⟨rfl, rfl⟩ := ret_inj hf
      exact V.ret (r := some (.long y4)) trivial dX11_commonDivisor_46
    · rw [if_neg c] at hf
      refine V.lload (q := 25) dX11_commonDivisor_23 rfl rfl ?_
      refine V.lload (q := 27) dX11_commonDivisor_25 rfl rfl ?_
      obtain ⟨_, e1, hf⟩ := bd_ex hf
      refine V.lrem (q := 28) (nzJ_is e1) dX11_commonDivisor_27 rfl ?_
      obtain ⟨w2, ew2, hf⟩ := bd_ex hf
      refine V.topL (Option.some.inj ew2) ?_
      refine V.lstore (q := 30) (L' := [Jk, Jk, Jk, Jk, .long y4, Jk, .long y6, Jk, .int x8, .long w2, Jk]) dX11_commonDivisor_28 rfl (by decide) rfl rfl ?_
      refine V.lload (q := 32) dX11_commonDivisor_30 rfl rfl ?_
      refine V.lstore (q := 34) (L' := [Jk, Jk, Jk, Jk, .long y6, Jk, .long y6, Jk, .int x8, .long w2, Jk]) dX11_commonDivisor_32 rfl (by decide) rfl rfl ?_
      refine V.lload (q := 36) dX11_commonDivisor_34 rfl rfl ?_
      refine V.lstore (q := 38) (L' := [Jk, Jk, Jk, Jk, .long y6, Jk, .long w2, Jk, .int x8, .long w2, Jk]) dX11_commonDivisor_36 rfl (by decide) rfl rfl ?_
      obtain ⟨v3, ev3, hf⟩ := bd_ex hf
      refine V.iinc (q := 41) (v := v3) (L' := [Jk, Jk, Jk, Jk, .long y6, Jk, .long w2, Jk, .int v3, .long w2, Jk]) dX11_commonDivisor_38 rfl rfl (Option.some.inj ev3) (by decide) rfl rfl ?_
      refine V.goto (q := 9) dX11_commonDivisor_41 (by decide) ?_
      refine V.forget (L' := [Jk, Jk, Jk, Jk, .long y6, Jk, .long w2, Jk, .int v3, Jk, Jk]) ⟨Or.inl rfl, Or.inl rfl, Or.inl rfl, Or.inl rfl, Or.inr rfl, Or.inl rfl, Or.inr rfl, Or.inl rfl, Or.inr rfl, Or.inl rfl, Or.inl rfl, trivial⟩ ?_
      exact hk9 _ _ _ _ hf
def fX11_commonDivisor_9  : Nat → MH → Int64 → Int64 → Int32 → Option (Int64 × MH)
  | 0 => fun _ _ _ _ => none
  | n + 1 => bX11_commonDivisor_9  (fX11_commonDivisor_9  n)
theorem tlX11_commonDivisor_9 {r : Int64} {h' : MH}   : ∀ (n : Nat) (h : MH) (y4 : Int64) (y6 : Int64) (x8 : Int32), fX11_commonDivisor_9  n h y4 y6 x8 = some (r, h') → V TT mX11_commonDivisor 0 (some (.long r)) h' h 9 [Jk, Jk, Jk, Jk, .long y4, Jk, .long y6, Jk, .int x8, Jk, Jk] [] := by
  intro n
  induction n with
  | zero => intro h y4 y6 x8 hf; exact nomatch (show (none : Option (Int64 × MH)) = some (r, h') from hf)
  | succ n ih => intro h y4 y6 x8 hf; exact tX11_commonDivisor_9  (fX11_commonDivisor_9  n) ih hf
def fX11_commonDivisor (h : MH) (y0 : Int64) (y2 : Int64) : Option (Int64 × MH) := fX11_commonDivisor_9 FU h y0 y2 0
set_option maxRecDepth 20000 in
theorem tX11_commonDivisor {r : Int64} {h' : MH} {h : MH} {y0 : Int64} {y2 : Int64} (hf : fX11_commonDivisor h y0 y2 = some (r, h')) : VM mX11_commonDivisor 0 (some (.long r)) h' h [.long y0, .long y2] := by
  show V TT mX11_commonDivisor 0 _ h' h 0 [.long y0, Jk, .long y2, Jk, Jk, Jk, Jk, Jk, Jk, Jk, Jk] []
  unfold fX11_commonDivisor at hf
  refine V.lload_n (q := 1) rfl dX11_commonDivisor_0 rfl rfl ?_
  refine V.lstore (q := 3) (L' := [.long y0, Jk, .long y2, Jk, .long y0, Jk, Jk, Jk, Jk, Jk, Jk]) dX11_commonDivisor_1 rfl (by decide) rfl rfl ?_
  refine V.lload_n (q := 4) rfl dX11_commonDivisor_3 rfl rfl ?_
  refine V.lstore (q := 6) (L' := [.long y0, Jk, .long y2, Jk, .long y0, Jk, .long y2, Jk, Jk, Jk, Jk]) dX11_commonDivisor_4 rfl (by decide) rfl rfl ?_
  refine V.iconst (q := 7) (v := 0) (by decide) dX11_commonDivisor_6 rfl ?_
  refine V.istore (q := 9) (L' := [.long y0, Jk, .long y2, Jk, .long y0, Jk, .long y2, Jk, .int 0, Jk, Jk]) dX11_commonDivisor_7 rfl (by decide) rfl rfl ?_
  refine V.forget (L' := [Jk, Jk, Jk, Jk, .long y0, Jk, .long y2, Jk, .int 0, Jk, Jk]) ⟨Or.inl rfl, Or.inl rfl, Or.inl rfl, Or.inl rfl, Or.inr rfl, Or.inl rfl, Or.inr rfl, Or.inl rfl, Or.inr rfl, Or.inl rfl, Or.inl rfl, trivial⟩ ?_
  exact tlX11_commonDivisor_9  FU _ _ _ _ hf
def bX11_answerPart_17  (h : MH) (x5 : Int32) : Option (Int64 × MH) := if x5 = 0 then (some (0, h)) else (some (1, h))
set_option maxRecDepth 20000 in
theorem tX11_answerPart_17 {r : Int64} {h' : MH}   {h : MH} {x5 : Int32} (hf : bX11_answerPart_17  h x5 = some (r, h')) : V TT mX11_answerPart 1 (some (.long r)) h' h 17 [Jk, Jk, Jk, Jk, Jk, .int x5, Jk, Jk] [] := by
  unfold bX11_answerPart_17 at hf
  refine V.iload (q := 19) dX11_answerPart_17 rfl rfl ?_
  refine V.if_eq (q := 22) (tgt := 26) dX11_answerPart_19 rfl (by decide) (fun c => ?_) (fun c => ?_)
  · rw [if_pos c] at hf
    refine V.lconst (q := 27) (v := 0) (by decide) dX11_answerPart_26 rfl ?_
    obtain ⟨rfl, rfl⟩ := ret_inj hf
    exact V.ret (r := some (.long 0)) trivial dX11_answerPart_27
  · rw [if_neg c] at hf
    refine V.lconst (q := 23) (v := 1) (by decide) dX11_answerPart_22 rfl ?_
    refine V.goto (q := 27) dX11_answerPart_23 (by decide) ?_
    obtain ⟨rfl, rfl⟩ := ret_inj hf
    exact V.ret (r := some (.long 1)) trivial dX11_answerPart_27
def fX11_answerPart (h : MH) (a0 : Nat) (y1 : Int64) (y3 : Int64) (x5 : Int32) : Option (Int64 × MH) := bd (pI h a0 11 10 0) fun h1 => if (lg_cmp y1 0) = 0 then (bX11_answerPart_17 h1 x5) else (if (lg_cmp y3 0) = 0 then (bX11_answerPart_17 h1 x5) else (bd2 (fX11_commonDivisor h1 y1 y3) fun w1 h2 => if (lg_cmp w1 0) = 0 then (some (0, h2)) else (if x5 = 0 then (bd (nzJ w1) fun _ => some ((y1 / w1), h2)) else (bd (nzJ w1) fun _ => some ((y3 / w1), h2)))))
set_option maxRecDepth 20000 in
theorem tX11_answerPart {r : Int64} {h' : MH} {h : MH} {a0 : Nat} {y1 : Int64} {y3 : Int64} {x5 : Int32} (hf : fX11_answerPart h a0 y1 y3 x5 = some (r, h')) : VM mX11_answerPart 1 (some (.long r)) h' h [.ref a0, .long y1, .long y3, .int x5] := by
  show V TT mX11_answerPart 1 _ h' h 0 [.ref a0, .long y1, Jk, .long y3, Jk, .int x5, Jk, Jk] []
  unfold fX11_answerPart at hf
  refine V.aload_n (q := 1) rfl dX11_answerPart_0 rfl rfl ?_
  refine V.iconst (q := 2) (v := 0) (by decide) dX11_answerPart_1 rfl ?_
  obtain ⟨h1, eh1, hf⟩ := bd_ex hf
  refine V.putI (q := 5) (fpX11_80 rfl) rfl eh1 dX11_answerPart_2 rfl ?_
  refine V.lload_n (q := 6) rfl dX11_answerPart_5 rfl rfl ?_
  refine V.lconst (q := 7) (v := 0) (by decide) dX11_answerPart_6 rfl ?_
  refine V.lcmp (q := 8) dX11_answerPart_7 rfl ?_
  refine V.if_eq (q := 11) (tgt := 17) dX11_answerPart_8 rfl (by decide) (fun c => ?_) (fun c => ?_)
  · rw [if_pos c] at hf
    refine V.forget (L' := [Jk, Jk, Jk, Jk, Jk, .int x5, Jk, Jk]) ⟨Or.inl rfl, Or.inl rfl, Or.inl rfl, Or.inl rfl, Or.inl rfl, Or.inr rfl, Or.inl rfl, Or.inl rfl, trivial⟩ ?_
    exact tX11_answerPart_17  hf
  · rw [if_neg c] at hf
    refine V.lload_n (q := 12) rfl dX11_answerPart_11 rfl rfl ?_
    refine V.lconst (q := 13) (v := 0) (by decide) dX11_answerPart_12 rfl ?_
    refine V.lcmp (q := 14) dX11_answerPart_13 rfl ?_
    refine V.if_ne (q := 17) (tgt := 28) dX11_answerPart_14 rfl (by decide) (fun c => ?_) (fun c => ?_)
    · rw [if_neg c] at hf
      refine V.lload_n (q := 29) rfl dX11_answerPart_28 rfl rfl ?_
      refine V.lload_n (q := 30) rfl dX11_answerPart_29 rfl rfl ?_
      obtain ⟨w1, h2, eh2, hf⟩ := bd2_ex hf
      refine V.callS (q := 33) (vs := [.long y1, .long y3]) (st := []) (S2 := [.long w1]) okX11_commonDivisor stX11_commonDivisor lkX11_420 (tX11_commonDivisor eh2) rfl (by decide) rfl (Nat.le_of_ble_eq_true rfl) (Nat.le_of_ble_eq_true rfl) rfl dX11_answerPart_30 rfl rfl ?_
      refine V.lstore (q := 35) (L' := [.ref a0, .long y1, Jk, .long y3, Jk, .int x5, .long w1, Jk]) dX11_answerPart_33 rfl (by decide) rfl rfl ?_
      refine V.lload (q := 37) dX11_answerPart_35 rfl rfl ?_
      refine V.lconst (q := 38) (v := 0) (by decide) dX11_answerPart_37 rfl ?_
      refine V.lcmp (q := 39) dX11_answerPart_38 rfl ?_
      refine V.if_ne (q := 42) (tgt := 44) dX11_answerPart_39 rfl (by decide) (fun c => ?_) (fun c => ?_)
      · rw [if_neg c] at hf
        refine V.iload (q := 46) dX11_answerPart_44 rfl rfl ?_
        refine V.if_eq (q := 49) (tgt := 56) dX11_answerPart_46 rfl (by decide) (fun c => ?_) (fun c => ?_)
        · rw [if_pos c] at hf
          refine V.lload_n (q := 57) rfl dX11_answerPart_56 rfl rfl ?_
          refine V.lload (q := 59) dX11_answerPart_57 rfl rfl ?_
          obtain ⟨_, e2, hf⟩ := bd_ex hf
          refine V.ldiv (q := 60) (nzJ_is e2) dX11_answerPart_59 rfl ?_
          obtain ⟨rfl, rfl⟩ := ret_inj hf
          exact V.ret (r := some (.long (y1 / w1))) trivial dX11_answerPart_60
        · rw [if_neg c] at hf
          refine V.lload_n (q := 50) rfl dX11_answerPart_49 rfl rfl ?_
          refine V.lload (q := 52) dX11_answerPart_50 rfl rfl ?_
          obtain ⟨_, e2, hf⟩ := bd_ex hf
          refine V.ldiv (q := 53) (nzJ_is e2) dX11_answerPart_52 rfl ?_
          refine V.goto (q := 60) dX11_answerPart_53 (by decide) ?_
          obtain ⟨rfl, rfl⟩ := ret_inj hf
          exact V.ret (r := some (.long (y3 / w1))) trivial dX11_answerPart_60
      · rw [if_pos c] at hf
        refine V.lconst (q := 43) (v := 0) (by decide) dX11_answerPart_42 rfl ?_
        obtain ⟨rfl, rfl⟩ := ret_inj hf
        exact V.ret (r := some (.long 0)) trivial dX11_answerPart_43
    · rw [if_pos c] at hf
      refine V.forget (L' := [Jk, Jk, Jk, Jk, Jk, .int x5, Jk, Jk]) ⟨Or.inl rfl, Or.inl rfl, Or.inl rfl, Or.inl rfl, Or.inl rfl, Or.inr rfl, Or.inl rfl, Or.inl rfl, trivial⟩ ?_
      exact tX11_answerPart_17  hf
def fX11_refuse (h : MH) (a0 : Nat) (x1 : Int32) : Option (Int32 × MH) := bd (pI h a0 11 10 x1) fun h1 => some ((-1), h1)
set_option maxRecDepth 20000 in
theorem tX11_refuse {r : Int32} {h' : MH} {h : MH} {a0 : Nat} {x1 : Int32} (hf : fX11_refuse h a0 x1 = some (r, h')) : VM mX11_refuse 0 (some (.int r)) h' h [.ref a0, .int x1] := by
  show V TT mX11_refuse 0 _ h' h 0 [.ref a0, .int x1] []
  unfold fX11_refuse at hf
  refine V.aload_n (q := 1) rfl dX11_refuse_0 rfl rfl ?_
  refine V.iload_n (q := 2) rfl dX11_refuse_1 rfl rfl ?_
  obtain ⟨h1, eh1, hf⟩ := bd_ex hf
  refine V.putI (q := 5) (fpX11_80 rfl) rfl eh1 dX11_refuse_2 rfl ?_
  refine V.iconst (q := 6) (v := (-1)) (by decide) dX11_refuse_5 rfl ?_
  obtain ⟨rfl, rfl⟩ := ret_inj hf
  exact V.ret (r := some (.int (-1))) trivial dX11_refuse_6
def fX11_troubleOfGame (h : MH) (a0 : Nat) : Option (Int32 × MH) := bd (gI h a0 11 9) fun v1 => if v1 = 0 then (some (1, h)) else (bd (gR h a0 11 2) fun b2 => bd (gR h b2 5 1) fun b3 => bd (gI h b3 7 15) fun v4 => if v4 = 0 then (some (6, h)) else (some (0, h)))
set_option maxRecDepth 20000 in
theorem tX11_troubleOfGame {r : Int32} {h' : MH} {h : MH} {a0 : Nat} (hf : fX11_troubleOfGame h a0 = some (r, h')) : VM mX11_troubleOfGame 0 (some (.int r)) h' h [.ref a0] := by
  show V TT mX11_troubleOfGame 0 _ h' h 0 [.ref a0] []
  unfold fX11_troubleOfGame at hf
  refine V.aload_n (q := 1) rfl dX11_troubleOfGame_0 rfl rfl ?_
  obtain ⟨v1, ev1, hf⟩ := bd_ex hf
  refine V.getI (q := 4) flX11_76 rfl ev1 dX11_troubleOfGame_1 rfl ?_
  refine V.if_ne (q := 7) (tgt := 9) dX11_troubleOfGame_4 rfl (by decide) (fun c => ?_) (fun c => ?_)
  · rw [if_neg c] at hf
    refine V.aload_n (q := 10) rfl dX11_troubleOfGame_9 rfl rfl ?_
    obtain ⟨b2, eb2, hf⟩ := bd_ex hf
    refine V.getR (q := 13) flX11_28 rfl eb2 dX11_troubleOfGame_10 rfl ?_
    obtain ⟨b3, eb3, hf⟩ := bd_ex hf
    refine V.getR (q := 16) flX11_118 rfl eb3 dX11_troubleOfGame_13 rfl ?_
    obtain ⟨v4, ev4, hf⟩ := bd_ex hf
    refine V.getI (q := 19) flX11_402 rfl ev4 dX11_troubleOfGame_16 rfl ?_
    refine V.if_ne (q := 22) (tgt := 27) dX11_troubleOfGame_19 rfl (by decide) (fun c => ?_) (fun c => ?_)
    · rw [if_neg c] at hf
      refine V.iconst (q := 28) (v := 0) (by decide) dX11_troubleOfGame_27 rfl ?_
      obtain ⟨rfl, rfl⟩ := ret_inj hf
      exact V.ret (r := some (.int 0)) trivial dX11_troubleOfGame_28
    · rw [if_pos c] at hf
      refine V.bipush (q := 24) (v := 6) (by decide) dX11_troubleOfGame_22 rfl ?_
      refine V.goto (q := 28) dX11_troubleOfGame_24 (by decide) ?_
      obtain ⟨rfl, rfl⟩ := ret_inj hf
      exact V.ret (r := some (.int 6)) trivial dX11_troubleOfGame_28
  · rw [if_pos c] at hf
    refine V.iconst (q := 8) (v := 1) (by decide) dX11_troubleOfGame_7 rfl ?_
    obtain ⟨rfl, rfl⟩ := ret_inj hf
    exact V.ret (r := some (.int 1)) trivial dX11_troubleOfGame_8
def fX4_marksOf (h : MH) (a0 : Nat) (x1 : Int32) : Option (Int32 × MH) := bd (gR h a0 4 0) fun b1 => bd (lI h b1 (0 + x1)) fun v2 => some (v2, h)
set_option maxRecDepth 20000 in
theorem tX4_marksOf {r : Int32} {h' : MH} {h : MH} {a0 : Nat} {x1 : Int32} (hf : fX4_marksOf h a0 x1 = some (r, h')) : VM mX4_marksOf 0 (some (.int r)) h' h [.ref a0, .int x1] := by
  show V TT mX4_marksOf 0 _ h' h 0 [.ref a0, .int x1] []
  unfold fX4_marksOf at hf
  refine V.aload_n (q := 1) rfl dX4_marksOf_0 rfl rfl ?_
  obtain ⟨b1, eb1, hf⟩ := bd_ex hf
  refine V.getR (q := 4) flX4_11 rfl eb1 dX4_marksOf_1 rfl ?_
  refine V.iconst (q := 5) (v := 0) (by decide) dX4_marksOf_4 rfl ?_
  refine V.iload_n (q := 6) rfl dX4_marksOf_5 rfl rfl ?_
  refine V.iadd (q := 7) dX4_marksOf_6 rfl ?_
  obtain ⟨v2, ev2, hf⟩ := bd_ex hf
  refine V.iald (q := 8) ev2 dX4_marksOf_7 rfl ?_
  obtain ⟨rfl, rfl⟩ := ret_inj hf
  exact V.ret (r := some (.int v2)) trivial dX4_marksOf_8
def fX2_gain (h : MH) (a0 : Nat) (x1 : Int32) (x2 : Int32) : Option (Int32 × MH) := bd (gR h a0 2 0) fun b1 => bd (gR h a0 2 0) fun b2 => bd (gR h b2 5 0) fun b3 => bd (ck h b3 4) fun _ => bd2 (fX4_marksOf h b3 x2) fun v5 h1 => bd (ck h1 b1 5) fun _ => bd2 (fX5_sayOf h1 b1 x1 v5) fun v7 h2 => bd (gR h2 a0 2 0) fun b8 => bd (gR h2 b8 5 1) fun b9 => bd (gR h2 b9 7 0) fun b10 => bd (lI h2 b10 x2) fun v11 => if v7 = 1 then (some (v11, h2)) else (if v7 = 2 then (bd (nz 2) fun _ => some ((v11 / 2), h2)) else (some (0, h2)))
set_option maxRecDepth 20000 in
theorem tX2_gain {r : Int32} {h' : MH} {h : MH} {a0 : Nat} {x1 : Int32} {x2 : Int32} (hf : fX2_gain h a0 x1 x2 = some (r, h')) : VM mX2_gain 2 (some (.int r)) h' h [.ref a0, .int x1, .int x2] := by
  show V TT mX2_gain 2 _ h' h 0 [.ref a0, .int x1, .int x2, Jk, Jk] []
  unfold fX2_gain at hf
  refine V.aload_n (q := 1) rfl dX2_gain_0 rfl rfl ?_
  obtain ⟨b1, eb1, hf⟩ := bd_ex hf
  refine V.getR (q := 4) flX2_9 rfl eb1 dX2_gain_1 rfl ?_
  refine V.iload_n (q := 5) rfl dX2_gain_4 rfl rfl ?_
  refine V.aload_n (q := 6) rfl dX2_gain_5 rfl rfl ?_
  obtain ⟨b2, eb2, hf⟩ := bd_ex hf
  refine V.getR (q := 9) flX2_9 rfl eb2 dX2_gain_6 rfl ?_
  obtain ⟨b3, eb3, hf⟩ := bd_ex hf
  refine V.getR (q := 12) flX2_15 rfl eb3 dX2_gain_9 rfl ?_
  refine V.iload_n (q := 13) rfl dX2_gain_12 rfl rfl ?_
  obtain ⟨_, e4, hf⟩ := bd_ex hf
  obtain ⟨v5, h1, eh1, hf⟩ := bd2_ex hf
  refine V.callV (q := 16) (ci := 4) (vs := [.int x2]) (st := [.int x1, .ref b1]) (S2 := [.int v5, .int x1, .ref b1]) okX4_marksOf imX4_marksOf seX4_marksOf rfl lkX2_21 (tX4_marksOf eh1) rfl (ck_is e4) (by decide) rfl (Nat.le_of_ble_eq_true rfl) (Nat.le_of_ble_eq_true rfl) rfl dX2_gain_13 rfl rfl ?_
  obtain ⟨_, e6, hf⟩ := bd_ex hf
  obtain ⟨v7, h2, eh2, hf⟩ := bd2_ex hf
  refine V.callV (q := 19) (ci := 5) (vs := [.int x1, .int v5]) (st := []) (S2 := [.int v7]) okX5_sayOf imX5_sayOf seX5_sayOf rfl lkX2_27 (tX5_sayOf eh2) rfl (ck_is e6) (by decide) rfl (Nat.le_of_ble_eq_true rfl) (Nat.le_of_ble_eq_true rfl) rfl dX2_gain_16 rfl rfl ?_
  refine V.istore_n (q := 20) (L' := [.ref a0, .int x1, .int x2, .int v7, Jk]) rfl dX2_gain_19 rfl (by decide) rfl rfl ?_
  refine V.aload_n (q := 21) rfl dX2_gain_20 rfl rfl ?_
  obtain ⟨b8, eb8, hf⟩ := bd_ex hf
  refine V.getR (q := 24) flX2_9 rfl eb8 dX2_gain_21 rfl ?_
  obtain ⟨b9, eb9, hf⟩ := bd_ex hf
  refine V.getR (q := 27) flX2_31 rfl eb9 dX2_gain_24 rfl ?_
  obtain ⟨b10, eb10, hf⟩ := bd_ex hf
  refine V.getR (q := 30) flX2_35 rfl eb10 dX2_gain_27 rfl ?_
  refine V.iload_n (q := 31) rfl dX2_gain_30 rfl rfl ?_
  obtain ⟨v11, ev11, hf⟩ := bd_ex hf
  refine V.iald (q := 32) ev11 dX2_gain_31 rfl ?_
  refine V.istore (q := 34) (L' := [.ref a0, .int x1, .int x2, .int v7, .int v11]) dX2_gain_32 rfl (by decide) rfl rfl ?_
  refine V.iload_n (q := 35) rfl dX2_gain_34 rfl rfl ?_
  refine V.iconst (q := 36) (v := 1) (by decide) dX2_gain_35 rfl ?_
  refine V.icmp_ne (q := 39) (tgt := 44) dX2_gain_36 rfl (by decide) (fun c => ?_) (fun c => ?_)
  · rw [if_neg c] at hf
    refine V.iload_n (q := 45) rfl dX2_gain_44 rfl rfl ?_
    refine V.iconst (q := 46) (v := 2) (by decide) dX2_gain_45 rfl ?_
    refine V.icmp_ne (q := 49) (tgt := 56) dX2_gain_46 rfl (by decide) (fun c => ?_) (fun c => ?_)
    · rw [if_neg c] at hf
      refine V.iconst (q := 57) (v := 0) (by decide) dX2_gain_56 rfl ?_
      obtain ⟨rfl, rfl⟩ := ret_inj hf
      exact V.ret (r := some (.int 0)) trivial dX2_gain_57
    · rw [if_pos c] at hf
      refine V.iload (q := 51) dX2_gain_49 rfl rfl ?_
      refine V.iconst (q := 52) (v := 2) (by decide) dX2_gain_51 rfl ?_
      obtain ⟨_, e12, hf⟩ := bd_ex hf
      refine V.idiv (q := 53) (nz_is e12) dX2_gain_52 rfl ?_
      refine V.goto (q := 57) dX2_gain_53 (by decide) ?_
      obtain ⟨rfl, rfl⟩ := ret_inj hf
      exact V.ret (r := some (.int (v11 / 2))) trivial dX2_gain_57
  · rw [if_pos c] at hf
    refine V.iload (q := 41) dX2_gain_39 rfl rfl ?_
    refine V.goto (q := 57) dX2_gain_41 (by decide) ?_
    obtain ⟨rfl, rfl⟩ := ret_inj hf
    exact V.ret (r := some (.int v11)) trivial dX2_gain_57
def bX2_leastFor_5 (k5 : MH → Nat → Int32 → Int32 → Int32 → Option (Int32 × MH)) (h : MH) (a0 : Nat) (x1 : Int32) (x2 : Int32) (x3 : Int32) : Option (Int32 × MH) := bd (gR h a0 2 0) fun b1 => bd (gR h b1 5 1) fun b2 => bd (gI h b2 7 15) fun v3 => if v3 ≤ x3 then (some (x2, h)) else (bd (ck h a0 2) fun _ => bd2 (fX2_gain h a0 x3 x1) fun v5 h1 => bd (some (mMin x2 v5)) fun v6 => bd (some (x3 + 1)) fun v7 => k5 h1 a0 x1 v6 v7)
set_option maxRecDepth 20000 in
theorem tX2_leastFor_5 {r : Int32} {h' : MH} (k5 : MH → Nat → Int32 → Int32 → Int32 → Option (Int32 × MH)) (hk5 : ∀ (h : MH) (a0 : Nat) (x1 : Int32) (x2 : Int32) (x3 : Int32), k5 h a0 x1 x2 x3 = some (r, h') → V TT mX2_leastFor 3 (some (.int r)) h' h 5 [.ref a0, .int x1, .int x2, .int x3] [])  {h : MH} {a0 : Nat} {x1 : Int32} {x2 : Int32} {x3 : Int32} (hf : bX2_leastFor_5 k5 h a0 x1 x2 x3 = some (r, h')) : V TT mX2_leastFor 3 (some (.int r)) h' h 5 [.ref a0, .int x1, .int x2, .int x3] [] := by
  unfold bX2_leastFor_5 at hf
  refine V.iload_n (q := 6) rfl dX2_leastFor_5 rfl rfl ?_
  refine V.aload_n (q := 7) rfl dX2_leastFor_6 rfl rfl ?_
  obtain ⟨b1, eb1, hf⟩ := bd_ex hf
  refine V.getR (q := 10) flX2_9 rfl eb1 dX2_leastFor_7 rfl ?_
  obtain ⟨b2, eb2, hf⟩ := bd_ex hf
  refine V.getR (q := 13) flX2_31 rfl eb2 dX2_leastFor_10 rfl ?_
  obtain ⟨v3, ev3, hf⟩ := bd_ex hf
  refine V.getI (q := 16) flX2_53 rfl ev3 dX2_leastFor_13 rfl ?_
  refine V.icmp_ge (q := 19) (tgt := 36) dX2_leastFor_16 rfl (by decide) (fun c => ?_) (fun c => ?_)
  · rw [if_pos c] at hf
    refine V.iload_n (q := 37) rfl dX2_leastFor_36 rfl rfl ?_
    obtain ⟨rfl, rfl⟩ := ret_inj hf
    exact V.ret (r := some (.int x2)) trivial dX2_leastFor_37
  · rw [if_neg c] at hf
    refine V.iload_n (q := 20) rfl dX2_leastFor_19 rfl rfl ?_
    refine V.aload_n (q := 21) rfl dX2_leastFor_20 rfl rfl ?_
    refine V.iload_n (q := 22) rfl dX2_leastFor_21 rfl rfl ?_
    refine V.iload_n (q := 23) rfl dX2_leastFor_22 rfl rfl ?_
    obtain ⟨_, e4, hf⟩ := bd_ex hf
    obtain ⟨v5, h1, eh1, hf⟩ := bd2_ex hf
    refine V.callV (q := 26) (ci := 2) (vs := [.int x3, .int x1]) (st := [.int x2]) (S2 := [.int v5, .int x2]) okX2_gain imX2_gain seX2_gain rfl lkX2_45 (tX2_gain eh1) rfl (ck_is e4) (by decide) rfl (Nat.le_of_ble_eq_true rfl) (Nat.le_of_ble_eq_true rfl) rfl dX2_leastFor_23 rfl rfl ?_
    obtain ⟨v6, ev6, hf⟩ := bd_ex hf
    refine V.mMin (q := 29) lkX2_56 (by decide) (Nat.le_of_ble_eq_true rfl) dX2_leastFor_26 rfl ?_
    refine V.topI (Option.some.inj ev6) ?_
    refine V.istore_n (q := 30) (L' := [.ref a0, .int x1, .int v6, .int x3]) rfl dX2_leastFor_29 rfl (by decide) rfl rfl ?_
    obtain ⟨v7, ev7, hf⟩ := bd_ex hf
    refine V.iinc (q := 33) (v := v7) (L' := [.ref a0, .int x1, .int v6, .int v7]) dX2_leastFor_30 rfl rfl (Option.some.inj ev7) (by decide) rfl rfl ?_
    refine V.goto (q := 5) dX2_leastFor_33 (by decide) ?_
    exact hk5 _ _ _ _ _ hf
def fX2_leastFor_5  : Nat → MH → Nat → Int32 → Int32 → Int32 → Option (Int32 × MH)
  | 0 => fun _ _ _ _ _ => none
  | n + 1 => bX2_leastFor_5  (fX2_leastFor_5  n)
theorem tlX2_leastFor_5 {r : Int32} {h' : MH}   : ∀ (n : Nat) (h : MH) (a0 : Nat) (x1 : Int32) (x2 : Int32) (x3 : Int32), fX2_leastFor_5  n h a0 x1 x2 x3 = some (r, h') → V TT mX2_leastFor 3 (some (.int r)) h' h 5 [.ref a0, .int x1, .int x2, .int x3] [] := by
  intro n
  induction n with
  | zero => intro h a0 x1 x2 x3 hf; exact nomatch (show (none : Option (Int32 × MH)) = some (r, h') from hf)
  | succ n ih => intro h a0 x1 x2 x3 hf; exact tX2_leastFor_5  (fX2_leastFor_5  n) ih hf
def fX2_leastFor (h : MH) (a0 : Nat) (x1 : Int32) : Option (Int32 × MH) := fX2_leastFor_5 FU h a0 x1 99 0
set_option maxRecDepth 20000 in
theorem tX2_leastFor {r : Int32} {h' : MH} {h : MH} {a0 : Nat} {x1 : Int32} (hf : fX2_leastFor h a0 x1 = some (r, h')) : VM mX2_leastFor 3 (some (.int r)) h' h [.ref a0, .int x1] := by
  show V TT mX2_leastFor 3 _ h' h 0 [.ref a0, .int x1, Jk, Jk] []
  unfold fX2_leastFor at hf
  refine V.bipush (q := 2) (v := 99) (by decide) dX2_leastFor_0 rfl ?_
  refine V.istore_n (q := 3) (L' := [.ref a0, .int x1, .int 99, Jk]) rfl dX2_leastFor_2 rfl (by decide) rfl rfl ?_
  refine V.iconst (q := 4) (v := 0) (by decide) dX2_leastFor_3 rfl ?_
  refine V.istore_n (q := 5) (L' := [.ref a0, .int x1, .int 99, .int 0]) rfl dX2_leastFor_4 rfl (by decide) rfl rfl ?_
  exact tlX2_leastFor_5  FU _ _ _ _ _ hf
def bX2_mostOfLeast_4 (k4 : MH → Nat → Int32 → Int32 → Option (Int32 × MH)) (h : MH) (a0 : Nat) (x1 : Int32) (x2 : Int32) : Option (Int32 × MH) := bd (gR h a0 2 0) fun b1 => bd (gR h b1 5 1) fun b2 => bd (gI h b2 7 14) fun v3 => if v3 ≤ x2 then (some (x1, h)) else (bd (ck h a0 2) fun _ => bd2 (fX2_leastFor h a0 x2) fun v5 h1 => bd (some (mMax x1 v5)) fun v6 => bd (some (x2 + 1)) fun v7 => k4 h1 a0 v6 v7)
set_option maxRecDepth 20000 in
theorem tX2_mostOfLeast_4 {r : Int32} {h' : MH} (k4 : MH → Nat → Int32 → Int32 → Option (Int32 × MH)) (hk4 : ∀ (h : MH) (a0 : Nat) (x1 : Int32) (x2 : Int32), k4 h a0 x1 x2 = some (r, h') → V TT mX2_mostOfLeast 4 (some (.int r)) h' h 4 [.ref a0, .int x1, .int x2] [])  {h : MH} {a0 : Nat} {x1 : Int32} {x2 : Int32} (hf : bX2_mostOfLeast_4 k4 h a0 x1 x2 = some (r, h')) : V TT mX2_mostOfLeast 4 (some (.int r)) h' h 4 [.ref a0, .int x1, .int x2] [] := by
  unfold bX2_mostOfLeast_4 at hf
  refine V.iload_n (q := 5) rfl dX2_mostOfLeast_4 rfl rfl ?_
  refine V.aload_n (q := 6) rfl dX2_mostOfLeast_5 rfl rfl ?_
  obtain ⟨b1, eb1, hf⟩ := bd_ex hf
  refine V.getR (q := 9) flX2_9 rfl eb1 dX2_mostOfLeast_6 rfl ?_
  obtain ⟨b2, eb2, hf⟩ := bd_ex hf
  refine V.getR (q := 12) flX2_31 rfl eb2 dX2_mostOfLeast_9 rfl ?_
  obtain ⟨v3, ev3, hf⟩ := bd_ex hf
  refine V.getI (q := 15) flX2_41 rfl ev3 dX2_mostOfLeast_12 rfl ?_
  refine V.icmp_ge (q := 18) (tgt := 34) dX2_mostOfLeast_15 rfl (by decide) (fun c => ?_) (fun c => ?_)
  · rw [if_pos c] at hf
    refine V.iload_n (q := 35) rfl dX2_mostOfLeast_34 rfl rfl ?_
    obtain ⟨rfl, rfl⟩ := ret_inj hf
    exact V.ret (r := some (.int x1)) trivial dX2_mostOfLeast_35
  · rw [if_neg c] at hf
    refine V.iload_n (q := 19) rfl dX2_mostOfLeast_18 rfl rfl ?_
    refine V.aload_n (q := 20) rfl dX2_mostOfLeast_19 rfl rfl ?_
    refine V.iload_n (q := 21) rfl dX2_mostOfLeast_20 rfl rfl ?_
    obtain ⟨_, e4, hf⟩ := bd_ex hf
    obtain ⟨v5, h1, eh1, hf⟩ := bd2_ex hf
    refine V.callV (q := 24) (ci := 2) (vs := [.int x2]) (st := [.int x1]) (S2 := [.int v5, .int x1]) okX2_leastFor imX2_leastFor seX2_leastFor rfl lkX2_62 (tX2_leastFor eh1) rfl (ck_is e4) (by decide) rfl (Nat.le_of_ble_eq_true rfl) (Nat.le_of_ble_eq_true rfl) rfl dX2_mostOfLeast_21 rfl rfl ?_
    obtain ⟨v6, ev6, hf⟩ := bd_ex hf
    refine V.mMax (q := 27) lkX2_48 (by decide) (Nat.le_of_ble_eq_true rfl) dX2_mostOfLeast_24 rfl ?_
    refine V.topI (Option.some.inj ev6) ?_
    refine V.istore_n (q := 28) (L' := [.ref a0, .int v6, .int x2]) rfl dX2_mostOfLeast_27 rfl (by decide) rfl rfl ?_
    obtain ⟨v7, ev7, hf⟩ := bd_ex hf
    refine V.iinc (q := 31) (v := v7) (L' := [.ref a0, .int v6, .int v7]) dX2_mostOfLeast_28 rfl rfl (Option.some.inj ev7) (by decide) rfl rfl ?_
    refine V.goto (q := 4) dX2_mostOfLeast_31 (by decide) ?_
    exact hk4 _ _ _ _ hf
def fX2_mostOfLeast_4  : Nat → MH → Nat → Int32 → Int32 → Option (Int32 × MH)
  | 0 => fun _ _ _ _ => none
  | n + 1 => bX2_mostOfLeast_4  (fX2_mostOfLeast_4  n)
theorem tlX2_mostOfLeast_4 {r : Int32} {h' : MH}   : ∀ (n : Nat) (h : MH) (a0 : Nat) (x1 : Int32) (x2 : Int32), fX2_mostOfLeast_4  n h a0 x1 x2 = some (r, h') → V TT mX2_mostOfLeast 4 (some (.int r)) h' h 4 [.ref a0, .int x1, .int x2] [] := by
  intro n
  induction n with
  | zero => intro h a0 x1 x2 hf; exact nomatch (show (none : Option (Int32 × MH)) = some (r, h') from hf)
  | succ n ih => intro h a0 x1 x2 hf; exact tX2_mostOfLeast_4  (fX2_mostOfLeast_4  n) ih hf
def fX2_mostOfLeast (h : MH) (a0 : Nat) : Option (Int32 × MH) := fX2_mostOfLeast_4 FU h a0 0 0
set_option maxRecDepth 20000 in
theorem tX2_mostOfLeast {r : Int32} {h' : MH} {h : MH} {a0 : Nat} (hf : fX2_mostOfLeast h a0 = some (r, h')) : VM mX2_mostOfLeast 4 (some (.int r)) h' h [.ref a0] := by
  show V TT mX2_mostOfLeast 4 _ h' h 0 [.ref a0, Jk, Jk] []
  unfold fX2_mostOfLeast at hf
  refine V.iconst (q := 1) (v := 0) (by decide) dX2_mostOfLeast_0 rfl ?_
  refine V.istore_n (q := 2) (L' := [.ref a0, .int 0, Jk]) rfl dX2_mostOfLeast_1 rfl (by decide) rfl rfl ?_
  refine V.iconst (q := 3) (v := 0) (by decide) dX2_mostOfLeast_2 rfl ?_
  refine V.istore_n (q := 4) (L' := [.ref a0, .int 0, .int 0]) rfl dX2_mostOfLeast_3 rfl (by decide) rfl rfl ?_
  exact tlX2_mostOfLeast_4  FU _ _ _ _ hf
def fX11_applicants (h : MH) (a0 : Nat) : Option (Int32 × MH) := bd (ck h a0 11) fun _ => bd2 (fX11_troubleOfGame h a0 ) fun v2 h1 => if v2 = 0 then (bd (gR h1 a0 11 7) fun b3 => bd (ck h1 b3 2) fun _ => bd2 (fX2_mostOfLeast h1 b3 ) fun v5 h2 => bd (ck h2 a0 11) fun _ => bd2 (fX11_answer h2 a0 v5) fun v7 h3 => some (v7, h3)) else (bd (ck h1 a0 11) fun _ => bd2 (fX11_refuse h1 a0 v2) fun v4 h2 => some (v4, h2))
set_option maxRecDepth 20000 in
theorem tX11_applicants {r : Int32} {h' : MH} {h : MH} {a0 : Nat} (hf : fX11_applicants h a0 = some (r, h')) : VM mX11_applicants 5 (some (.int r)) h' h [.ref a0] := by
  show V TT mX11_applicants 5 _ h' h 0 [.ref a0, Jk] []
  unfold fX11_applicants at hf
  refine V.aload_n (q := 1) rfl dX11_applicants_0 rfl rfl ?_
  obtain ⟨_, e1, hf⟩ := bd_ex hf
  obtain ⟨v2, h1, eh1, hf⟩ := bd2_ex hf
  refine V.callV (q := 4) (ci := 11) (vs := []) (st := []) (S2 := [.int v2]) okX11_troubleOfGame imX11_troubleOfGame seX11_troubleOfGame rfl lkX11_300 (tX11_troubleOfGame eh1) rfl (ck_is e1) (by decide) rfl (Nat.le_of_ble_eq_true rfl) (Nat.le_of_ble_eq_true rfl) rfl dX11_applicants_1 rfl rfl ?_
  refine V.istore_n (q := 5) (L' := [.ref a0, .int v2]) rfl dX11_applicants_4 rfl (by decide) rfl rfl ?_
  refine V.iload_n (q := 6) rfl dX11_applicants_5 rfl rfl ?_
  refine V.if_eq (q := 9) (tgt := 17) dX11_applicants_6 rfl (by decide) (fun c => ?_) (fun c => ?_)
  · rw [if_pos c] at hf
    refine V.aload_n (q := 18) rfl dX11_applicants_17 rfl rfl ?_
    refine V.aload_n (q := 19) rfl dX11_applicants_18 rfl rfl ?_
    obtain ⟨b3, eb3, hf⟩ := bd_ex hf
    refine V.getR (q := 22) flX11_65 rfl eb3 dX11_applicants_19 rfl ?_
    obtain ⟨_, e4, hf⟩ := bd_ex hf
    obtain ⟨v5, h2, eh2, hf⟩ := bd2_ex hf
    refine V.callV (q := 25) (ci := 2) (vs := []) (st := [.ref a0]) (S2 := [.int v5, .ref a0]) okX2_mostOfLeast imX2_mostOfLeast seX2_mostOfLeast rfl lkX11_306 (tX2_mostOfLeast eh2) rfl (ck_is e4) (by decide) rfl (Nat.le_of_ble_eq_true rfl) (Nat.le_of_ble_eq_true rfl) rfl dX11_applicants_22 rfl rfl ?_
    obtain ⟨_, e6, hf⟩ := bd_ex hf
    obtain ⟨v7, h3, eh3, hf⟩ := bd2_ex hf
    refine V.callV (q := 28) (ci := 11) (vs := [.int v5]) (st := []) (S2 := [.int v7]) okX11_answer imX11_answer seX11_answer rfl lkX11_127 (tX11_answer eh3) rfl (ck_is e6) (by decide) rfl (Nat.le_of_ble_eq_true rfl) (Nat.le_of_ble_eq_true rfl) rfl dX11_applicants_25 rfl rfl ?_
    obtain ⟨rfl, rfl⟩ := ret_inj hf
    exact V.ret (r := some (.int v7)) trivial dX11_applicants_28
  · rw [if_neg c] at hf
    refine V.aload_n (q := 10) rfl dX11_applicants_9 rfl rfl ?_
    refine V.iload_n (q := 11) rfl dX11_applicants_10 rfl rfl ?_
    obtain ⟨_, e3, hf⟩ := bd_ex hf
    obtain ⟨v4, h2, eh2, hf⟩ := bd2_ex hf
    refine V.callV (q := 14) (ci := 11) (vs := [.int v2]) (st := []) (S2 := [.int v4]) okX11_refuse imX11_refuse seX11_refuse rfl lkX11_101 (tX11_refuse eh2) rfl (ck_is e3) (by decide) rfl (Nat.le_of_ble_eq_true rfl) (Nat.le_of_ble_eq_true rfl) rfl dX11_applicants_11 rfl rfl ?_
    refine V.goto (q := 28) dX11_applicants_14 (by decide) ?_
    obtain ⟨rfl, rfl⟩ := ret_inj hf
    exact V.ret (r := some (.int v4)) trivial dX11_applicants_28
def fX11_deny (h : MH) (a0 : Nat) (x1 : Int32) : Option (Int32 × MH) := bd (pI h a0 11 10 x1) fun h1 => some (0, h1)
set_option maxRecDepth 20000 in
theorem tX11_deny {r : Int32} {h' : MH} {h : MH} {a0 : Nat} {x1 : Int32} (hf : fX11_deny h a0 x1 = some (r, h')) : VM mX11_deny 0 (some (.int r)) h' h [.ref a0, .int x1] := by
  show V TT mX11_deny 0 _ h' h 0 [.ref a0, .int x1] []
  unfold fX11_deny at hf
  refine V.aload_n (q := 1) rfl dX11_deny_0 rfl rfl ?_
  refine V.iload_n (q := 2) rfl dX11_deny_1 rfl rfl ?_
  obtain ⟨h1, eh1, hf⟩ := bd_ex hf
  refine V.putI (q := 5) (fpX11_80 rfl) rfl eh1 dX11_deny_2 rfl ?_
  refine V.iconst (q := 6) (v := 0) (by decide) dX11_deny_5 rfl ?_
  obtain ⟨rfl, rfl⟩ := ret_inj hf
  exact V.ret (r := some (.int 0)) (Or.inl rfl) dX11_deny_6
def bX4_copyFrom_2 (k2 : MH → Nat → Nat → Int32 → Option (MH)) (h : MH) (a0 : Nat) (a1 : Nat) (x2 : Int32) : Option (MH) := if 31 ≤ x2 then (some h) else (bd (gR h a0 4 0) fun b1 => bd (lI h a1 x2) fun v2 => bd (tI h b1 x2 v2) fun h1 => bd (some (x2 + 1)) fun v3 => k2 h1 a0 a1 v3)
set_option maxRecDepth 20000 in
theorem tX4_copyFrom_2 {h' : MH} (k2 : MH → Nat → Nat → Int32 → Option (MH)) (hk2 : ∀ (h : MH) (a0 : Nat) (a1 : Nat) (x2 : Int32), k2 h a0 a1 x2 = some h' → V TT mX4_copyFrom 0 none h' h 2 [.ref a0, .ref a1, .int x2] [])  {h : MH} {a0 : Nat} {a1 : Nat} {x2 : Int32} (hf : bX4_copyFrom_2 k2 h a0 a1 x2 = some h') : V TT mX4_copyFrom 0 none h' h 2 [.ref a0, .ref a1, .int x2] [] := by
  unfold bX4_copyFrom_2 at hf
  refine V.iload_n (q := 3) rfl dX4_copyFrom_2 rfl rfl ?_
  refine V.bipush (q := 5) (v := 31) (by decide) dX4_copyFrom_3 rfl ?_
  refine V.icmp_ge (q := 8) (tgt := 23) dX4_copyFrom_5 rfl (by decide) (fun c => ?_) (fun c => ?_)
  · rw [if_pos c] at hf
    cases hf
    exact V.ret (r := none) trivial dX4_copyFrom_23
  · rw [if_neg c] at hf
    refine V.aload_n (q := 9) rfl dX4_copyFrom_8 rfl rfl ?_
    obtain ⟨b1, eb1, hf⟩ := bd_ex hf
    refine V.getR (q := 12) flX4_11 rfl eb1 dX4_copyFrom_9 rfl ?_
    refine V.iload_n (q := 13) rfl dX4_copyFrom_12 rfl rfl ?_
    refine V.aload_n (q := 14) rfl dX4_copyFrom_13 rfl rfl ?_
    refine V.iload_n (q := 15) rfl dX4_copyFrom_14 rfl rfl ?_
    obtain ⟨v2, ev2, hf⟩ := bd_ex hf
    refine V.iald (q := 16) ev2 dX4_copyFrom_15 rfl ?_
    obtain ⟨h1, eh1, hf⟩ := bd_ex hf
    refine V.iast (q := 17) eh1 dX4_copyFrom_16 rfl ?_
    obtain ⟨v3, ev3, hf⟩ := bd_ex hf
    refine V.iinc (q := 20) (v := v3) (L' := [.ref a0, .ref a1, .int v3]) dX4_copyFrom_17 rfl rfl (Option.some.inj ev3) (by decide) rfl rfl ?_
    refine V.goto (q := 2) dX4_copyFrom_20 (by decide) ?_
    exact hk2 _ _ _ _ hf
def fX4_copyFrom_2  : Nat → MH → Nat → Nat → Int32 → Option (MH)
  | 0 => fun _ _ _ _ => none
  | n + 1 => bX4_copyFrom_2  (fX4_copyFrom_2  n)
theorem tlX4_copyFrom_2 {h' : MH}   : ∀ (n : Nat) (h : MH) (a0 : Nat) (a1 : Nat) (x2 : Int32), fX4_copyFrom_2  n h a0 a1 x2 = some h' → V TT mX4_copyFrom 0 none h' h 2 [.ref a0, .ref a1, .int x2] [] := by
  intro n
  induction n with
  | zero => intro h a0 a1 x2 hf; exact nomatch (show (none : Option (MH)) = some h' from hf)
  | succ n ih => intro h a0 a1 x2 hf; exact tX4_copyFrom_2  (fX4_copyFrom_2  n) ih hf
def fX4_copyFrom (h : MH) (a0 : Nat) (a1 : Nat) : Option (MH) := fX4_copyFrom_2 FU h a0 a1 0
set_option maxRecDepth 20000 in
theorem tX4_copyFrom {h' : MH} {h : MH} {a0 : Nat} {a1 : Nat} (hf : fX4_copyFrom h a0 a1 = some h') : VM mX4_copyFrom 0 none h' h [.ref a0, .ref a1] := by
  show V TT mX4_copyFrom 0 _ h' h 0 [.ref a0, .ref a1, Jk] []
  unfold fX4_copyFrom at hf
  refine V.iconst (q := 1) (v := 0) (by decide) dX4_copyFrom_0 rfl ?_
  refine V.istore_n (q := 2) (L' := [.ref a0, .ref a1, .int 0]) rfl dX4_copyFrom_1 rfl (by decide) rfl rfl ?_
  exact tlX4_copyFrom_2  FU _ _ _ _ hf
