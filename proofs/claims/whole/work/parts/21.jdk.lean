/-! ===== String's methods, on the texts ===== -/
theorem tJ0_coder {t : Nat} (ht : t < 26) {h : MH} : VM mJ0_coder_7d493 0 (some (.int 0)) h h [.retAddr t] := by
  show V TT mJ0_coder_7d493 0 _ h h 0 [.retAddr t] []
  refine V.getsC (q := 3) fjJ0_38 dJ0_coder_7d493_0 rfl ?_
  refine V.if_eq (q := 6) (tgt := 13) dJ0_coder_7d493_3 rfl (by decide) (fun c => absurd c (by decide)) (fun _ => ?_)
  refine V.aloadT_n (q := 7) rfl (tk_ne ht) (tk_ad ht) dJ0_coder_7d493_6 rfl rfl ?_
  refine V.tokCod (q := 10) ht fjJ0_15 dJ0_coder_7d493_7 rfl ?_
  refine V.goto (q := 14) dJ0_coder_7d493_10 (by decide) ?_
  exact V.ret (r := some (.int 0)) rfl dJ0_coder_7d493_14
theorem tJ0_isLatin1 {t : Nat} (ht : t < 26) {h : MH} : VM mJ0_isLatin1_aae02 0 (some (.int 1)) h h [.retAddr t] := by
  show V TT mJ0_isLatin1_aae02 0 _ h h 0 [.retAddr t] []
  refine V.getsC (q := 3) fjJ0_38 dJ0_isLatin1_aae02_0 rfl ?_
  refine V.if_eq (q := 6) (tgt := 17) dJ0_isLatin1_aae02_3 rfl (by decide) (fun c => absurd c (by decide)) (fun _ => ?_)
  refine V.aloadT_n (q := 7) rfl (tk_ne ht) (tk_ad ht) dJ0_isLatin1_aae02_6 rfl rfl ?_
  refine V.tokCod (q := 10) ht fjJ0_15 dJ0_isLatin1_aae02_7 rfl ?_
  refine V.if_ne (q := 13) (tgt := 17) dJ0_isLatin1_aae02_10 rfl (by decide) (fun c => absurd rfl c) (fun _ => ?_)
  refine V.iconst (q := 14) (v := 1) (by decide) dJ0_isLatin1_aae02_13 rfl ?_
  refine V.goto (q := 18) dJ0_isLatin1_aae02_14 (by decide) ?_
  exact V.ret (r := some (.int 1)) (Or.inr rfl) dJ0_isLatin1_aae02_18
def fJ0_length_8abf5 (t : Nat) : Option Int32 := sLn t
theorem i32_shr0 (x : Int32) : x >>> ((0 : Int32) &&& 31) = x := by
  rw [show ((0 : Int32) &&& 31) = 0 from by decide]
  exact Int32.shiftRight_zero
theorem tJ0_length_8abf5 {t : Nat} {x : Int32} {h : MH} (hf : fJ0_length_8abf5 t = some x) : VM mJ0_length_8abf5 1 (some (.int x)) h h [.retAddr t] := by
  have ht : t < 26 := by
    by_cases c : t < 26
    · exact c
    · unfold fJ0_length_8abf5 sLn at hf
      rw [List.getElem?_eq_none (show sTab.length ≤ t from Nat.not_lt.mp c)] at hf
      cases hf
  show V TT mJ0_length_8abf5 1 _ h h 0 [.retAddr t] []
  refine V.aloadT_n (q := 1) rfl (tk_ne ht) (tk_ad ht) dJ0_length_8abf5_0 rfl rfl ?_
  refine V.tokVal (q := 4) ht fjJ0_9 dJ0_length_8abf5_1 rfl ?_
  refine V.tokLen (q := 5) ht hf dJ0_length_8abf5_4 rfl ?_
  refine V.aloadT_n (q := 6) rfl (tk_ne ht) (tk_ad ht) dJ0_length_8abf5_5 rfl rfl ?_
  refine V.callVT (q := 9) (vs := []) (st := [.int x]) (S2 := [.int 0, .int x]) ht okJ0_coder_7d493 imJ0_coder_7d493 seJ0_coder_7d493 rfl lkJ0_335 (tJ0_coder ht) rfl (by decide) rfl (Nat.le_of_ble_eq_true rfl) (Nat.le_of_ble_eq_true rfl) rfl dJ0_length_8abf5_6 rfl rfl ?_
  refine V.ishr (q := 10) dJ0_length_8abf5_9 rfl ?_
  refine V.topI (i32_shr0 x) ?_
  exact V.ret (r := some (.int x)) trivial dJ0_length_8abf5_10
theorem tJ3_checkIndex {i n : Int32} (h1 : ¬ i < 0) (h2 : i < n) {h : MH} : VM mJ3_checkIndex_8e157 0 (some (.int i)) h h [.int i, .int n, .retAddr 1001] := by
  show V TT mJ3_checkIndex_8e157 0 _ h h 0 [.int i, .int n, .retAddr 1001] []
  refine V.iload_n (q := 1) rfl dJ3_checkIndex_8e157_0 rfl rfl ?_
  refine V.if_lt (q := 4) (tgt := 9) dJ3_checkIndex_8e157_1 rfl (by decide) (fun c => absurd c h1) (fun _ => ?_)
  refine V.iload_n (q := 5) rfl dJ3_checkIndex_8e157_4 rfl rfl ?_
  refine V.iload_n (q := 6) rfl dJ3_checkIndex_8e157_5 rfl rfl ?_
  refine V.icmp_lt (q := 9) (tgt := 16) dJ3_checkIndex_8e157_6 rfl (by decide) (fun _ => ?_) (fun c => absurd h2 c)
  refine V.iload_n (q := 17) rfl dJ3_checkIndex_8e157_16 rfl rfl ?_
  exact V.ret (r := some (.int i)) trivial dJ3_checkIndex_8e157_17
theorem V.popT {P : GE → Launch → Prop} {M : MD} {d : Nat} {r : Option Value} {h' h : MH} {pc q : Nat} {L st : List Value} {x : Int32} (hd : decode M.2.1 pc = .ok (.pop, 1)) (hq : pc + 1 = q) (k : V P M d r h' h q L st) : V P M d r h' h pc L (.int x :: st) := V.popI hd hq k
theorem tJ0_checkIndex {i n : Int32} (h1 : ¬ i < 0) (h2 : i < n) {h : MH} : VM mJ0_checkIndex_df160 1 none h h [.int i, .int n] := by
  show V TT mJ0_checkIndex_df160 1 _ h h 0 [.int i, .int n] []
  refine V.iload_n (q := 1) rfl dJ0_checkIndex_df160_0 rfl rfl ?_
  refine V.iload_n (q := 2) rfl dJ0_checkIndex_df160_1 rfl rfl ?_
  refine V.getsF (q := 5) fjJ0_1053 dJ0_checkIndex_df160_2 rfl ?_
  refine V.callS (q := 8) (vs := [.int i, .int n, .retAddr 1001]) (st := []) (S2 := [.int i]) okJ3_checkIndex_8e157 stJ3_checkIndex_8e157 lkJ0_1059 (tJ3_checkIndex h1 h2) rfl (by decide) rfl (Nat.le_of_ble_eq_true rfl) (Nat.le_of_ble_eq_true rfl) rfl dJ0_checkIndex_df160_5 rfl rfl ?_
  refine V.popI (q := 9) dJ0_checkIndex_df160_8 rfl ?_
  exact V.ret (r := none) trivial dJ0_checkIndex_df160_9
theorem sCh_t {t : Nat} {i x : Int32} (hf : sCh t i = some x) : t < 26 ∧ ¬ i < 0 ∧ (∃ n, sLn t = some n ∧ i < n) ∧ ((x &&& 255).toUInt32 % 65536).toInt32 = x ∧ narrow .char (.int x) = .int x := by
  unfold sCh at hf
  cases hz : sTab[t]? with
  | none => rw [hz] at hf; cases hf
  | some z =>
    rw [hz] at hf
    obtain ⟨⟨h1, h2⟩, ex⟩ := some_if hf
    have hl := (List.getElem?_eq_some_iff.mp hz).1
    have hs := sTab_small z (List.mem_of_getElem? hz)
    have hm : x ∈ z.2.2.2 := by
      rw [← ex, List.getD_eq_getElem?_getD, List.getElem?_eq_getElem h2]
      exact List.getElem_mem h2
    refine ⟨hl, h1, ⟨Int32.ofNat z.2.2.2.length, by unfold sLn; rw [hz]; rfl, ?_⟩, (hs.2 x hm).1, (hs.2 x hm).2⟩
    have h0 : (0 : Int) ≤ i.toInt := by
      have := Int32.not_lt.mp h1
      simpa using Int32.le_iff_toInt_le.mp this
    have e2 : i.toInt = (i.toNatClampNeg : Int) := by show i.toInt = ((i.toInt.toNat : Nat) : Int); omega
    rw [Int32.lt_iff_toInt_lt, e2, Int32.toInt_ofNat_of_lt (by have := hs.1; omega)]
    omega
theorem tJ1_charAt {t : Nat} {i x : Int32} {h : MH} (hf : sCh t i = some x) : VM mJ1_charAt_3b067 2 (some (.int x)) h h [.retAddr (100 + t), .int i] := by
  obtain ⟨ht, h1, ⟨n, hn, h2⟩, h3, h4⟩ := sCh_t hf
  show V TT mJ1_charAt_3b067 2 _ h h 0 [.retAddr (100 + t), .int i] []
  refine V.iload_n (q := 1) rfl dJ1_charAt_3b067_0 rfl rfl ?_
  refine V.aloadT_n (q := 2) rfl (by omega) (tk_adV ht) dJ1_charAt_3b067_1 rfl rfl ?_
  refine V.tokLen (q := 3) ht hn dJ1_charAt_3b067_2 rfl ?_
  refine V.callS (q := 6) (vs := [.int i, .int n]) (st := []) (S2 := []) okJ0_checkIndex_df160 stJ0_checkIndex_df160 lkJ1_9 (tJ0_checkIndex h1 h2) rfl (by decide) rfl (Nat.le_of_ble_eq_true rfl) (Nat.le_of_ble_eq_true rfl) rfl dJ1_charAt_3b067_3 rfl rfl ?_
  refine V.aloadT_n (q := 7) rfl (by omega) (tk_adV ht) dJ1_charAt_3b067_6 rfl rfl ?_
  refine V.iload_n (q := 8) rfl dJ1_charAt_3b067_7 rfl rfl ?_
  refine V.tokLd (q := 9) ht hf dJ1_charAt_3b067_8 rfl ?_
  refine V.sipush (q := 12) (v := 255) (by decide) dJ1_charAt_3b067_9 rfl ?_
  refine V.iand (q := 13) dJ1_charAt_3b067_12 rfl ?_
  refine V.i2c (q := 14) dJ1_charAt_3b067_13 rfl ?_
  refine V.topI h3 ?_
  exact V.ret (r := some (.int x)) h4 dJ1_charAt_3b067_14
def fJ0_charAt_5068e (t : Nat) (i : Int32) : Option Int32 := sCh t i
theorem tJ0_charAt_5068e {t : Nat} {i x : Int32} {h : MH} (hf : fJ0_charAt_5068e t i = some x) : VM mJ0_charAt_5068e 3 (some (.int x)) h h [.retAddr t, .int i] := by
  obtain ⟨ht, h1, ⟨n, hn, h2⟩, h3, h4⟩ := sCh_t hf
  show V TT mJ0_charAt_5068e 3 _ h h 0 [.retAddr t, .int i] []
  refine V.aloadT_n (q := 1) rfl (tk_ne ht) (tk_ad ht) dJ0_charAt_5068e_0 rfl rfl ?_
  refine V.callVT (q := 4) (vs := []) (st := []) (S2 := [.int 1]) ht okJ0_isLatin1_aae02 imJ0_isLatin1_aae02 seJ0_isLatin1_aae02 rfl lkJ0_492 (tJ0_isLatin1 ht) rfl (by decide) rfl (Nat.le_of_ble_eq_true rfl) (Nat.le_of_ble_eq_true rfl) rfl dJ0_charAt_5068e_1 rfl rfl ?_
  refine V.if_eq (q := 7) (tgt := 16) dJ0_charAt_5068e_4 rfl (by decide) (fun c => absurd c (by decide)) (fun _ => ?_)
  refine V.aloadT_n (q := 8) rfl (tk_ne ht) (tk_ad ht) dJ0_charAt_5068e_7 rfl rfl ?_
  refine V.tokVal (q := 11) ht fjJ0_9 dJ0_charAt_5068e_8 rfl ?_
  refine V.iload_n (q := 12) rfl dJ0_charAt_5068e_11 rfl rfl ?_
  refine V.callS (q := 15) (vs := [.retAddr (100 + t), .int i]) (st := []) (S2 := [.int x]) okJ1_charAt_3b067 stJ1_charAt_3b067 lkJ0_495 (tJ1_charAt hf) rfl (by decide) rfl (Nat.le_of_ble_eq_true rfl) (Nat.le_of_ble_eq_true rfl) rfl dJ0_charAt_5068e_12 rfl rfl ?_
  exact V.ret (r := some (.int x)) h4 dJ0_charAt_5068e_15
