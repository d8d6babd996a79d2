def fX13_where (h : MH) (a0 : Nat) : Option (Int32 × MH) := bd (pI h a0 13 0 0) fun h1 => bd (gI h1 a0 13 2) fun v1 => some (v1, h1)
set_option maxRecDepth 20000 in
theorem tX13_where {r : Int32} {h' : MH} {h : MH} {a0 : Nat} (hf : fX13_where h a0 = some (r, h')) : VM mX13_where 0 (some (.int r)) h' h [.ref a0] := by
  show V TT mX13_where 0 _ h' h 0 [.ref a0] []
  unfold fX13_where at hf
  refine V.aload_n (q := 1) rfl dX13_where_0 rfl rfl ?_
  refine V.iconst (q := 2) (v := 0) (by decide) dX13_where_1 rfl ?_
  obtain ⟨h1, eh1, hf⟩ := bd_ex hf
  refine V.putI (q := 5) (fpX13_48 rfl) rfl eh1 dX13_where_2 rfl ?_
  refine V.aload_n (q := 6) rfl dX13_where_5 rfl rfl ?_
  obtain ⟨v1, ev1, hf⟩ := bd_ex hf
  refine V.getI (q := 9) flX13_9 rfl ev1 dX13_where_6 rfl ?_
  obtain ⟨rfl, rfl⟩ := ret_inj hf
  exact V.ret (r := some (.int v1)) trivial dX13_where_9
def bX13_worded_23 (k23 : MH → Nat → Int32 → Int32 → Option (Int32 × MH)) (h : MH) (a0 : Nat) (x1 : Int32) (x2 : Int32) : Option (Int32 × MH) := bd (ck h a0 13) fun _ => bd2 (fX13_allMarks h a0 ) fun v2 h1 => if v2 ≤ x2 then (bd (ck h1 a0 13) fun _ => bd2 (fX13_good1 h1 a0 x1) fun v4 h2 => some (v4, h2)) else (bd (ck h1 a0 13) fun _ => bd2 (fX13_allSay h1 a0 x2) fun v4 h2 => if v4 = 0 then (bd (some (x2 + 1)) fun v5 => k23 h2 a0 x1 v5) else (if x1 = (-2) then (bd (some (x2 + 1)) fun v5 => k23 h2 a0 x2 v5) else (bd2 (fX13_bits h2 x2) fun v5 h3 => bd2 (fX13_bits h3 x1) fun v6 h4 => if v6 ≤ v5 then (bd (some (x2 + 1)) fun v7 => k23 h4 a0 x1 v7) else (bd (some (x2 + 1)) fun v7 => k23 h4 a0 x2 v7))))
set_option maxRecDepth 20000 in
theorem tX13_worded_23 {r : Int32} {h' : MH} (k23 : MH → Nat → Int32 → Int32 → Option (Int32 × MH)) (hk23 : ∀ (h : MH) (a0 : Nat) (x1 : Int32) (x2 : Int32), k23 h a0 x1 x2 = some (r, h') → V TT mX13_worded 4 (some (.int r)) h' h 23 [.ref a0, .int x1, .int x2] [])  {h : MH} {a0 : Nat} {x1 : Int32} {x2 : Int32} (hf : bX13_worded_23 k23 h a0 x1 x2 = some (r, h')) : V TT mX13_worded 4 (some (.int r)) h' h 23 [.ref a0, .int x1, .int x2] [] := by
  unfold bX13_worded_23 at hf
  refine V.iload_n (q := 24) rfl dX13_worded_23 rfl rfl ?_
  refine V.aload_n (q := 25) rfl dX13_worded_24 rfl rfl ?_
  obtain ⟨_, e1, hf⟩ := bd_ex hf
  obtain ⟨v2, h1, eh1, hf⟩ := bd2_ex hf
  refine V.callV (q := 28) (ci := 13) (vs := []) (st := [.int x2]) (S2 := [.int v2, .int x2]) okX13_allMarks imX13_allMarks seX13_allMarks rfl lkX13_370 (tX13_allMarks eh1) rfl (ck_is e1) (by decide) rfl (Nat.le_of_ble_eq_true rfl) (Nat.le_of_ble_eq_true rfl) rfl dX13_worded_25 rfl rfl ?_
  refine V.icmp_ge (q := 31) (tgt := 64) dX13_worded_28 rfl (by decide) (fun c => ?_) (fun c => ?_)
  · rw [if_pos c] at hf
    refine V.aload_n (q := 65) rfl dX13_worded_64 rfl rfl ?_
    refine V.iload_n (q := 66) rfl dX13_worded_65 rfl rfl ?_
    obtain ⟨_, e3, hf⟩ := bd_ex hf
    obtain ⟨v4, h2, eh2, hf⟩ := bd2_ex hf
    refine V.callV (q := 69) (ci := 13) (vs := [.int x1]) (st := []) (S2 := [.int v4]) okX13_good1 imX13_good1 seX13_good1 rfl lkX13_58 (tX13_good1 eh2) rfl (ck_is e3) (by decide) rfl (Nat.le_of_ble_eq_true rfl) (Nat.le_of_ble_eq_true rfl) rfl dX13_worded_66 rfl rfl ?_
    obtain ⟨rfl, rfl⟩ := ret_inj hf
    exact V.ret (r := some (.int v4)) trivial dX13_worded_69
  · rw [if_neg c] at hf
    refine V.aload_n (q := 32) rfl dX13_worded_31 rfl rfl ?_
    refine V.iload_n (q := 33) rfl dX13_worded_32 rfl rfl ?_
    obtain ⟨_, e3, hf⟩ := bd_ex hf
    obtain ⟨v4, h2, eh2, hf⟩ := bd2_ex hf
    refine V.callV (q := 36) (ci := 13) (vs := [.int x2]) (st := []) (S2 := [.int v4]) okX13_allSay imX13_allSay seX13_allSay rfl lkX13_397 (tX13_allSay eh2) rfl (ck_is e3) (by decide) rfl (Nat.le_of_ble_eq_true rfl) (Nat.le_of_ble_eq_true rfl) rfl dX13_worded_33 rfl rfl ?_
    refine V.if_eq (q := 39) (tgt := 58) dX13_worded_36 rfl (by decide) (fun c => ?_) (fun c => ?_)
    · rw [if_pos c] at hf
      obtain ⟨v5, ev5, hf⟩ := bd_ex hf
      refine V.iinc (q := 61) (v := v5) (L' := [.ref a0, .int x1, .int v5]) dX13_worded_58 rfl rfl (Option.some.inj ev5) (by decide) rfl rfl ?_
      refine V.goto (q := 23) dX13_worded_61 (by decide) ?_
      exact hk23 _ _ _ _ hf
    · rw [if_neg c] at hf
      refine V.iload_n (q := 40) rfl dX13_worded_39 rfl rfl ?_
      refine V.bipush (q := 42) (v := (-2)) (by decide) dX13_worded_40 rfl ?_
      refine V.icmp_eq (q := 45) (tgt := 56) dX13_worded_42 rfl (by decide) (fun c => ?_) (fun c => ?_)
      · rw [if_pos c] at hf
        refine V.iload_n (q := 57) rfl dX13_worded_56 rfl rfl ?_
        refine V.istore_n (q := 58) (L' := [.ref a0, .int x2, .int x2]) rfl dX13_worded_57 rfl (by decide) rfl rfl ?_
        obtain ⟨v5, ev5, hf⟩ := bd_ex hf
        refine V.iinc (q := 61) (v := v5) (L' := [.ref a0, .int x2, .int v5]) dX13_worded_58 rfl rfl (Option.some.inj ev5) (by decide) rfl rfl ?_
        refine V.goto (q := 23) dX13_worded_61 (by decide) ?_
        exact hk23 _ _ _ _ hf
      · rw [if_neg c] at hf
        refine V.iload_n (q := 46) rfl dX13_worded_45 rfl rfl ?_
        obtain ⟨v5, h3, eh3, hf⟩ := bd2_ex hf
        refine V.callS (q := 49) (vs := [.int x2]) (st := []) (S2 := [.int v5]) okX13_bits stX13_bits lkX13_400 (tX13_bits eh3) rfl (by decide) rfl (Nat.le_of_ble_eq_true rfl) (Nat.le_of_ble_eq_true rfl) rfl dX13_worded_46 rfl rfl ?_
        refine V.iload_n (q := 50) rfl dX13_worded_49 rfl rfl ?_
        obtain ⟨v6, h4, eh4, hf⟩ := bd2_ex hf
        refine V.callS (q := 53) (vs := [.int x1]) (st := [.int v5]) (S2 := [.int v6, .int v5]) okX13_bits stX13_bits lkX13_400 (tX13_bits eh4) rfl (by decide) rfl (Nat.le_of_ble_eq_true rfl) (Nat.le_of_ble_eq_true rfl) rfl dX13_worded_50 rfl rfl ?_
        refine V.icmp_ge (q := 56) (tgt := 58) dX13_worded_53 rfl (by decide) (fun c => ?_) (fun c => ?_)
        · rw [if_pos c] at hf
          obtain ⟨v7, ev7, hf⟩ := bd_ex hf
          refine V.iinc (q := 61) (v := v7) (L' := [.ref a0, .int x1, .int v7]) dX13_worded_58 rfl rfl (Option.some.inj ev7) (by decide) rfl rfl ?_
          refine V.goto (q := 23) dX13_worded_61 (by decide) ?_
          exact hk23 _ _ _ _ hf
        · rw [if_neg c] at hf
          refine V.iload_n (q := 57) rfl dX13_worded_56 rfl rfl ?_
          refine V.istore_n (q := 58) (L' := [.ref a0, .int x2, .int x2]) rfl dX13_worded_57 rfl (by decide) rfl rfl ?_
          obtain ⟨v7, ev7, hf⟩ := bd_ex hf
          refine V.iinc (q := 61) (v := v7) (L' := [.ref a0, .int x2, .int v7]) dX13_worded_58 rfl rfl (Option.some.inj ev7) (by decide) rfl rfl ?_
          refine V.goto (q := 23) dX13_worded_61 (by decide) ?_
          exact hk23 _ _ _ _ hf
def fX13_worded_23  : Nat → MH → Nat → Int32 → Int32 → Option (Int32 × MH)
  | 0 => fun _ _ _ _ => none
  | n + 1 => bX13_worded_23  (fX13_worded_23  n)
theorem tlX13_worded_23 {r : Int32} {h' : MH}   : ∀ (n : Nat) (h : MH) (a0 : Nat) (x1 : Int32) (x2 : Int32), fX13_worded_23  n h a0 x1 x2 = some (r, h') → V TT mX13_worded 4 (some (.int r)) h' h 23 [.ref a0, .int x1, .int x2] [] := by
  intro n
  induction n with
  | zero => intro h a0 x1 x2 hf; exact nomatch (show (none : Option (Int32 × MH)) = some (r, h') from hf)
  | succ n ih => intro h a0 x1 x2 hf; exact tX13_worded_23  (fX13_worded_23  n) ih hf
def fX13_worded (h : MH) (a0 : Nat) : Option (Int32 × MH) := bd (pI h a0 13 0 0) fun h1 => bd (gZ h1 a0 13 3) fun z1 => if z1 = true then (bd (ck h1 a0 13) fun _ => bd2 (fX13_refused h1 a0 1) fun v3 h2 => some (v3, h2)) else (fX13_worded_23 FU h1 a0 (-2) 0)
set_option maxRecDepth 20000 in
theorem tX13_worded {r : Int32} {h' : MH} {h : MH} {a0 : Nat} (hf : fX13_worded h a0 = some (r, h')) : VM mX13_worded 4 (some (.int r)) h' h [.ref a0] := by
  show V TT mX13_worded 4 _ h' h 0 [.ref a0, Jk, Jk] []
  unfold fX13_worded at hf
  refine V.aload_n (q := 1) rfl dX13_worded_0 rfl rfl ?_
  refine V.iconst (q := 2) (v := 0) (by decide) dX13_worded_1 rfl ?_
  obtain ⟨h1, eh1, hf⟩ := bd_ex hf
  refine V.putI (q := 5) (fpX13_48 rfl) rfl eh1 dX13_worded_2 rfl ?_
  refine V.aload_n (q := 6) rfl dX13_worded_5 rfl rfl ?_
  obtain ⟨z1, ez1, hf⟩ := bd_ex hf
  refine V.getZN (q := 9) (q2 := 12) (tgt := 18) flX13_338 rfl ez1 dX13_worded_6 rfl dX13_worded_9 rfl (by decide) (fun c => ?_) (fun c => ?_)
  · rw [if_neg c] at hf
    refine V.bipush (q := 20) (v := (-2)) (by decide) dX13_worded_18 rfl ?_
    refine V.istore_n (q := 21) (L' := [.ref a0, .int (-2), Jk]) rfl dX13_worded_20 rfl (by decide) rfl rfl ?_
    refine V.iconst (q := 22) (v := 0) (by decide) dX13_worded_21 rfl ?_
    refine V.istore_n (q := 23) (L' := [.ref a0, .int (-2), .int 0]) rfl dX13_worded_22 rfl (by decide) rfl rfl ?_
    exact tlX13_worded_23  FU _ _ _ _ hf
  · rw [if_pos c] at hf
    refine V.aload_n (q := 13) rfl dX13_worded_12 rfl rfl ?_
    refine V.iconst (q := 14) (v := 1) (by decide) dX13_worded_13 rfl ?_
    obtain ⟨_, e2, hf⟩ := bd_ex hf
    obtain ⟨v3, h2, eh2, hf⟩ := bd2_ex hf
    refine V.callV (q := 17) (ci := 13) (vs := [.int 1]) (st := []) (S2 := [.int v3]) okX13_refused imX13_refused seX13_refused rfl lkX13_54 (tX13_refused eh2) rfl (ck_is e2) (by decide) rfl (Nat.le_of_ble_eq_true rfl) (Nat.le_of_ble_eq_true rfl) rfl dX13_worded_14 rfl rfl ?_
    obtain ⟨rfl, rfl⟩ := ret_inj hf
    exact V.ret (r := some (.int v3)) trivial dX13_worded_17
