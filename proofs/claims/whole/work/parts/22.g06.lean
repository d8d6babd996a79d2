def fX13_refusesGame (h : MH) (a0 : Nat) : Option (Int32 × MH) := bd (gZ h a0 13 3) fun z1 => if z1 = true then (some (1, h)) else (bd (gR h a0 13 3) fun b2 => bd (gI h b2 12 3) fun v3 => if v3 = 0 then (some (6, h)) else (some (0, h)))
set_option maxRecDepth 20000 in
theorem tX13_refusesGame {r : Int32} {h' : MH} {h : MH} {a0 : Nat} (hf : fX13_refusesGame h a0 = some (r, h')) : VM mX13_refusesGame 0 (some (.int r)) h' h [.ref a0] := by
  show V TT mX13_refusesGame 0 _ h' h 0 [.ref a0] []
  unfold fX13_refusesGame at hf
  refine V.aload_n (q := 1) rfl dX13_refusesGame_0 rfl rfl ?_
  obtain ⟨z1, ez1, hf⟩ := bd_ex hf
  refine V.getZN (q := 4) (q2 := 7) (tgt := 11) flX13_338 rfl ez1 dX13_refusesGame_1 rfl dX13_refusesGame_4 rfl (by decide) (fun c => ?_) (fun c => ?_)
  · rw [if_neg c] at hf
    refine V.aload_n (q := 12) rfl dX13_refusesGame_11 rfl rfl ?_
    obtain ⟨b2, eb2, hf⟩ := bd_ex hf
    refine V.getR (q := 15) flX13_338 rfl eb2 dX13_refusesGame_12 rfl ?_
    obtain ⟨v3, ev3, hf⟩ := bd_ex hf
    refine V.getI (q := 18) flX13_262 rfl ev3 dX13_refusesGame_15 rfl ?_
    refine V.if_ne (q := 21) (tgt := 26) dX13_refusesGame_18 rfl (by decide) (fun c => ?_) (fun c => ?_)
    · rw [if_neg c] at hf
      refine V.iconst (q := 27) (v := 0) (by decide) dX13_refusesGame_26 rfl ?_
      obtain ⟨rfl, rfl⟩ := ret_inj hf
      exact V.ret (r := some (.int 0)) trivial dX13_refusesGame_27
    · rw [if_pos c] at hf
      refine V.bipush (q := 23) (v := 6) (by decide) dX13_refusesGame_21 rfl ?_
      refine V.goto (q := 27) dX13_refusesGame_23 (by decide) ?_
      obtain ⟨rfl, rfl⟩ := ret_inj hf
      exact V.ret (r := some (.int 6)) trivial dX13_refusesGame_27
  · rw [if_pos c] at hf
    refine V.iconst (q := 8) (v := 1) (by decide) dX13_refusesGame_7 rfl ?_
    refine V.goto (q := 27) dX13_refusesGame_8 (by decide) ?_
    obtain ⟨rfl, rfl⟩ := ret_inj hf
    exact V.ret (r := some (.int 1)) trivial dX13_refusesGame_27
def bX13_applicants_24 (k24 : MH → Nat → Int32 → Int32 → Option (Int32 × MH)) (h : MH) (a0 : Nat) (x2 : Int32) (x3 : Int32) : Option (Int32 × MH) := bd (gR h a0 13 3) fun b1 => bd (gI h b1 12 2) fun v2 => if v2 ≤ x3 then (bd (ck h a0 13) fun _ => bd2 (fX13_good1 h a0 x2) fun v4 h1 => some (v4, h1)) else (bd (ck h a0 13) fun _ => bd2 (fX13_hasLeast h a0 x3) fun v4 h1 => if v4 ≤ x2 then (bd (some (x3 + 1)) fun v5 => k24 h1 a0 x2 v5) else (bd (ck h1 a0 13) fun _ => bd2 (fX13_hasLeast h1 a0 x3) fun v6 h2 => bd (some (x3 + 1)) fun v7 => k24 h2 a0 v6 v7))
set_option maxRecDepth 20000 in
theorem tX13_applicants_24 {r : Int32} {h' : MH} (k24 : MH → Nat → Int32 → Int32 → Option (Int32 × MH)) (hk24 : ∀ (h : MH) (a0 : Nat) (x2 : Int32) (x3 : Int32), k24 h a0 x2 x3 = some (r, h') → V TT mX13_applicants 6 (some (.int r)) h' h 24 [.ref a0, Jk, .int x2, .int x3] [])  {h : MH} {a0 : Nat} {x2 : Int32} {x3 : Int32} (hf : bX13_applicants_24 k24 h a0 x2 x3 = some (r, h')) : V TT mX13_applicants 6 (some (.int r)) h' h 24 [.ref a0, Jk, .int x2, .int x3] [] := by
  unfold bX13_applicants_24 at hf
  refine V.iload_n (q := 25) rfl dX13_applicants_24 rfl rfl ?_
  refine V.aload_n (q := 26) rfl dX13_applicants_25 rfl rfl ?_
  obtain ⟨b1, eb1, hf⟩ := bd_ex hf
  refine V.getR (q := 29) flX13_338 rfl eb1 dX13_applicants_26 rfl ?_
  obtain ⟨v2, ev2, hf⟩ := bd_ex hf
  refine V.getI (q := 32) flX13_206 rfl ev2 dX13_applicants_29 rfl ?_
  refine V.icmp_ge (q := 35) (tgt := 56) dX13_applicants_32 rfl (by decide) (fun c => ?_) (fun c => ?_)
  · rw [if_pos c] at hf
    refine V.aload_n (q := 57) rfl dX13_applicants_56 rfl rfl ?_
    refine V.iload_n (q := 58) rfl dX13_applicants_57 rfl rfl ?_
    obtain ⟨_, e3, hf⟩ := bd_ex hf
    obtain ⟨v4, h1, eh1, hf⟩ := bd2_ex hf
    refine V.callV (q := 61) (ci := 13) (vs := [.int x2]) (st := []) (S2 := [.int v4]) okX13_good1 imX13_good1 seX13_good1 rfl lkX13_58 (tX13_good1 eh1) rfl (ck_is e3) (by decide) rfl (Nat.le_of_ble_eq_true rfl) (Nat.le_of_ble_eq_true rfl) rfl dX13_applicants_58 rfl rfl ?_
    obtain ⟨rfl, rfl⟩ := ret_inj hf
    exact V.ret (r := some (.int v4)) trivial dX13_applicants_61
  · rw [if_neg c] at hf
    refine V.aload_n (q := 36) rfl dX13_applicants_35 rfl rfl ?_
    refine V.iload_n (q := 37) rfl dX13_applicants_36 rfl rfl ?_
    obtain ⟨_, e3, hf⟩ := bd_ex hf
    obtain ⟨v4, h1, eh1, hf⟩ := bd2_ex hf
    refine V.callV (q := 40) (ci := 13) (vs := [.int x3]) (st := []) (S2 := [.int v4]) okX13_hasLeast imX13_hasLeast seX13_hasLeast rfl lkX13_459 (tX13_hasLeast eh1) rfl (ck_is e3) (by decide) rfl (Nat.le_of_ble_eq_true rfl) (Nat.le_of_ble_eq_true rfl) rfl dX13_applicants_37 rfl rfl ?_
    refine V.iload_n (q := 41) rfl dX13_applicants_40 rfl rfl ?_
    refine V.icmp_le (q := 44) (tgt := 50) dX13_applicants_41 rfl (by decide) (fun c => ?_) (fun c => ?_)
    · rw [if_pos c] at hf
      obtain ⟨v5, ev5, hf⟩ := bd_ex hf
      refine V.iinc (q := 53) (v := v5) (L' := [.ref a0, Jk, .int x2, .int v5]) dX13_applicants_50 rfl rfl (Option.some.inj ev5) (by decide) rfl rfl ?_
      refine V.goto (q := 24) dX13_applicants_53 (by decide) ?_
      exact hk24 _ _ _ _ hf
    · rw [if_neg c] at hf
      refine V.aload_n (q := 45) rfl dX13_applicants_44 rfl rfl ?_
      refine V.iload_n (q := 46) rfl dX13_applicants_45 rfl rfl ?_
      obtain ⟨_, e5, hf⟩ := bd_ex hf
      obtain ⟨v6, h2, eh2, hf⟩ := bd2_ex hf
      refine V.callV (q := 49) (ci := 13) (vs := [.int x3]) (st := []) (S2 := [.int v6]) okX13_hasLeast imX13_hasLeast seX13_hasLeast rfl lkX13_459 (tX13_hasLeast eh2) rfl (ck_is e5) (by decide) rfl (Nat.le_of_ble_eq_true rfl) (Nat.le_of_ble_eq_true rfl) rfl dX13_applicants_46 rfl rfl ?_
      refine V.istore_n (q := 50) (L' := [.ref a0, Jk, .int v6, .int x3]) rfl dX13_applicants_49 rfl (by decide) rfl rfl ?_
      obtain ⟨v7, ev7, hf⟩ := bd_ex hf
      refine V.iinc (q := 53) (v := v7) (L' := [.ref a0, Jk, .int v6, .int v7]) dX13_applicants_50 rfl rfl (Option.some.inj ev7) (by decide) rfl rfl ?_
      refine V.goto (q := 24) dX13_applicants_53 (by decide) ?_
      exact hk24 _ _ _ _ hf
def fX13_applicants_24  : Nat → MH → Nat → Int32 → Int32 → Option (Int32 × MH)
  | 0 => fun _ _ _ _ => none
  | n + 1 => bX13_applicants_24  (fX13_applicants_24  n)
theorem tlX13_applicants_24 {r : Int32} {h' : MH}   : ∀ (n : Nat) (h : MH) (a0 : Nat) (x2 : Int32) (x3 : Int32), fX13_applicants_24  n h a0 x2 x3 = some (r, h') → V TT mX13_applicants 6 (some (.int r)) h' h 24 [.ref a0, Jk, .int x2, .int x3] [] := by
  intro n
  induction n with
  | zero => intro h a0 x2 x3 hf; exact nomatch (show (none : Option (Int32 × MH)) = some (r, h') from hf)
  | succ n ih => intro h a0 x2 x3 hf; exact tX13_applicants_24  (fX13_applicants_24  n) ih hf
def fX13_applicants (h : MH) (a0 : Nat) : Option (Int32 × MH) := bd (pI h a0 13 0 0) fun h1 => bd (ck h1 a0 13) fun _ => bd2 (fX13_refusesGame h1 a0 ) fun v2 h2 => if v2 ≤ 0 then (fX13_applicants_24 FU h2 a0 0 0) else (bd (ck h2 a0 13) fun _ => bd2 (fX13_refused h2 a0 v2) fun v4 h3 => some (v4, h3))
set_option maxRecDepth 20000 in
theorem tX13_applicants {r : Int32} {h' : MH} {h : MH} {a0 : Nat} (hf : fX13_applicants h a0 = some (r, h')) : VM mX13_applicants 6 (some (.int r)) h' h [.ref a0] := by
  show V TT mX13_applicants 6 _ h' h 0 [.ref a0, Jk, Jk, Jk] []
  unfold fX13_applicants at hf
  refine V.aload_n (q := 1) rfl dX13_applicants_0 rfl rfl ?_
  refine V.iconst (q := 2) (v := 0) (by decide) dX13_applicants_1 rfl ?_
  obtain ⟨h1, eh1, hf⟩ := bd_ex hf
  refine V.putI (q := 5) (fpX13_48 rfl) rfl eh1 dX13_applicants_2 rfl ?_
  refine V.aload_n (q := 6) rfl dX13_applicants_5 rfl rfl ?_
  obtain ⟨_, e1, hf⟩ := bd_ex hf
  obtain ⟨v2, h2, eh2, hf⟩ := bd2_ex hf
  refine V.callV (q := 9) (ci := 13) (vs := []) (st := []) (S2 := [.int v2]) okX13_refusesGame imX13_refusesGame seX13_refusesGame rfl lkX13_453 (tX13_refusesGame eh2) rfl (ck_is e1) (by decide) rfl (Nat.le_of_ble_eq_true rfl) (Nat.le_of_ble_eq_true rfl) rfl dX13_applicants_6 rfl rfl ?_
  refine V.istore_n (q := 10) (L' := [.ref a0, .int v2, Jk, Jk]) rfl dX13_applicants_9 rfl (by decide) rfl rfl ?_
  refine V.iload_n (q := 11) rfl dX13_applicants_10 rfl rfl ?_
  refine V.if_le (q := 14) (tgt := 20) dX13_applicants_11 rfl (by decide) (fun c => ?_) (fun c => ?_)
  · rw [if_pos c] at hf
    refine V.iconst (q := 21) (v := 0) (by decide) dX13_applicants_20 rfl ?_
    refine V.istore_n (q := 22) (L' := [.ref a0, .int v2, .int 0, Jk]) rfl dX13_applicants_21 rfl (by decide) rfl rfl ?_
    refine V.iconst (q := 23) (v := 0) (by decide) dX13_applicants_22 rfl ?_
    refine V.istore_n (q := 24) (L' := [.ref a0, .int v2, .int 0, .int 0]) rfl dX13_applicants_23 rfl (by decide) rfl rfl ?_
    refine V.forget (L' := [.ref a0, Jk, .int 0, .int 0]) ⟨Or.inr rfl, Or.inl rfl, Or.inr rfl, Or.inr rfl, trivial⟩ ?_
    exact tlX13_applicants_24  FU _ _ _ _ hf
  · rw [if_neg c] at hf
    refine V.aload_n (q := 15) rfl dX13_applicants_14 rfl rfl ?_
    refine V.iload_n (q := 16) rfl dX13_applicants_15 rfl rfl ?_
    obtain ⟨_, e3, hf⟩ := bd_ex hf
    obtain ⟨v4, h3, eh3, hf⟩ := bd2_ex hf
    refine V.callV (q := 19) (ci := 13) (vs := [.int v2]) (st := []) (S2 := [.int v4]) okX13_refused imX13_refused seX13_refused rfl lkX13_54 (tX13_refused eh3) rfl (ck_is e3) (by decide) rfl (Nat.le_of_ble_eq_true rfl) (Nat.le_of_ble_eq_true rfl) rfl dX13_applicants_16 rfl rfl ?_
    obtain ⟨rfl, rfl⟩ := ret_inj hf
    exact V.ret (r := some (.int v4)) trivial dX13_applicants_19
def bX13_asInk_2 (k2 : MH → Nat → Int32 → Option (MH)) (h : MH) (a0 : Nat) (x1 : Int32) : Option (MH) := if 4 ≤ x1 then (some h) else (bd (gR h a0 13 24) fun b1 => bd (gR h a0 13 15) fun b2 => bd (lI h b2 (0 + x1)) fun v3 => bd (tI h b1 x1 v3) fun h1 => bd (some (x1 + 1)) fun v4 => k2 h1 a0 v4)
set_option maxRecDepth 20000 in
theorem tX13_asInk_2 {h' : MH} (k2 : MH → Nat → Int32 → Option (MH)) (hk2 : ∀ (h : MH) (a0 : Nat) (x1 : Int32), k2 h a0 x1 = some h' → V TT mX13_asInk 0 none h' h 2 [.ref a0, .int x1] [])  {h : MH} {a0 : Nat} {x1 : Int32} (hf : bX13_asInk_2 k2 h a0 x1 = some h') : V TT mX13_asInk 0 none h' h 2 [.ref a0, .int x1] [] := by
  unfold bX13_asInk_2 at hf
  refine V.iload_n (q := 3) rfl dX13_asInk_2 rfl rfl ?_
  refine V.iconst (q := 4) (v := 4) (by decide) dX13_asInk_3 rfl ?_
  refine V.icmp_ge (q := 7) (tgt := 27) dX13_asInk_4 rfl (by decide) (fun c => ?_) (fun c => ?_)
  · rw [if_pos c] at hf
    cases hf
    exact V.ret (r := none) trivial dX13_asInk_27
  · rw [if_neg c] at hf
    refine V.aload_n (q := 8) rfl dX13_asInk_7 rfl rfl ?_
    obtain ⟨b1, eb1, hf⟩ := bd_ex hf
    refine V.getR (q := 11) flX13_39 rfl eb1 dX13_asInk_8 rfl ?_
    refine V.iload_n (q := 12) rfl dX13_asInk_11 rfl rfl ?_
    refine V.aload_n (q := 13) rfl dX13_asInk_12 rfl rfl ?_
    obtain ⟨b2, eb2, hf⟩ := bd_ex hf
    refine V.getR (q := 16) flX13_17 rfl eb2 dX13_asInk_13 rfl ?_
    refine V.iconst (q := 17) (v := 0) (by decide) dX13_asInk_16 rfl ?_
    refine V.iload_n (q := 18) rfl dX13_asInk_17 rfl rfl ?_
    refine V.iadd (q := 19) dX13_asInk_18 rfl ?_
    obtain ⟨v3, ev3, hf⟩ := bd_ex hf
    refine V.iald (q := 20) ev3 dX13_asInk_19 rfl ?_
    obtain ⟨h1, eh1, hf⟩ := bd_ex hf
    refine V.iast (q := 21) eh1 dX13_asInk_20 rfl ?_
    obtain ⟨v4, ev4, hf⟩ := bd_ex hf
    refine V.iinc (q := 24) (v := v4) (L' := [.ref a0, .int v4]) dX13_asInk_21 rfl rfl (Option.some.inj ev4) (by decide) rfl rfl ?_
    refine V.goto (q := 2) dX13_asInk_24 (by decide) ?_
    exact hk2 _ _ _ hf
def fX13_asInk_2  : Nat → MH → Nat → Int32 → Option (MH)
  | 0 => fun _ _ _ => none
  | n + 1 => bX13_asInk_2  (fX13_asInk_2  n)
theorem tlX13_asInk_2 {h' : MH}   : ∀ (n : Nat) (h : MH) (a0 : Nat) (x1 : Int32), fX13_asInk_2  n h a0 x1 = some h' → V TT mX13_asInk 0 none h' h 2 [.ref a0, .int x1] [] := by
  intro n
  induction n with
  | zero => intro h a0 x1 hf; exact nomatch (show (none : Option (MH)) = some h' from hf)
  | succ n ih => intro h a0 x1 hf; exact tX13_asInk_2  (fX13_asInk_2  n) ih hf
def fX13_asInk (h : MH) (a0 : Nat) : Option (MH) := fX13_asInk_2 FU h a0 0
set_option maxRecDepth 20000 in
theorem tX13_asInk {h' : MH} {h : MH} {a0 : Nat} (hf : fX13_asInk h a0 = some h') : VM mX13_asInk 0 none h' h [.ref a0] := by
  show V TT mX13_asInk 0 _ h' h 0 [.ref a0, Jk] []
  unfold fX13_asInk at hf
  refine V.iconst (q := 1) (v := 0) (by decide) dX13_asInk_0 rfl ?_
  refine V.istore_n (q := 2) (L' := [.ref a0, .int 0]) rfl dX13_asInk_1 rfl (by decide) rfl rfl ?_
  exact tlX13_asInk_2  FU _ _ _ hf
def fX13_denied (h : MH) (a0 : Nat) (x1 : Int32) : Option (Int32 × MH) := bd (ck h a0 13) fun _ => bd2 (fX13_refused h a0 x1) fun v2 h1 => some (0, h1)
set_option maxRecDepth 20000 in
theorem tX13_denied {r : Int32} {h' : MH} {h : MH} {a0 : Nat} {x1 : Int32} (hf : fX13_denied h a0 x1 = some (r, h')) : VM mX13_denied 1 (some (.int r)) h' h [.ref a0, .int x1] := by
  show V TT mX13_denied 1 _ h' h 0 [.ref a0, .int x1] []
  unfold fX13_denied at hf
  refine V.aload_n (q := 1) rfl dX13_denied_0 rfl rfl ?_
  refine V.iload_n (q := 2) rfl dX13_denied_1 rfl rfl ?_
  obtain ⟨_, e1, hf⟩ := bd_ex hf
  obtain ⟨v2, h1, eh1, hf⟩ := bd2_ex hf
  refine V.callV (q := 5) (ci := 13) (vs := [.int x1]) (st := []) (S2 := [.int v2]) okX13_refused imX13_refused seX13_refused rfl lkX13_54 (tX13_refused eh1) rfl (ck_is e1) (by decide) rfl (Nat.le_of_ble_eq_true rfl) (Nat.le_of_ble_eq_true rfl) rfl dX13_denied_2 rfl rfl ?_
  refine V.popI (q := 6) dX13_denied_5 rfl ?_
  refine V.iconst (q := 7) (v := 0) (by decide) dX13_denied_6 rfl ?_
  obtain ⟨rfl, rfl⟩ := ret_inj hf
  exact V.ret (r := some (.int 0)) (Or.inl rfl) dX13_denied_7
def fX13_granted (h : MH) (a0 : Nat) : Option (Int32 × MH) := bd (ck h a0 13) fun _ => bd2 (fX13_good1 h a0 0) fun v2 h1 => some (1, h1)
set_option maxRecDepth 20000 in
theorem tX13_granted {r : Int32} {h' : MH} {h : MH} {a0 : Nat} (hf : fX13_granted h a0 = some (r, h')) : VM mX13_granted 1 (some (.int r)) h' h [.ref a0] := by
  show V TT mX13_granted 1 _ h' h 0 [.ref a0] []
  unfold fX13_granted at hf
  refine V.aload_n (q := 1) rfl dX13_granted_0 rfl rfl ?_
  refine V.iconst (q := 2) (v := 0) (by decide) dX13_granted_1 rfl ?_
  obtain ⟨_, e1, hf⟩ := bd_ex hf
  obtain ⟨v2, h1, eh1, hf⟩ := bd2_ex hf
  refine V.callV (q := 5) (ci := 13) (vs := [.int 0]) (st := []) (S2 := [.int v2]) okX13_good1 imX13_good1 seX13_good1 rfl lkX13_58 (tX13_good1 eh1) rfl (ck_is e1) (by decide) rfl (Nat.le_of_ble_eq_true rfl) (Nat.le_of_ble_eq_true rfl) rfl dX13_granted_2 rfl rfl ?_
  refine V.popI (q := 6) dX13_granted_5 rfl ?_
  refine V.iconst (q := 7) (v := 1) (by decide) dX13_granted_6 rfl ?_
  obtain ⟨rfl, rfl⟩ := ret_inj hf
  exact V.ret (r := some (.int 1)) (Or.inr rfl) dX13_granted_7
def bX13_back_32 (k32 : MH → Nat → Int32 → Int32 → Option (Int32 × MH)) (h : MH) (a0 : Nat) (x1 : Int32) (x2 : Int32) : Option (Int32 × MH) := if 31 ≤ x2 then (bd (pI h a0 13 18 0) fun h1 => bd (ck h1 a0 13) fun _ => bd2 (fX13_granted h1 a0 ) fun v2 h2 => rB v2 h2) else (bd (gR h a0 13 15) fun b1 => bd (gR h a0 13 17) fun b2 => bd (lI h b2 ((31 * x1) + x2)) fun v3 => bd (tI h b1 x2 v3) fun h1 => bd (some (x2 + 1)) fun v4 => k32 h1 a0 x1 v4)
set_option maxRecDepth 20000 in
theorem tX13_back_32 {r : Int32} {h' : MH} (k32 : MH → Nat → Int32 → Int32 → Option (Int32 × MH)) (hk32 : ∀ (h : MH) (a0 : Nat) (x1 : Int32) (x2 : Int32), k32 h a0 x1 x2 = some (r, h') → V TT mX13_back 2 (some (.int r)) h' h 32 [.ref a0, .int x1, .int x2] [])  {h : MH} {a0 : Nat} {x1 : Int32} {x2 : Int32} (hf : bX13_back_32 k32 h a0 x1 x2 = some (r, h')) : V TT mX13_back 2 (some (.int r)) h' h 32 [.ref a0, .int x1, .int x2] [] := by
  unfold bX13_back_32 at hf
  refine V.iload_n (q := 33) rfl dX13_back_32 rfl rfl ?_
  refine V.bipush (q := 35) (v := 31) (by decide) dX13_back_33 rfl ?_
  refine V.icmp_ge (q := 38) (tgt := 61) dX13_back_35 rfl (by decide) (fun c => ?_) (fun c => ?_)
  · rw [if_pos c] at hf
    refine V.aload_n (q := 62) rfl dX13_back_61 rfl rfl ?_
    refine V.iconst (q := 63) (v := 0) (by decide) dX13_back_62 rfl ?_
    obtain ⟨h1, eh1, hf⟩ := bd_ex hf
    refine V.putI (q := 66) (fpX13_340 rfl) rfl eh1 dX13_back_63 rfl ?_
    refine V.aload_n (q := 67) rfl dX13_back_66 rfl rfl ?_
    obtain ⟨_, e1, hf⟩ := bd_ex hf
    obtain ⟨v2, h2, eh2, hf⟩ := bd2_ex hf
    refine V.callV (q := 70) (ci := 13) (vs := []) (st := []) (S2 := [.int v2]) okX13_granted imX13_granted seX13_granted rfl lkX13_490 (tX13_granted eh2) rfl (ck_is e1) (by decide) rfl (Nat.le_of_ble_eq_true rfl) (Nat.le_of_ble_eq_true rfl) rfl dX13_back_67 rfl rfl ?_
    obtain ⟨hb, rfl, rfl⟩ := rB_inj hf
    exact V.ret (r := some (.int v2)) hb dX13_back_70
  · rw [if_neg c] at hf
    refine V.aload_n (q := 39) rfl dX13_back_38 rfl rfl ?_
    obtain ⟨b1, eb1, hf⟩ := bd_ex hf
    refine V.getR (q := 42) flX13_17 rfl eb1 dX13_back_39 rfl ?_
    refine V.iload_n (q := 43) rfl dX13_back_42 rfl rfl ?_
    refine V.aload_n (q := 44) rfl dX13_back_43 rfl rfl ?_
    obtain ⟨b2, eb2, hf⟩ := bd_ex hf
    refine V.getR (q := 47) flX13_24 rfl eb2 dX13_back_44 rfl ?_
    refine V.bipush (q := 49) (v := 31) (by decide) dX13_back_47 rfl ?_
    refine V.iload_n (q := 50) rfl dX13_back_49 rfl rfl ?_
    refine V.imul (q := 51) dX13_back_50 rfl ?_
    refine V.iload_n (q := 52) rfl dX13_back_51 rfl rfl ?_
    refine V.iadd (q := 53) dX13_back_52 rfl ?_
    obtain ⟨v3, ev3, hf⟩ := bd_ex hf
    refine V.iald (q := 54) ev3 dX13_back_53 rfl ?_
    obtain ⟨h1, eh1, hf⟩ := bd_ex hf
    refine V.iast (q := 55) eh1 dX13_back_54 rfl ?_
    obtain ⟨v4, ev4, hf⟩ := bd_ex hf
    refine V.iinc (q := 58) (v := v4) (L' := [.ref a0, .int x1, .int v4]) dX13_back_55 rfl rfl (Option.some.inj ev4) (by decide) rfl rfl ?_
    refine V.goto (q := 32) dX13_back_58 (by decide) ?_
    exact hk32 _ _ _ _ hf
def fX13_back_32  : Nat → MH → Nat → Int32 → Int32 → Option (Int32 × MH)
  | 0 => fun _ _ _ _ => none
  | n + 1 => bX13_back_32  (fX13_back_32  n)
theorem tlX13_back_32 {r : Int32} {h' : MH}   : ∀ (n : Nat) (h : MH) (a0 : Nat) (x1 : Int32) (x2 : Int32), fX13_back_32  n h a0 x1 x2 = some (r, h') → V TT mX13_back 2 (some (.int r)) h' h 32 [.ref a0, .int x1, .int x2] [] := by
  intro n
  induction n with
  | zero => intro h a0 x1 x2 hf; exact nomatch (show (none : Option (Int32 × MH)) = some (r, h') from hf)
  | succ n ih => intro h a0 x1 x2 hf; exact tX13_back_32  (fX13_back_32  n) ih hf
def fX13_back (h : MH) (a0 : Nat) (x1 : Int32) : Option (Int32 × MH) := bd (pI h a0 13 0 0) fun h1 => bd (gZ h1 a0 13 3) fun z1 => if z1 = true then (bd (ck h1 a0 13) fun _ => bd2 (fX13_denied h1 a0 1) fun v3 h2 => rB v3 h2) else (if x1 < 0 then (bd (ck h1 a0 13) fun _ => bd2 (fX13_denied h1 a0 1) fun v5 h3 => rB v5 h3) else (bd (gI h1 a0 13 19) fun v4 => if x1 < v4 then (fX13_back_32 FU h1 a0 x1 0) else (bd (ck h1 a0 13) fun _ => bd2 (fX13_denied h1 a0 1) fun v6 h3 => rB v6 h3)))
set_option maxRecDepth 20000 in
theorem tX13_back {r : Int32} {h' : MH} {h : MH} {a0 : Nat} {x1 : Int32} (hf : fX13_back h a0 x1 = some (r, h')) : VM mX13_back 2 (some (.int r)) h' h [.ref a0, .int x1] := by
  show V TT mX13_back 2 _ h' h 0 [.ref a0, .int x1, Jk] []
  unfold fX13_back at hf
  refine V.aload_n (q := 1) rfl dX13_back_0 rfl rfl ?_
  refine V.iconst (q := 2) (v := 0) (by decide) dX13_back_1 rfl ?_
  obtain ⟨h1, eh1, hf⟩ := bd_ex hf
  refine V.putI (q := 5) (fpX13_48 rfl) rfl eh1 dX13_back_2 rfl ?_
  refine V.aload_n (q := 6) rfl dX13_back_5 rfl rfl ?_
  obtain ⟨z1, ez1, hf⟩ := bd_ex hf
  refine V.getZ (q := 9) (q2 := 12) (tgt := 24) flX13_338 rfl ez1 dX13_back_6 rfl dX13_back_9 rfl (by decide) (fun c => ?_) (fun c => ?_)
  · rw [if_pos c] at hf
    refine V.aload_n (q := 25) rfl dX13_back_24 rfl rfl ?_
    refine V.iconst (q := 26) (v := 1) (by decide) dX13_back_25 rfl ?_
    obtain ⟨_, e2, hf⟩ := bd_ex hf
    obtain ⟨v3, h2, eh2, hf⟩ := bd2_ex hf
    refine V.callV (q := 29) (ci := 13) (vs := [.int 1]) (st := []) (S2 := [.int v3]) okX13_denied imX13_denied seX13_denied rfl lkX13_487 (tX13_denied eh2) rfl (ck_is e2) (by decide) rfl (Nat.le_of_ble_eq_true rfl) (Nat.le_of_ble_eq_true rfl) rfl dX13_back_26 rfl rfl ?_
    obtain ⟨hb, rfl, rfl⟩ := rB_inj hf
    exact V.ret (r := some (.int v3)) hb dX13_back_29
  · rw [if_neg c] at hf
    refine V.iload_n (q := 13) rfl dX13_back_12 rfl rfl ?_
    refine V.if_lt (q := 16) (tgt := 24) dX13_back_13 rfl (by decide) (fun c => ?_) (fun c => ?_)
    · rw [if_pos c] at hf
      refine V.aload_n (q := 25) rfl dX13_back_24 rfl rfl ?_
      refine V.iconst (q := 26) (v := 1) (by decide) dX13_back_25 rfl ?_
      obtain ⟨_, e4, hf⟩ := bd_ex hf
      obtain ⟨v5, h3, eh3, hf⟩ := bd2_ex hf
      refine V.callV (q := 29) (ci := 13) (vs := [.int 1]) (st := []) (S2 := [.int v5]) okX13_denied imX13_denied seX13_denied rfl lkX13_487 (tX13_denied eh3) rfl (ck_is e4) (by decide) rfl (Nat.le_of_ble_eq_true rfl) (Nat.le_of_ble_eq_true rfl) rfl dX13_back_26 rfl rfl ?_
      obtain ⟨hb, rfl, rfl⟩ := rB_inj hf
      exact V.ret (r := some (.int v5)) hb dX13_back_29
    · rw [if_neg c] at hf
      refine V.iload_n (q := 17) rfl dX13_back_16 rfl rfl ?_
      refine V.aload_n (q := 18) rfl dX13_back_17 rfl rfl ?_
      obtain ⟨v4, ev4, hf⟩ := bd_ex hf
      refine V.getI (q := 21) flX13_343 rfl ev4 dX13_back_18 rfl ?_
      refine V.icmp_lt (q := 24) (tgt := 30) dX13_back_21 rfl (by decide) (fun c => ?_) (fun c => ?_)
      · rw [if_pos c] at hf
        refine V.iconst (q := 31) (v := 0) (by decide) dX13_back_30 rfl ?_
        refine V.istore_n (q := 32) (L' := [.ref a0, .int x1, .int 0]) rfl dX13_back_31 rfl (by decide) rfl rfl ?_
        exact tlX13_back_32  FU _ _ _ _ hf
      · rw [if_neg c] at hf
        refine V.aload_n (q := 25) rfl dX13_back_24 rfl rfl ?_
        refine V.iconst (q := 26) (v := 1) (by decide) dX13_back_25 rfl ?_
        obtain ⟨_, e5, hf⟩ := bd_ex hf
        obtain ⟨v6, h3, eh3, hf⟩ := bd2_ex hf
        refine V.callV (q := 29) (ci := 13) (vs := [.int 1]) (st := []) (S2 := [.int v6]) okX13_denied imX13_denied seX13_denied rfl lkX13_487 (tX13_denied eh3) rfl (ck_is e5) (by decide) rfl (Nat.le_of_ble_eq_true rfl) (Nat.le_of_ble_eq_true rfl) rfl dX13_back_26 rfl rfl ?_
        obtain ⟨hb, rfl, rfl⟩ := rB_inj hf
        exact V.ret (r := some (.int v6)) hb dX13_back_29
def fX13_isPaper (h : MH) (a0 : Nat) (x1 : Int32) : Option (Int32 × MH) := bd (gZ h a0 13 3) fun z1 => if z1 = true then (some (0, h)) else (if x1 < 0 then (some (0, h)) else (bd (gR h a0 13 3) fun b2 => bd (gI h b2 12 2) fun v3 => if v3 ≤ x1 then (some (0, h)) else (some (1, h))))
set_option maxRecDepth 20000 in
theorem tX13_isPaper {r : Int32} {h' : MH} {h : MH} {a0 : Nat} {x1 : Int32} (hf : fX13_isPaper h a0 x1 = some (r, h')) : VM mX13_isPaper 0 (some (.int r)) h' h [.ref a0, .int x1] := by
  show V TT mX13_isPaper 0 _ h' h 0 [.ref a0, .int x1] []
  unfold fX13_isPaper at hf
  refine V.aload_n (q := 1) rfl dX13_isPaper_0 rfl rfl ?_
  obtain ⟨z1, ez1, hf⟩ := bd_ex hf
  refine V.getZ (q := 4) (q2 := 7) (tgt := 26) flX13_338 rfl ez1 dX13_isPaper_1 rfl dX13_isPaper_4 rfl (by decide) (fun c => ?_) (fun c => ?_)
  · rw [if_pos c] at hf
    refine V.iconst (q := 27) (v := 0) (by decide) dX13_isPaper_26 rfl ?_
    obtain ⟨rfl, rfl⟩ := ret_inj hf
    exact V.ret (r := some (.int 0)) (Or.inl rfl) dX13_isPaper_27
  · rw [if_neg c] at hf
    refine V.iload_n (q := 8) rfl dX13_isPaper_7 rfl rfl ?_
    refine V.if_lt (q := 11) (tgt := 26) dX13_isPaper_8 rfl (by decide) (fun c => ?_) (fun c => ?_)
    · rw [if_pos c] at hf
      refine V.iconst (q := 27) (v := 0) (by decide) dX13_isPaper_26 rfl ?_
      obtain ⟨rfl, rfl⟩ := ret_inj hf
      exact V.ret (r := some (.int 0)) (Or.inl rfl) dX13_isPaper_27
    · rw [if_neg c] at hf
      refine V.iload_n (q := 12) rfl dX13_isPaper_11 rfl rfl ?_
      refine V.aload_n (q := 13) rfl dX13_isPaper_12 rfl rfl ?_
      obtain ⟨b2, eb2, hf⟩ := bd_ex hf
      refine V.getR (q := 16) flX13_338 rfl eb2 dX13_isPaper_13 rfl ?_
      obtain ⟨v3, ev3, hf⟩ := bd_ex hf
      refine V.getI (q := 19) flX13_206 rfl ev3 dX13_isPaper_16 rfl ?_
      refine V.icmp_ge (q := 22) (tgt := 26) dX13_isPaper_19 rfl (by decide) (fun c => ?_) (fun c => ?_)
      · rw [if_pos c] at hf
        refine V.iconst (q := 27) (v := 0) (by decide) dX13_isPaper_26 rfl ?_
        obtain ⟨rfl, rfl⟩ := ret_inj hf
        exact V.ret (r := some (.int 0)) (Or.inl rfl) dX13_isPaper_27
      · rw [if_neg c] at hf
        refine V.iconst (q := 23) (v := 1) (by decide) dX13_isPaper_22 rfl ?_
        refine V.goto (q := 27) dX13_isPaper_23 (by decide) ?_
        obtain ⟨rfl, rfl⟩ := ret_inj hf
        exact V.ret (r := some (.int 1)) (Or.inr rfl) dX13_isPaper_27
def bX13_yesSaid_4 (k4 : MH → Nat → Int32 → Int32 → Int32 → Option (Int32 × MH)) (h : MH) (a0 : Nat) (x1 : Int32) (x2 : Int32) (x3 : Int32) : Option (Int32 × MH) := bd (gR h a0 13 3) fun b1 => bd (gI h b1 12 3) fun v2 => if v2 ≤ x3 then (some (x2, h)) else (bd (ck h a0 13) fun _ => bd2 (fX13_saysBy h a0 x3 x1) fun v4 h1 => if v4 = 1 then (bd (some (x2 + 1)) fun v5 => bd (some (x3 + 1)) fun v6 => k4 h1 a0 x1 v5 v6) else (bd (some (x2 + 0)) fun v5 => bd (some (x3 + 1)) fun v6 => k4 h1 a0 x1 v5 v6))
set_option maxRecDepth 20000 in
theorem tX13_yesSaid_4 {r : Int32} {h' : MH} (k4 : MH → Nat → Int32 → Int32 → Int32 → Option (Int32 × MH)) (hk4 : ∀ (h : MH) (a0 : Nat) (x1 : Int32) (x2 : Int32) (x3 : Int32), k4 h a0 x1 x2 x3 = some (r, h') → V TT mX13_yesSaid 3 (some (.int r)) h' h 4 [.ref a0, .int x1, .int x2, .int x3] [])  {h : MH} {a0 : Nat} {x1 : Int32} {x2 : Int32} {x3 : Int32} (hf : bX13_yesSaid_4 k4 h a0 x1 x2 x3 = some (r, h')) : V TT mX13_yesSaid 3 (some (.int r)) h' h 4 [.ref a0, .int x1, .int x2, .int x3] [] := by
  unfold bX13_yesSaid_4 at hf
  refine V.iload_n (q := 5) rfl dX13_yesSaid_4 rfl rfl ?_
  refine V.aload_n (q := 6) rfl dX13_yesSaid_5 rfl rfl ?_
  obtain ⟨b1, eb1, hf⟩ := bd_ex hf
  refine V.getR (q := 9) flX13_338 rfl eb1 dX13_yesSaid_6 rfl ?_
  obtain ⟨v2, ev2, hf⟩ := bd_ex hf
  refine V.getI (q := 12) flX13_262 rfl ev2 dX13_yesSaid_9 rfl ?_
  refine V.icmp_ge (q := 15) (tgt := 39) dX13_yesSaid_12 rfl (by decide) (fun c => ?_) (fun c => ?_)
  · rw [if_pos c] at hf
    refine V.iload_n (q := 40) rfl dX13_yesSaid_39 rfl rfl ?_
    obtain ⟨rfl, rfl⟩ := ret_inj hf
    exact V.ret (r := some (.int x2)) trivial dX13_yesSaid_40
  · rw [if_neg c] at hf
    refine V.iload_n (q := 16) rfl dX13_yesSaid_15 rfl rfl ?_
    refine V.aload_n (q := 17) rfl dX13_yesSaid_16 rfl rfl ?_
    refine V.iload_n (q := 18) rfl dX13_yesSaid_17 rfl rfl ?_
    refine V.iload_n (q := 19) rfl dX13_yesSaid_18 rfl rfl ?_
    obtain ⟨_, e3, hf⟩ := bd_ex hf
    obtain ⟨v4, h1, eh1, hf⟩ := bd2_ex hf
    refine V.callV (q := 22) (ci := 13) (vs := [.int x3, .int x1]) (st := [.int x2]) (S2 := [.int v4, .int x2]) okX13_saysBy imX13_saysBy seX13_saysBy rfl lkX13_349 (tX13_saysBy eh1) rfl (ck_is e3) (by decide) rfl (Nat.le_of_ble_eq_true rfl) (Nat.le_of_ble_eq_true rfl) rfl dX13_yesSaid_19 rfl rfl ?_
    refine V.iconst (q := 23) (v := 1) (by decide) dX13_yesSaid_22 rfl ?_
    refine V.icmp_ne (q := 26) (tgt := 30) dX13_yesSaid_23 rfl (by decide) (fun c => ?_) (fun c => ?_)
    · rw [if_neg c] at hf
      refine V.iconst (q := 31) (v := 0) (by decide) dX13_yesSaid_30 rfl ?_
      refine V.iadd (q := 32) dX13_yesSaid_31 rfl ?_
      obtain ⟨v5, ev5, hf⟩ := bd_ex hf
      refine V.topI (Option.some.inj ev5) ?_
      refine V.istore_n (q := 33) (L' := [.ref a0, .int x1, .int v5, .int x3]) rfl dX13_yesSaid_32 rfl (by decide) rfl rfl ?_
      obtain ⟨v6, ev6, hf⟩ := bd_ex hf
      refine V.iinc (q := 36) (v := v6) (L' := [.ref a0, .int x1, .int v5, .int v6]) dX13_yesSaid_33 rfl rfl (Option.some.inj ev6) (by decide) rfl rfl ?_
      refine V.goto (q := 4) dX13_yesSaid_36 (by decide) ?_
      exact hk4 _ _ _ _ _ hf
    · rw [if_pos c] at hf
      refine V.iconst (q := 27) (v := 1) (by decide) dX13_yesSaid_26 rfl ?_
      refine V.goto (q := 31) dX13_yesSaid_27 (by decide) ?_
      refine V.iadd (q := 32) dX13_yesSaid_31 rfl ?_
      obtain ⟨v5, ev5, hf⟩ := bd_ex hf
      refine V.topI (Option.some.inj ev5) ?_
      refine V.istore_n (q := 33) (L' := [.ref a0, .int x1, .int v5, .int x3]) rfl dX13_yesSaid_32 rfl (by decide) rfl rfl ?_
      obtain ⟨v6, ev6, hf⟩ := bd_ex hf
      refine V.iinc (q := 36) (v := v6) (L' := [.ref a0, .int x1, .int v5, .int v6]) dX13_yesSaid_33 rfl rfl (Option.some.inj ev6) (by decide) rfl rfl ?_
      refine V.goto (q := 4) dX13_yesSaid_36 (by decide) ?_
      exact hk4 _ _ _ _ _ hf
def fX13_yesSaid_4  : Nat → MH → Nat → Int32 → Int32 → Int32 → Option (Int32 × MH)
  | 0 => fun _ _ _ _ _ => none
  | n + 1 => bX13_yesSaid_4  (fX13_yesSaid_4  n)
theorem tlX13_yesSaid_4 {r : Int32} {h' : MH}   : ∀ (n : Nat) (h : MH) (a0 : Nat) (x1 : Int32) (x2 : Int32) (x3 : Int32), fX13_yesSaid_4  n h a0 x1 x2 x3 = some (r, h') → V TT mX13_yesSaid 3 (some (.int r)) h' h 4 [.ref a0, .int x1, .int x2, .int x3] [] := by
  intro n
  induction n with
  | zero => intro h a0 x1 x2 x3 hf; exact nomatch (show (none : Option (Int32 × MH)) = some (r, h') from hf)
  | succ n ih => intro h a0 x1 x2 x3 hf; exact tX13_yesSaid_4  (fX13_yesSaid_4  n) ih hf
def fX13_yesSaid (h : MH) (a0 : Nat) (x1 : Int32) : Option (Int32 × MH) := fX13_yesSaid_4 FU h a0 x1 0 0
set_option maxRecDepth 20000 in
theorem tX13_yesSaid {r : Int32} {h' : MH} {h : MH} {a0 : Nat} {x1 : Int32} (hf : fX13_yesSaid h a0 x1 = some (r, h')) : VM mX13_yesSaid 3 (some (.int r)) h' h [.ref a0, .int x1] := by
  show V TT mX13_yesSaid 3 _ h' h 0 [.ref a0, .int x1, Jk, Jk] []
  unfold fX13_yesSaid at hf
  refine V.iconst (q := 1) (v := 0) (by decide) dX13_yesSaid_0 rfl ?_
  refine V.istore_n (q := 2) (L' := [.ref a0, .int x1, .int 0, Jk]) rfl dX13_yesSaid_1 rfl (by decide) rfl rfl ?_
  refine V.iconst (q := 3) (v := 0) (by decide) dX13_yesSaid_2 rfl ?_
  refine V.istore_n (q := 4) (L' := [.ref a0, .int x1, .int 0, .int 0]) rfl dX13_yesSaid_3 rfl (by decide) rfl rfl ?_
  exact tlX13_yesSaid_4  FU _ _ _ _ _ hf
def bX13_bestMark_39 (k39 : MH → Nat → Int32 → Int32 → Int32 → Int32 → Option (Int32 × MH)) (h : MH) (a0 : Nat) (x1 : Int32) (x2 : Int32) (x3 : Int32) (x4 : Int32) : Option (Int32 × MH) := bd (gR h a0 13 3) fun b1 => bd (gI h b1 12 1) fun v2 => if v2 ≤ x4 then (bd (ck h a0 13) fun _ => bd2 (fX13_good1 h a0 x3) fun v4 h1 => some (v4, h1)) else (bd (gR h a0 13 15) fun b3 => bd (lI h b3 (11 + x1)) fun v4 => bd (ck h a0 13) fun _ => bd2 (fX13_yesSaid h a0 (v4 ^^^ (1 <<< (x4 &&& 31)))) fun v6 h1 => if x2 < v6 then (bd (some (x4 + 1)) fun v7 => k39 h1 a0 x1 v6 x4 v7) else (bd (some (x4 + 1)) fun v7 => k39 h1 a0 x1 x2 x3 v7))
set_option maxRecDepth 20000 in
theorem tX13_bestMark_39 {r : Int32} {h' : MH} (k39 : MH → Nat → Int32 → Int32 → Int32 → Int32 → Option (Int32 × MH)) (hk39 : ∀ (h : MH) (a0 : Nat) (x1 : Int32) (x2 : Int32) (x3 : Int32) (x4 : Int32), k39 h a0 x1 x2 x3 x4 = some (r, h') → V TT mX13_bestMark 4 (some (.int r)) h' h 39 [.ref a0, .int x1, .int x2, .int x3, .int x4, Jk] [])  {h : MH} {a0 : Nat} {x1 : Int32} {x2 : Int32} {x3 : Int32} {x4 : Int32} (hf : bX13_bestMark_39 k39 h a0 x1 x2 x3 x4 = some (r, h')) : V TT mX13_bestMark 4 (some (.int r)) h' h 39 [.ref a0, .int x1, .int x2, .int x3, .int x4, Jk] [] := by
  unfold bX13_bestMark_39 at hf
  refine V.iload (q := 41) dX13_bestMark_39 rfl rfl ?_
  refine V.aload_n (q := 42) rfl dX13_bestMark_41 rfl rfl ?_
  obtain ⟨b1, eb1, hf⟩ := bd_ex hf
  refine V.getR (q := 45) flX13_338 rfl eb1 dX13_bestMark_42 rfl ?_
  obtain ⟨v2, ev2, hf⟩ := bd_ex hf
  refine V.getI (q := 48) flX13_238 rfl ev2 dX13_bestMark_45 rfl ?_
  refine V.icmp_ge (q := 51) (tgt := 92) dX13_bestMark_48 rfl (by decide) (fun c => ?_) (fun c => ?_)
  · rw [if_pos c] at hf
    refine V.aload_n (q := 93) rfl dX13_bestMark_92 rfl rfl ?_
    refine V.iload_n (q := 94) rfl dX13_bestMark_93 rfl rfl ?_
    obtain ⟨_, e3, hf⟩ := bd_ex hf
    obtain ⟨v4, h1, eh1, hf⟩ := bd2_ex hf
    refine V.callV (q := 97) (ci := 13) (vs := [.int x3]) (st := []) (S2 := [.int v4]) okX13_good1 imX13_good1 seX13_good1 rfl lkX13_58 (tX13_good1 eh1) rfl (ck_is e3) (by decide) rfl (Nat.le_of_ble_eq_true rfl) (Nat.le_of_ble_eq_true rfl) rfl dX13_bestMark_94 rfl rfl ?_
    obtain ⟨rfl, rfl⟩ := ret_inj hf
    exact V.ret (r := some (.int v4)) trivial dX13_bestMark_97
  · rw [if_neg c] at hf
    refine V.aload_n (q := 52) rfl dX13_bestMark_51 rfl rfl ?_
    refine V.aload_n (q := 53) rfl dX13_bestMark_52 rfl rfl ?_
    obtain ⟨b3, eb3, hf⟩ := bd_ex hf
    refine V.getR (q := 56) flX13_17 rfl eb3 dX13_bestMark_53 rfl ?_
    refine V.bipush (q := 58) (v := 11) (by decide) dX13_bestMark_56 rfl ?_
    refine V.iload_n (q := 59) rfl dX13_bestMark_58 rfl rfl ?_
    refine V.iadd (q := 60) dX13_bestMark_59 rfl ?_
    obtain ⟨v4, ev4, hf⟩ := bd_ex hf
    refine V.iald (q := 61) ev4 dX13_bestMark_60 rfl ?_
    refine V.iconst (q := 62) (v := 1) (by decide) dX13_bestMark_61 rfl ?_
    refine V.iload (q := 64) dX13_bestMark_62 rfl rfl ?_
    refine V.ishl (q := 65) dX13_bestMark_64 rfl ?_
    refine V.ixor (q := 66) dX13_bestMark_65 rfl ?_
    obtain ⟨_, e5, hf⟩ := bd_ex hf
    obtain ⟨v6, h1, eh1, hf⟩ := bd2_ex hf
    refine V.callV (q := 69) (ci := 13) (vs := [.int (v4 ^^^ (1 <<< (x4 &&& 31)))]) (st := []) (S2 := [.int v6]) okX13_yesSaid imX13_yesSaid seX13_yesSaid rfl lkX13_403 (tX13_yesSaid eh1) rfl (ck_is e5) (by decide) rfl (Nat.le_of_ble_eq_true rfl) (Nat.le_of_ble_eq_true rfl) rfl dX13_bestMark_66 rfl rfl ?_
    refine V.istore (q := 71) (L' := [.ref a0, .int x1, .int x2, .int x3, .int x4, .int v6]) dX13_bestMark_69 rfl (by decide) rfl rfl ?_
    refine V.iload (q := 73) dX13_bestMark_71 rfl rfl ?_
    refine V.iload_n (q := 74) rfl dX13_bestMark_73 rfl rfl ?_
    refine V.icmp_gt (q := 77) (tgt := 80) dX13_bestMark_74 rfl (by decide) (fun c => ?_) (fun c => ?_)
    · rw [if_pos c] at hf
      refine V.iload (q := 82) dX13_bestMark_80 rfl rfl ?_
      refine V.istore_n (q := 83) (L' := [.ref a0, .int x1, .int v6, .int x3, .int x4, .int v6]) rfl dX13_bestMark_82 rfl (by decide) rfl rfl ?_
      refine V.iload (q := 85) dX13_bestMark_83 rfl rfl ?_
      refine V.istore_n (q := 86) (L' := [.ref a0, .int x1, .int v6, .int x4, .int x4, .int v6]) rfl dX13_bestMark_85 rfl (by decide) rfl rfl ?_
      obtain ⟨v7, ev7, hf⟩ := bd_ex hf
      refine V.iinc (q := 89) (v := v7) (L' := [.ref a0, .int x1, .int v6, .int x4, .int v7, .int v6]) dX13_bestMark_86 rfl rfl (Option.some.inj ev7) (by decide) rfl rfl ?_
      refine V.goto (q := 39) dX13_bestMark_89 (by decide) ?_
      refine V.forget (L' := [.ref a0, .int x1, .int v6, .int x4, .int v7, Jk]) ⟨Or.inr rfl, Or.inr rfl, Or.inr rfl, Or.inr rfl, Or.inr rfl, Or.inl rfl, trivial⟩ ?_
      exact hk39 _ _ _ _ _ _ hf
    · rw [if_neg c] at hf
      refine V.goto (q := 86) dX13_bestMark_77 (by decide) ?_
      obtain ⟨v7, ev7, hf⟩ := bd_ex hf
      refine V.iinc (q := 89) (v := v7) (L' := [.ref a0, .int x1, .int x2, .int x3, .int v7, .int v6]) dX13_bestMark_86 rfl rfl (Option.some.inj ev7) (by decide) rfl rfl ?_
      refine V.goto (q := 39) dX13_bestMark_89 (by decide) ?_
      refine V.forget (L' := [.ref a0, .int x1, .int x2, .int x3, .int v7, Jk]) ⟨Or.inr rfl, Or.inr rfl, Or.inr rfl, Or.inr rfl, Or.inr rfl, Or.inl rfl, trivial⟩ ?_
      exact hk39 _ _ _ _ _ _ hf
def fX13_bestMark_39  : Nat → MH → Nat → Int32 → Int32 → Int32 → Int32 → Option (Int32 × MH)
  | 0 => fun _ _ _ _ _ _ => none
  | n + 1 => bX13_bestMark_39  (fX13_bestMark_39  n)
theorem tlX13_bestMark_39 {r : Int32} {h' : MH}   : ∀ (n : Nat) (h : MH) (a0 : Nat) (x1 : Int32) (x2 : Int32) (x3 : Int32) (x4 : Int32), fX13_bestMark_39  n h a0 x1 x2 x3 x4 = some (r, h') → V TT mX13_bestMark 4 (some (.int r)) h' h 39 [.ref a0, .int x1, .int x2, .int x3, .int x4, Jk] [] := by
  intro n
  induction n with
  | zero => intro h a0 x1 x2 x3 x4 hf; exact nomatch (show (none : Option (Int32 × MH)) = some (r, h') from hf)
  | succ n ih => intro h a0 x1 x2 x3 x4 hf; exact tX13_bestMark_39  (fX13_bestMark_39  n) ih hf
def fX13_bestMark (h : MH) (a0 : Nat) (x1 : Int32) : Option (Int32 × MH) := bd (pI h a0 13 0 0) fun h1 => bd (ck h1 a0 13) fun _ => bd2 (fX13_isPaper h1 a0 x1) fun v2 h2 => if v2 = 0 then (bd (ck h2 a0 13) fun _ => bd2 (fX13_refused h2 a0 1) fun v4 h3 => some (v4, h3)) else (bd (gR h2 a0 13 15) fun b3 => bd (lI h2 b3 (11 + x1)) fun v4 => bd (ck h2 a0 13) fun _ => bd2 (fX13_yesSaid h2 a0 v4) fun v6 h3 => fX13_bestMark_39 FU h3 a0 x1 v6 (-2) 0)
set_option maxRecDepth 20000 in
theorem tX13_bestMark {r : Int32} {h' : MH} {h : MH} {a0 : Nat} {x1 : Int32} (hf : fX13_bestMark h a0 x1 = some (r, h')) : VM mX13_bestMark 4 (some (.int r)) h' h [.ref a0, .int x1] := by
  show V TT mX13_bestMark 4 _ h' h 0 [.ref a0, .int x1, Jk, Jk, Jk, Jk] []
  unfold fX13_bestMark at hf
  refine V.aload_n (q := 1) rfl dX13_bestMark_0 rfl rfl ?_
  refine V.iconst (q := 2) (v := 0) (by decide) dX13_bestMark_1 rfl ?_
  obtain ⟨h1, eh1, hf⟩ := bd_ex hf
  refine V.putI (q := 5) (fpX13_48 rfl) rfl eh1 dX13_bestMark_2 rfl ?_
  refine V.aload_n (q := 6) rfl dX13_bestMark_5 rfl rfl ?_
  refine V.iload_n (q := 7) rfl dX13_bestMark_6 rfl rfl ?_
  obtain ⟨_, e1, hf⟩ := bd_ex hf
  obtain ⟨v2, h2, eh2, hf⟩ := bd2_ex hf
  refine V.callV (q := 10) (ci := 13) (vs := [.int x1]) (st := []) (S2 := [.int v2]) okX13_isPaper imX13_isPaper seX13_isPaper rfl lkX13_355 (tX13_isPaper eh2) rfl (ck_is e1) (by decide) rfl (Nat.le_of_ble_eq_true rfl) (Nat.le_of_ble_eq_true rfl) rfl dX13_bestMark_7 rfl rfl ?_
  refine V.if_ne (q := 13) (tgt := 19) dX13_bestMark_10 rfl (by decide) (fun c => ?_) (fun c => ?_)
  · rw [if_neg c] at hf
    refine V.aload_n (q := 20) rfl dX13_bestMark_19 rfl rfl ?_
    refine V.aload_n (q := 21) rfl dX13_bestMark_20 rfl rfl ?_
    obtain ⟨b3, eb3, hf⟩ := bd_ex hf
    refine V.getR (q := 24) flX13_17 rfl eb3 dX13_bestMark_21 rfl ?_
    refine V.bipush (q := 26) (v := 11) (by decide) dX13_bestMark_24 rfl ?_
    refine V.iload_n (q := 27) rfl dX13_bestMark_26 rfl rfl ?_
    refine V.iadd (q := 28) dX13_bestMark_27 rfl ?_
    obtain ⟨v4, ev4, hf⟩ := bd_ex hf
    refine V.iald (q := 29) ev4 dX13_bestMark_28 rfl ?_
    obtain ⟨_, e5, hf⟩ := bd_ex hf
    obtain ⟨v6, h3, eh3, hf⟩ := bd2_ex hf
    refine V.callV (q := 32) (ci := 13) (vs := [.int v4]) (st := []) (S2 := [.int v6]) okX13_yesSaid imX13_yesSaid seX13_yesSaid rfl lkX13_403 (tX13_yesSaid eh3) rfl (ck_is e5) (by decide) rfl (Nat.le_of_ble_eq_true rfl) (Nat.le_of_ble_eq_true rfl) rfl dX13_bestMark_29 rfl rfl ?_
    refine V.istore_n (q := 33) (L' := [.ref a0, .int x1, .int v6, Jk, Jk, Jk]) rfl dX13_bestMark_32 rfl (by decide) rfl rfl ?_
    refine V.bipush (q := 35) (v := (-2)) (by decide) dX13_bestMark_33 rfl ?_
    refine V.istore_n (q := 36) (L' := [.ref a0, .int x1, .int v6, .int (-2), Jk, Jk]) rfl dX13_bestMark_35 rfl (by decide) rfl rfl ?_
    refine V.iconst (q := 37) (v := 0) (by decide) dX13_bestMark_36 rfl ?_
    refine V.istore (q := 39) (L' := [.ref a0, .int x1, .int v6, .int (-2), .int 0, Jk]) dX13_bestMark_37 rfl (by decide) rfl rfl ?_
    exact tlX13_bestMark_39  FU _ _ _ _ _ _ hf
  · rw [if_pos c] at hf
    refine V.aload_n (q := 14) rfl dX13_bestMark_13 rfl rfl ?_
    refine V.iconst (q := 15) (v := 1) (by decide) dX13_bestMark_14 rfl ?_
    obtain ⟨_, e3, hf⟩ := bd_ex hf
    obtain ⟨v4, h3, eh3, hf⟩ := bd2_ex hf
    refine V.callV (q := 18) (ci := 13) (vs := [.int 1]) (st := []) (S2 := [.int v4]) okX13_refused imX13_refused seX13_refused rfl lkX13_54 (tX13_refused eh3) rfl (ck_is e3) (by decide) rfl (Nat.le_of_ble_eq_true rfl) (Nat.le_of_ble_eq_true rfl) rfl dX13_bestMark_15 rfl rfl ?_
    obtain ⟨rfl, rfl⟩ := ret_inj hf
    exact V.ret (r := some (.int v4)) trivial dX13_bestMark_18
def fX13_drawn (h : MH) (a0 : Nat) (x1 : Int32) : Option (Int32 × MH) := bd (gI h a0 13 26) fun v1 => bd (nzJ 65537) fun _ => bd (pI h a0 13 26 (Int64.toInt32 (((75 * (Int32.toInt64 v1)) + 74) - ((75 * (Int32.toInt64 v1)) + 74) / 65537 * 65537))) fun h1 => bd (gI h1 a0 13 26) fun v3 => bd (nz x1) fun _ => some ((v3 - v3 / x1 * x1), h1)
set_option maxRecDepth 20000 in
theorem tX13_drawn {r : Int32} {h' : MH} {h : MH} {a0 : Nat} {x1 : Int32} (hf : fX13_drawn h a0 x1 = some (r, h')) : VM mX13_drawn 0 (some (.int r)) h' h [.ref a0, .int x1] := by
  show V TT mX13_drawn 0 _ h' h 0 [.ref a0, .int x1] []
  unfold fX13_drawn at hf
  refine V.aload_n (q := 1) rfl dX13_drawn_0 rfl rfl ?_
  refine V.ldc2 (q := 4) kcX13_463 dX13_drawn_1 rfl ?_
  refine V.aload_n (q := 5) rfl dX13_drawn_4 rfl rfl ?_
  obtain ⟨v1, ev1, hf⟩ := bd_ex hf
  refine V.getI (q := 8) flX13_465 rfl ev1 dX13_drawn_5 rfl ?_
  refine V.i2l (q := 9) dX13_drawn_8 rfl ?_
  refine V.lmul (q := 10) dX13_drawn_9 rfl ?_
  refine V.ldc2 (q := 13) kcX13_468 dX13_drawn_10 rfl ?_
  refine V.ladd (q := 14) dX13_drawn_13 rfl ?_
  refine V.ldc2 (q := 17) kcX13_470 dX13_drawn_14 rfl ?_
  obtain ⟨_, e2, hf⟩ := bd_ex hf
  refine V.lrem (q := 18) (nzJ_is e2) dX13_drawn_17 rfl ?_
  refine V.l2i (q := 19) dX13_drawn_18 rfl ?_
  obtain ⟨h1, eh1, hf⟩ := bd_ex hf
  refine V.putI (q := 22) (fpX13_465 rfl) rfl eh1 dX13_drawn_19 rfl ?_
  refine V.aload_n (q := 23) rfl dX13_drawn_22 rfl rfl ?_
  obtain ⟨v3, ev3, hf⟩ := bd_ex hf
  refine V.getI (q := 26) flX13_465 rfl ev3 dX13_drawn_23 rfl ?_
  refine V.iload_n (q := 27) rfl dX13_drawn_26 rfl rfl ?_
  obtain ⟨_, e4, hf⟩ := bd_ex hf
  refine V.irem (q := 28) (nz_is e4) dX13_drawn_27 rfl ?_
  obtain ⟨rfl, rfl⟩ := ret_inj hf
  exact V.ret (r := some (.int (v3 - v3 / x1 * x1))) trivial dX13_drawn_28
def fX13_printsBy (h : MH) (a0 : Nat) (x1 : Int32) (x2 : Int32) : Option (Int32 × MH) := bd (gR h a0 13 3) fun b1 => bd (gR h b1 12 19) fun b2 => bd (lI h b2 x1) fun v3 => if x2 = 2 then (if v3 = 1 then (some (1, h)) else (if v3 = 2 then (some (0, h)) else (some (2, h)))) else (if v3 = 3 then (some ((1 - x2), h)) else (some (x2, h)))
set_option maxRecDepth 20000 in
theorem tX13_printsBy {r : Int32} {h' : MH} {h : MH} {a0 : Nat} {x1 : Int32} {x2 : Int32} (hf : fX13_printsBy h a0 x1 x2 = some (r, h')) : VM mX13_printsBy 0 (some (.int r)) h' h [.ref a0, .int x1, .int x2] := by
  show V TT mX13_printsBy 0 _ h' h 0 [.ref a0, .int x1, .int x2, Jk] []
  unfold fX13_printsBy at hf
  refine V.aload_n (q := 1) rfl dX13_printsBy_0 rfl rfl ?_
  obtain ⟨b1, eb1, hf⟩ := bd_ex hf
  refine V.getR (q := 4) flX13_338 rfl eb1 dX13_printsBy_1 rfl ?_
  obtain ⟨b2, eb2, hf⟩ := bd_ex hf
  refine V.getR (q := 7) flX13_311 rfl eb2 dX13_printsBy_4 rfl ?_
  refine V.iload_n (q := 8) rfl dX13_printsBy_7 rfl rfl ?_
  obtain ⟨v3, ev3, hf⟩ := bd_ex hf
  refine V.iald (q := 9) ev3 dX13_printsBy_8 rfl ?_
  refine V.istore_n (q := 10) (L' := [.ref a0, .int x1, .int x2, .int v3]) rfl dX13_printsBy_9 rfl (by decide) rfl rfl ?_
  refine V.iload_n (q := 11) rfl dX13_printsBy_10 rfl rfl ?_
  refine V.iconst (q := 12) (v := 2) (by decide) dX13_printsBy_11 rfl ?_
  refine V.icmp_ne (q := 15) (tgt := 35) dX13_printsBy_12 rfl (by decide) (fun c => ?_) (fun c => ?_)
  · rw [if_neg c] at hf
    refine V.iload_n (q := 36) rfl dX13_printsBy_35 rfl rfl ?_
    refine V.iconst (q := 37) (v := 3) (by decide) dX13_printsBy_36 rfl ?_
    refine V.icmp_ne (q := 40) (tgt := 46) dX13_printsBy_37 rfl (by decide) (fun c => ?_) (fun c => ?_)
    · rw [if_neg c] at hf
      refine V.iload_n (q := 47) rfl dX13_printsBy_46 rfl rfl ?_
      obtain ⟨rfl, rfl⟩ := ret_inj hf
      exact V.ret (r := some (.int x2)) trivial dX13_printsBy_47
    · rw [if_pos c] at hf
      refine V.iconst (q := 41) (v := 1) (by decide) dX13_printsBy_40 rfl ?_
      refine V.iload_n (q := 42) rfl dX13_printsBy_41 rfl rfl ?_
      refine V.isub (q := 43) dX13_printsBy_42 rfl ?_
      refine V.goto (q := 47) dX13_printsBy_43 (by decide) ?_
      obtain ⟨rfl, rfl⟩ := ret_inj hf
      exact V.ret (r := some (.int (1 - x2))) trivial dX13_printsBy_47
  · rw [if_pos c] at hf
    refine V.iload_n (q := 16) rfl dX13_printsBy_15 rfl rfl ?_
    refine V.iconst (q := 17) (v := 1) (by decide) dX13_printsBy_16 rfl ?_
    refine V.icmp_ne (q := 20) (tgt := 24) dX13_printsBy_17 rfl (by decide) (fun c => ?_) (fun c => ?_)
    · rw [if_neg c] at hf
      refine V.iload_n (q := 25) rfl dX13_printsBy_24 rfl rfl ?_
      refine V.iconst (q := 26) (v := 2) (by decide) dX13_printsBy_25 rfl ?_
      refine V.icmp_ne (q := 29) (tgt := 33) dX13_printsBy_26 rfl (by decide) (fun c => ?_) (fun c => ?_)
      · rw [if_neg c] at hf
        refine V.iconst (q := 34) (v := 2) (by decide) dX13_printsBy_33 rfl ?_
        obtain ⟨rfl, rfl⟩ := ret_inj hf
        exact V.ret (r := some (.int 2)) trivial dX13_printsBy_34
      · rw [if_pos c] at hf
        refine V.iconst (q := 30) (v := 0) (by decide) dX13_printsBy_29 rfl ?_
        refine V.goto (q := 34) dX13_printsBy_30 (by decide) ?_
        obtain ⟨rfl, rfl⟩ := ret_inj hf
        exact V.ret (r := some (.int 0)) trivial dX13_printsBy_34
    · rw [if_pos c] at hf
      refine V.iconst (q := 21) (v := 1) (by decide) dX13_printsBy_20 rfl ?_
      refine V.goto (q := 34) dX13_printsBy_21 (by decide) ?_
      obtain ⟨rfl, rfl⟩ := ret_inj hf
      exact V.ret (r := some (.int 1)) trivial dX13_printsBy_34
def bX13_pressesAll_134 (k53 : MH → Nat → Int32 → Int32 → Option (MH)) (h : MH) (a0 : Nat) (x2 : Int32) (x3 : Int32) (x6 : Int32) (xs0 : Int32) : Option (MH) := bd (gR h a0 13 28) fun b1 => bd (lI h b1 xs0) fun v2 => bd (tI h b1 xs0 (v2 + 1)) fun h1 => bd (gR h1 a0 13 29) fun b3 => bd (tI h1 b3 x6 xs0) fun h2 => if xs0 = 2 then (bd (ck h2 a0 13) fun _ => bd2 (fX13_drawn h2 a0 100) fun v5 h3 => bd (gR h3 a0 13 3) fun b6 => bd (gI h3 b6 12 0) fun v7 => if v7 ≤ v5 then (bd (some (x3 + 1)) fun v8 => k53 h3 a0 x2 v8) else (bd (gI h3 a0 13 27) fun v8 => bd (pI h3 a0 13 27 (v8 + 1)) fun h4 => bd (some (x3 + 1)) fun v9 => k53 h4 a0 x2 v9)) else (bd (some (x3 + 1)) fun v4 => k53 h2 a0 x2 v4)
set_option maxRecDepth 20000 in
theorem tX13_pressesAll_134 {h' : MH} (k53 : MH → Nat → Int32 → Int32 → Option (MH)) (hk53 : ∀ (h : MH) (a0 : Nat) (x2 : Int32) (x3 : Int32), k53 h a0 x2 x3 = some h' → V TT mX13_pressesAll 4 none h' h 53 [.ref a0, Jk, .int x2, .int x3, Jk, Jk, Jk, Jk] [])  {h : MH} {a0 : Nat} {x2 : Int32} {x3 : Int32} {x6 : Int32} {xs0 : Int32} (hf : bX13_pressesAll_134 k53 h a0 x2 x3 x6 xs0 = some h') : V TT mX13_pressesAll 4 none h' h 134 [.ref a0, Jk, .int x2, .int x3, Jk, Jk, .int x6, Jk] [.int xs0] := by
  unfold bX13_pressesAll_134 at hf
  refine V.istore (q := 136) (L' := [.ref a0, Jk, .int x2, .int x3, Jk, Jk, .int x6, .int xs0]) dX13_pressesAll_134 rfl (by decide) rfl rfl ?_
  refine V.aload_n (q := 137) rfl dX13_pressesAll_136 rfl rfl ?_
  obtain ⟨b1, eb1, hf⟩ := bd_ex hf
  refine V.getR (q := 140) flX13_42 rfl eb1 dX13_pressesAll_137 rfl ?_
  refine V.iload (q := 142) dX13_pressesAll_140 rfl rfl ?_
  refine V.dup2 (q := 143) dX13_pressesAll_142 rfl ?_
  obtain ⟨v2, ev2, hf⟩ := bd_ex hf
  refine V.iald (q := 144) ev2 dX13_pressesAll_143 rfl ?_
  refine V.iconst (q := 145) (v := 1) (by decide) dX13_pressesAll_144 rfl ?_
  refine V.iadd (q := 146) dX13_pressesAll_145 rfl ?_
  obtain ⟨h1, eh1, hf⟩ := bd_ex hf
  refine V.iast (q := 147) eh1 dX13_pressesAll_146 rfl ?_
  refine V.aload_n (q := 148) rfl dX13_pressesAll_147 rfl rfl ?_
  obtain ⟨b3, eb3, hf⟩ := bd_ex hf
  refine V.getR (q := 151) flX13_45 rfl eb3 dX13_pressesAll_148 rfl ?_
  refine V.iload (q := 153) dX13_pressesAll_151 rfl rfl ?_
  refine V.iload (q := 155) dX13_pressesAll_153 rfl rfl ?_
  obtain ⟨h2, eh2, hf⟩ := bd_ex hf
  refine V.iast (q := 156) eh2 dX13_pressesAll_155 rfl ?_
  refine V.iload (q := 158) dX13_pressesAll_156 rfl rfl ?_
  refine V.iconst (q := 159) (v := 2) (by decide) dX13_pressesAll_158 rfl ?_
  refine V.icmp_ne (q := 162) (tgt := 188) dX13_pressesAll_159 rfl (by decide) (fun c => ?_) (fun c => ?_)
  · rw [if_neg c] at hf
    obtain ⟨v4, ev4, hf⟩ := bd_ex hf
    refine V.iinc (q := 191) (v := v4) (L' := [.ref a0, Jk, .int x2, .int v4, Jk, Jk, .int x6, .int xs0]) dX13_pressesAll_188 rfl rfl (Option.some.inj ev4) (by decide) rfl rfl ?_
    refine V.goto (q := 53) dX13_pressesAll_191 (by decide) ?_
    refine V.forget (L' := [.ref a0, Jk, .int x2, .int v4, Jk, Jk, Jk, Jk]) ⟨Or.inr rfl, Or.inl rfl, Or.inr rfl, Or.inr rfl, Or.inl rfl, Or.inl rfl, Or.inl rfl, Or.inl rfl, trivial⟩ ?_
    exact hk53 _ _ _ _ hf
  · rw [if_pos c] at hf
    refine V.aload_n (q := 163) rfl dX13_pressesAll_162 rfl rfl ?_
    refine V.bipush (q := 165) (v := 100) (by decide) dX13_pressesAll_163 rfl ?_
    obtain ⟨_, e4, hf⟩ := bd_ex hf
    obtain ⟨v5, h3, eh3, hf⟩ := bd2_ex hf
    refine V.callV (q := 168) (ci := 13) (vs := [.int 100]) (st := []) (S2 := [.int v5]) okX13_drawn imX13_drawn seX13_drawn rfl lkX13_475 (tX13_drawn eh3) rfl (ck_is e4) (by decide) rfl (Nat.le_of_ble_eq_true rfl) (Nat.le_of_ble_eq_true rfl) rfl dX13_pressesAll_165 rfl rfl ?_
    refine V.aload_n (q := 169) rfl dX13_pressesAll_168 rfl rfl ?_
    obtain ⟨b6, eb6, hf⟩ := bd_ex hf
    refine V.getR (q := 172) flX13_338 rfl eb6 dX13_pressesAll_169 rfl ?_
    obtain ⟨v7, ev7, hf⟩ := bd_ex hf
    refine V.getI (q := 175) flX13_161 rfl ev7 dX13_pressesAll_172 rfl ?_
    refine V.icmp_ge (q := 178) (tgt := 188) dX13_pressesAll_175 rfl (by decide) (fun c => ?_) (fun c => ?_)
    · rw [if_pos c] at hf
      obtain ⟨v8, ev8, hf⟩ := bd_ex hf
      refine V.iinc (q := 191) (v := v8) (L' := [.ref a0, Jk, .int x2, .int v8, Jk, Jk, .int x6, .int xs0]) dX13_pressesAll_188 rfl rfl (Option.some.inj ev8) (by decide) rfl rfl ?_
      refine V.goto (q := 53) dX13_pressesAll_191 (by decide) ?_
      refine V.forget (L' := [.ref a0, Jk, .int x2, .int v8, Jk, Jk, Jk, Jk]) ⟨Or.inr rfl, Or.inl rfl, Or.inr rfl, Or.inr rfl, Or.inl rfl, Or.inl rfl, Or.inl rfl, Or.inl rfl, trivial⟩ ?_
      exact hk53 _ _ _ _ hf
    · rw [if_neg c] at hf
      refine V.aload_n (q := 179) rfl dX13_pressesAll_178 rfl rfl ?_
      refine V.dupR (q := 180) dX13_pressesAll_179 rfl ?_
      obtain ⟨v8, ev8, hf⟩ := bd_ex hf
      refine V.getI (q := 183) flX13_472 rfl ev8 dX13_pressesAll_180 rfl ?_
      refine V.iconst (q := 184) (v := 1) (by decide) dX13_pressesAll_183 rfl ?_
      refine V.iadd (q := 185) dX13_pressesAll_184 rfl ?_
      obtain ⟨h4, eh4, hf⟩ := bd_ex hf
      refine V.putI (q := 188) (fpX13_472 rfl) rfl eh4 dX13_pressesAll_185 rfl ?_
      obtain ⟨v9, ev9, hf⟩ := bd_ex hf
      refine V.iinc (q := 191) (v := v9) (L' := [.ref a0, Jk, .int x2, .int v9, Jk, Jk, .int x6, .int xs0]) dX13_pressesAll_188 rfl rfl (Option.some.inj ev9) (by decide) rfl rfl ?_
      refine V.goto (q := 53) dX13_pressesAll_191 (by decide) ?_
      refine V.forget (L' := [.ref a0, Jk, .int x2, .int v9, Jk, Jk, Jk, Jk]) ⟨Or.inr rfl, Or.inl rfl, Or.inr rfl, Or.inr rfl, Or.inl rfl, Or.inl rfl, Or.inl rfl, Or.inl rfl, trivial⟩ ?_
      exact hk53 _ _ _ _ hf
def bX13_pressesAll_53 (k53 : MH → Nat → Int32 → Int32 → Option (MH)) (h : MH) (a0 : Nat) (x2 : Int32) (x3 : Int32) : Option (MH) := if x2 ≤ x3 then (some h) else (bd (gR h a0 13 3) fun b1 => bd (gI h b1 12 3) fun v2 => bd (ck h a0 13) fun _ => bd2 (fX13_drawn h a0 v2) fun v4 h1 => bd (gR h1 a0 13 3) fun b5 => bd (gI h1 b5 12 5) fun v6 => bd (ck h1 a0 13) fun _ => bd2 (fX13_drawn h1 a0 v6) fun v8 h2 => bd (gR h2 a0 13 3) fun b9 => bd (gI h2 b9 12 2) fun v10 => bd (ck h2 a0 13) fun _ => bd2 (fX13_drawn h2 a0 v10) fun v12 h3 => bd (ck h3 a0 13) fun _ => bd2 (fX13_drawn h3 a0 100) fun v14 h4 => bd (gR h4 a0 13 3) fun b15 => bd (gR h4 b15 12 20) fun b16 => bd (lI h4 b16 v8) fun v17 => if v17 ≤ v14 then (bd (ck h4 a0 13) fun _ => bd2 (fX13_saysNow h4 a0 v4 v12) fun v19 h5 => bd (ck h5 a0 13) fun _ => bd2 (fX13_printsBy h5 a0 v8 v19) fun v21 h6 => bX13_pressesAll_134 k53 h6 a0 x2 x3 v12 v21) else (bX13_pressesAll_134 k53 h4 a0 x2 x3 v12 2))
set_option maxRecDepth 20000 in
theorem tX13_pressesAll_53 {h' : MH} (k53 : MH → Nat → Int32 → Int32 → Option (MH)) (hk53 : ∀ (h : MH) (a0 : Nat) (x2 : Int32) (x3 : Int32), k53 h a0 x2 x3 = some h' → V TT mX13_pressesAll 4 none h' h 53 [.ref a0, Jk, .int x2, .int x3, Jk, Jk, Jk, Jk] [])  {h : MH} {a0 : Nat} {x2 : Int32} {x3 : Int32} (hf : bX13_pressesAll_53 k53 h a0 x2 x3 = some h') : V TT mX13_pressesAll 4 none h' h 53 [.ref a0, Jk, .int x2, .int x3, Jk, Jk, Jk, Jk] [] := by
  unfold bX13_pressesAll_53 at hf
  refine V.iload_n (q := 54) rfl dX13_pressesAll_53 rfl rfl ?_
  refine V.iload_n (q := 55) rfl dX13_pressesAll_54 rfl rfl ?_
  refine V.icmp_ge (q := 58) (tgt := 194) dX13_pressesAll_55 rfl (by decide) (fun c => ?_) (fun c => ?_)
  · rw [if_pos c] at hf
    cases hf
    exact V.ret (r := none) trivial dX13_pressesAll_194
  · rw [if_neg c] at hf
    refine V.aload_n (q := 59) rfl dX13_pressesAll_58 rfl rfl ?_
    refine V.aload_n (q := 60) rfl dX13_pressesAll_59 rfl rfl ?_
    obtain ⟨b1, eb1, hf⟩ := bd_ex hf
    refine V.getR (q := 63) flX13_338 rfl eb1 dX13_pressesAll_60 rfl ?_
    obtain ⟨v2, ev2, hf⟩ := bd_ex hf
    refine V.getI (q := 66) flX13_262 rfl ev2 dX13_pressesAll_63 rfl ?_
    obtain ⟨_, e3, hf⟩ := bd_ex hf
    obtain ⟨v4, h1, eh1, hf⟩ := bd2_ex hf
    refine V.callV (q := 69) (ci := 13) (vs := [.int v2]) (st := []) (S2 := [.int v4]) okX13_drawn imX13_drawn seX13_drawn rfl lkX13_475 (tX13_drawn eh1) rfl (ck_is e3) (by decide) rfl (Nat.le_of_ble_eq_true rfl) (Nat.le_of_ble_eq_true rfl) rfl dX13_pressesAll_66 rfl rfl ?_
    refine V.istore (q := 71) (L' := [.ref a0, Jk, .int x2, .int x3, .int v4, Jk, Jk, Jk]) dX13_pressesAll_69 rfl (by decide) rfl rfl ?_
    refine V.aload_n (q := 72) rfl dX13_pressesAll_71 rfl rfl ?_
    refine V.aload_n (q := 73) rfl dX13_pressesAll_72 rfl rfl ?_
    obtain ⟨b5, eb5, hf⟩ := bd_ex hf
    refine V.getR (q := 76) flX13_338 rfl eb5 dX13_pressesAll_73 rfl ?_
    obtain ⟨v6, ev6, hf⟩ := bd_ex hf
    refine V.getI (q := 79) flX13_298 rfl ev6 dX13_pressesAll_76 rfl ?_
    obtain ⟨_, e7, hf⟩ := bd_ex hf
    obtain ⟨v8, h2, eh2, hf⟩ := bd2_ex hf
    refine V.callV (q := 82) (ci := 13) (vs := [.int v6]) (st := []) (S2 := [.int v8]) okX13_drawn imX13_drawn seX13_drawn rfl lkX13_475 (tX13_drawn eh2) rfl (ck_is e7) (by decide) rfl (Nat.le_of_ble_eq_true rfl) (Nat.le_of_ble_eq_true rfl) rfl dX13_pressesAll_79 rfl rfl ?_
    refine V.istore (q := 84) (L' := [.ref a0, Jk, .int x2, .int x3, .int v4, .int v8, Jk, Jk]) dX13_pressesAll_82 rfl (by decide) rfl rfl ?_
    refine V.aload_n (q := 85) rfl dX13_pressesAll_84 rfl rfl ?_
    refine V.aload_n (q := 86) rfl dX13_pressesAll_85 rfl rfl ?_
    obtain ⟨b9, eb9, hf⟩ := bd_ex hf
    refine V.getR (q := 89) flX13_338 rfl eb9 dX13_pressesAll_86 rfl ?_
    obtain ⟨v10, ev10, hf⟩ := bd_ex hf
    refine V.getI (q := 92) flX13_206 rfl ev10 dX13_pressesAll_89 rfl ?_
    obtain ⟨_, e11, hf⟩ := bd_ex hf
    obtain ⟨v12, h3, eh3, hf⟩ := bd2_ex hf
    refine V.callV (q := 95) (ci := 13) (vs := [.int v10]) (st := []) (S2 := [.int v12]) okX13_drawn imX13_drawn seX13_drawn rfl lkX13_475 (tX13_drawn eh3) rfl (ck_is e11) (by decide) rfl (Nat.le_of_ble_eq_true rfl) (Nat.le_of_ble_eq_true rfl) rfl dX13_pressesAll_92 rfl rfl ?_
    refine V.istore (q := 97) (L' := [.ref a0, Jk, .int x2, .int x3, .int v4, .int v8, .int v12, Jk]) dX13_pressesAll_95 rfl (by decide) rfl rfl ?_
    refine V.aload_n (q := 98) rfl dX13_pressesAll_97 rfl rfl ?_
    refine V.bipush (q := 100) (v := 100) (by decide) dX13_pressesAll_98 rfl ?_
    obtain ⟨_, e13, hf⟩ := bd_ex hf
    obtain ⟨v14, h4, eh4, hf⟩ := bd2_ex hf
    refine V.callV (q := 103) (ci := 13) (vs := [.int 100]) (st := []) (S2 := [.int v14]) okX13_drawn imX13_drawn seX13_drawn rfl lkX13_475 (tX13_drawn eh4) rfl (ck_is e13) (by decide) rfl (Nat.le_of_ble_eq_true rfl) (Nat.le_of_ble_eq_true rfl) rfl dX13_pressesAll_100 rfl rfl ?_
    refine V.aload_n (q := 104) rfl dX13_pressesAll_103 rfl rfl ?_
    obtain ⟨b15, eb15, hf⟩ := bd_ex hf
    refine V.getR (q := 107) flX13_338 rfl eb15 dX13_pressesAll_104 rfl ?_
    obtain ⟨b16, eb16, hf⟩ := bd_ex hf
    refine V.getR (q := 110) flX13_313 rfl eb16 dX13_pressesAll_107 rfl ?_
    refine V.iload (q := 112) dX13_pressesAll_110 rfl rfl ?_
    obtain ⟨v17, ev17, hf⟩ := bd_ex hf
    refine V.iald (q := 113) ev17 dX13_pressesAll_112 rfl ?_
    refine V.icmp_ge (q := 116) (tgt := 120) dX13_pressesAll_113 rfl (by decide) (fun c => ?_) (fun c => ?_)
    · rw [if_pos c] at hf
      refine V.aload_n (q := 121) rfl dX13_pressesAll_120 rfl rfl ?_
      refine V.iload (q := 123) dX13_pressesAll_121 rfl rfl ?_
      refine V.aload_n (q := 124) rfl dX13_pressesAll_123 rfl rfl ?_
      refine V.iload (q := 126) dX13_pressesAll_124 rfl rfl ?_
      refine V.iload (q := 128) dX13_pressesAll_126 rfl rfl ?_
      obtain ⟨_, e18, hf⟩ := bd_ex hf
      obtain ⟨v19, h5, eh5, hf⟩ := bd2_ex hf
      refine V.callV (q := 131) (ci := 13) (vs := [.int v4, .int v12]) (st := [.int v8, .ref a0]) (S2 := [.int v19, .int v8, .ref a0]) okX13_saysNow imX13_saysNow seX13_saysNow rfl lkX13_367 (tX13_saysNow eh5) rfl (ck_is e18) (by decide) rfl (Nat.le_of_ble_eq_true rfl) (Nat.le_of_ble_eq_true rfl) rfl dX13_pressesAll_128 rfl rfl ?_
      obtain ⟨_, e20, hf⟩ := bd_ex hf
      obtain ⟨v21, h6, eh6, hf⟩ := bd2_ex hf
      refine V.callV (q := 134) (ci := 13) (vs := [.int v8, .int v19]) (st := []) (S2 := [.int v21]) okX13_printsBy imX13_printsBy seX13_printsBy rfl lkX13_352 (tX13_printsBy eh6) rfl (ck_is e20) (by decide) rfl (Nat.le_of_ble_eq_true rfl) (Nat.le_of_ble_eq_true rfl) rfl dX13_pressesAll_131 rfl rfl ?_
      refine V.forget (L' := [.ref a0, Jk, .int x2, .int x3, Jk, Jk, .int v12, Jk]) ⟨Or.inr rfl, Or.inl rfl, Or.inr rfl, Or.inr rfl, Or.inl rfl, Or.inl rfl, Or.inr rfl, Or.inl rfl, trivial⟩ ?_
      exact tX13_pressesAll_134 k53 hk53 hf
    · rw [if_neg c] at hf
      refine V.iconst (q := 117) (v := 2) (by decide) dX13_pressesAll_116 rfl ?_
      refine V.goto (q := 134) dX13_pressesAll_117 (by decide) ?_
      refine V.forget (L' := [.ref a0, Jk, .int x2, .int x3, Jk, Jk, .int v12, Jk]) ⟨Or.inr rfl, Or.inl rfl, Or.inr rfl, Or.inr rfl, Or.inl rfl, Or.inl rfl, Or.inr rfl, Or.inl rfl, trivial⟩ ?_
      exact tX13_pressesAll_134 k53 hk53 hf
def fX13_pressesAll_53  : Nat → MH → Nat → Int32 → Int32 → Option (MH)
  | 0 => fun _ _ _ _ => none
  | n + 1 => bX13_pressesAll_53  (fX13_pressesAll_53  n)
theorem tlX13_pressesAll_53 {h' : MH}   : ∀ (n : Nat) (h : MH) (a0 : Nat) (x2 : Int32) (x3 : Int32), fX13_pressesAll_53  n h a0 x2 x3 = some h' → V TT mX13_pressesAll 4 none h' h 53 [.ref a0, Jk, .int x2, .int x3, Jk, Jk, Jk, Jk] [] := by
  intro n
  induction n with
  | zero => intro h a0 x2 x3 hf; exact nomatch (show (none : Option (MH)) = some h' from hf)
  | succ n ih => intro h a0 x2 x3 hf; exact tX13_pressesAll_53  (fX13_pressesAll_53  n) ih hf
def bX13_pressesAll_32 (k32 : MH → Nat → Int32 → Int32 → Option (MH)) (h : MH) (a0 : Nat) (x2 : Int32) (x3 : Int32) : Option (MH) := if 5 ≤ x3 then (fX13_pressesAll_53 FU h a0 x2 0) else (bd (gR h a0 13 29) fun b1 => bd (tI h b1 x3 (-2)) fun h1 => bd (some (x3 + 1)) fun v2 => k32 h1 a0 x2 v2)
set_option maxRecDepth 20000 in
theorem tX13_pressesAll_32 {h' : MH} (k32 : MH → Nat → Int32 → Int32 → Option (MH)) (hk32 : ∀ (h : MH) (a0 : Nat) (x2 : Int32) (x3 : Int32), k32 h a0 x2 x3 = some h' → V TT mX13_pressesAll 4 none h' h 32 [.ref a0, Jk, .int x2, .int x3, Jk, Jk, Jk, Jk] [])  {h : MH} {a0 : Nat} {x2 : Int32} {x3 : Int32} (hf : bX13_pressesAll_32 k32 h a0 x2 x3 = some h') : V TT mX13_pressesAll 4 none h' h 32 [.ref a0, Jk, .int x2, .int x3, Jk, Jk, Jk, Jk] [] := by
  unfold bX13_pressesAll_32 at hf
  refine V.iload_n (q := 33) rfl dX13_pressesAll_32 rfl rfl ?_
  refine V.iconst (q := 34) (v := 5) (by decide) dX13_pressesAll_33 rfl ?_
  refine V.icmp_ge (q := 37) (tgt := 51) dX13_pressesAll_34 rfl (by decide) (fun c => ?_) (fun c => ?_)
  · rw [if_pos c] at hf
    refine V.iconst (q := 52) (v := 0) (by decide) dX13_pressesAll_51 rfl ?_
    refine V.istore_n (q := 53) (L' := [.ref a0, Jk, .int x2, .int 0, Jk, Jk, Jk, Jk]) rfl dX13_pressesAll_52 rfl (by decide) rfl rfl ?_
    exact tlX13_pressesAll_53  FU _ _ _ _ hf
  · rw [if_neg c] at hf
    refine V.aload_n (q := 38) rfl dX13_pressesAll_37 rfl rfl ?_
    obtain ⟨b1, eb1, hf⟩ := bd_ex hf
    refine V.getR (q := 41) flX13_45 rfl eb1 dX13_pressesAll_38 rfl ?_
    refine V.iload_n (q := 42) rfl dX13_pressesAll_41 rfl rfl ?_
    refine V.bipush (q := 44) (v := (-2)) (by decide) dX13_pressesAll_42 rfl ?_
    obtain ⟨h1, eh1, hf⟩ := bd_ex hf
    refine V.iast (q := 45) eh1 dX13_pressesAll_44 rfl ?_
    obtain ⟨v2, ev2, hf⟩ := bd_ex hf
    refine V.iinc (q := 48) (v := v2) (L' := [.ref a0, Jk, .int x2, .int v2, Jk, Jk, Jk, Jk]) dX13_pressesAll_45 rfl rfl (Option.some.inj ev2) (by decide) rfl rfl ?_
    refine V.goto (q := 32) dX13_pressesAll_48 (by decide) ?_
    exact hk32 _ _ _ _ hf
def fX13_pressesAll_32  : Nat → MH → Nat → Int32 → Int32 → Option (MH)
  | 0 => fun _ _ _ _ => none
  | n + 1 => bX13_pressesAll_32  (fX13_pressesAll_32  n)
theorem tlX13_pressesAll_32 {h' : MH}   : ∀ (n : Nat) (h : MH) (a0 : Nat) (x2 : Int32) (x3 : Int32), fX13_pressesAll_32  n h a0 x2 x3 = some h' → V TT mX13_pressesAll 4 none h' h 32 [.ref a0, Jk, .int x2, .int x3, Jk, Jk, Jk, Jk] [] := by
  intro n
  induction n with
  | zero => intro h a0 x2 x3 hf; exact nomatch (show (none : Option (MH)) = some h' from hf)
  | succ n ih => intro h a0 x2 x3 hf; exact tX13_pressesAll_32  (fX13_pressesAll_32  n) ih hf
def bX13_pressesAll_12 (k12 : MH → Nat → Int32 → Int32 → Option (MH)) (h : MH) (a0 : Nat) (x2 : Int32) (x3 : Int32) : Option (MH) := if 3 ≤ x3 then (fX13_pressesAll_32 FU h a0 x2 0) else (bd (gR h a0 13 28) fun b1 => bd (tI h b1 x3 0) fun h1 => bd (some (x3 + 1)) fun v2 => k12 h1 a0 x2 v2)
set_option maxRecDepth 20000 in
theorem tX13_pressesAll_12 {h' : MH} (k12 : MH → Nat → Int32 → Int32 → Option (MH)) (hk12 : ∀ (h : MH) (a0 : Nat) (x2 : Int32) (x3 : Int32), k12 h a0 x2 x3 = some h' → V TT mX13_pressesAll 4 none h' h 12 [.ref a0, Jk, .int x2, .int x3, Jk, Jk, Jk, Jk] [])  {h : MH} {a0 : Nat} {x2 : Int32} {x3 : Int32} (hf : bX13_pressesAll_12 k12 h a0 x2 x3 = some h') : V TT mX13_pressesAll 4 none h' h 12 [.ref a0, Jk, .int x2, .int x3, Jk, Jk, Jk, Jk] [] := by
  unfold bX13_pressesAll_12 at hf
  refine V.iload_n (q := 13) rfl dX13_pressesAll_12 rfl rfl ?_
  refine V.iconst (q := 14) (v := 3) (by decide) dX13_pressesAll_13 rfl ?_
  refine V.icmp_ge (q := 17) (tgt := 30) dX13_pressesAll_14 rfl (by decide) (fun c => ?_) (fun c => ?_)
  · rw [if_pos c] at hf
    refine V.iconst (q := 31) (v := 0) (by decide) dX13_pressesAll_30 rfl ?_
    refine V.istore_n (q := 32) (L' := [.ref a0, Jk, .int x2, .int 0, Jk, Jk, Jk, Jk]) rfl dX13_pressesAll_31 rfl (by decide) rfl rfl ?_
    exact tlX13_pressesAll_32  FU _ _ _ _ hf
  · rw [if_neg c] at hf
    refine V.aload_n (q := 18) rfl dX13_pressesAll_17 rfl rfl ?_
    obtain ⟨b1, eb1, hf⟩ := bd_ex hf
    refine V.getR (q := 21) flX13_42 rfl eb1 dX13_pressesAll_18 rfl ?_
    refine V.iload_n (q := 22) rfl dX13_pressesAll_21 rfl rfl ?_
    refine V.iconst (q := 23) (v := 0) (by decide) dX13_pressesAll_22 rfl ?_
    obtain ⟨h1, eh1, hf⟩ := bd_ex hf
    refine V.iast (q := 24) eh1 dX13_pressesAll_23 rfl ?_
    obtain ⟨v2, ev2, hf⟩ := bd_ex hf
    refine V.iinc (q := 27) (v := v2) (L' := [.ref a0, Jk, .int x2, .int v2, Jk, Jk, Jk, Jk]) dX13_pressesAll_24 rfl rfl (Option.some.inj ev2) (by decide) rfl rfl ?_
    refine V.goto (q := 12) dX13_pressesAll_27 (by decide) ?_
    exact hk12 _ _ _ _ hf
def fX13_pressesAll_12  : Nat → MH → Nat → Int32 → Int32 → Option (MH)
  | 0 => fun _ _ _ _ => none
  | n + 1 => bX13_pressesAll_12  (fX13_pressesAll_12  n)
theorem tlX13_pressesAll_12 {h' : MH}   : ∀ (n : Nat) (h : MH) (a0 : Nat) (x2 : Int32) (x3 : Int32), fX13_pressesAll_12  n h a0 x2 x3 = some h' → V TT mX13_pressesAll 4 none h' h 12 [.ref a0, Jk, .int x2, .int x3, Jk, Jk, Jk, Jk] [] := by
  intro n
  induction n with
  | zero => intro h a0 x2 x3 hf; exact nomatch (show (none : Option (MH)) = some h' from hf)
  | succ n ih => intro h a0 x2 x3 hf; exact tX13_pressesAll_12  (fX13_pressesAll_12  n) ih hf
def fX13_pressesAll (h : MH) (a0 : Nat) (x1 : Int32) (x2 : Int32) : Option (MH) := bd (pI h a0 13 26 x1) fun h1 => bd (pI h1 a0 13 27 0) fun h2 => fX13_pressesAll_12 FU h2 a0 x2 0
set_option maxRecDepth 20000 in
theorem tX13_pressesAll {h' : MH} {h : MH} {a0 : Nat} {x1 : Int32} {x2 : Int32} (hf : fX13_pressesAll h a0 x1 x2 = some h') : VM mX13_pressesAll 4 none h' h [.ref a0, .int x1, .int x2] := by
  show V TT mX13_pressesAll 4 _ h' h 0 [.ref a0, .int x1, .int x2, Jk, Jk, Jk, Jk, Jk] []
  unfold fX13_pressesAll at hf
  refine V.aload_n (q := 1) rfl dX13_pressesAll_0 rfl rfl ?_
  refine V.iload_n (q := 2) rfl dX13_pressesAll_1 rfl rfl ?_
  obtain ⟨h1, eh1, hf⟩ := bd_ex hf
  refine V.putI (q := 5) (fpX13_465 rfl) rfl eh1 dX13_pressesAll_2 rfl ?_
  refine V.aload_n (q := 6) rfl dX13_pressesAll_5 rfl rfl ?_
  refine V.iconst (q := 7) (v := 0) (by decide) dX13_pressesAll_6 rfl ?_
  obtain ⟨h2, eh2, hf⟩ := bd_ex hf
  refine V.putI (q := 10) (fpX13_472 rfl) rfl eh2 dX13_pressesAll_7 rfl ?_
  refine V.iconst (q := 11) (v := 0) (by decide) dX13_pressesAll_10 rfl ?_
  refine V.istore_n (q := 12) (L' := [.ref a0, .int x1, .int x2, .int 0, Jk, Jk, Jk, Jk]) rfl dX13_pressesAll_11 rfl (by decide) rfl rfl ?_
  refine V.forget (L' := [.ref a0, Jk, .int x2, .int 0, Jk, Jk, Jk, Jk]) ⟨Or.inr rfl, Or.inl rfl, Or.inr rfl, Or.inr rfl, Or.inl rfl, Or.inl rfl, Or.inl rfl, Or.inl rfl, trivial⟩ ?_
  exact tlX13_pressesAll_12  FU _ _ _ _ hf
def fX13_in (h : MH) (x0 : Int32) (x1 : Int32) (x2 : Int32) : Option (Int32 × MH) := if x0 < x1 then (some (0, h)) else (if x2 < x0 then (some (0, h)) else (some (1, h)))
set_option maxRecDepth 20000 in
theorem tX13_in {r : Int32} {h' : MH} {h : MH} {x0 : Int32} {x1 : Int32} {x2 : Int32} (hf : fX13_in h x0 x1 x2 = some (r, h')) : VM mX13_in 0 (some (.int r)) h' h [.int x0, .int x1, .int x2] := by
  show V TT mX13_in 0 _ h' h 0 [.int x0, .int x1, .int x2] []
  unfold fX13_in at hf
  refine V.iload_n (q := 1) rfl dX13_in_0 rfl rfl ?_
  refine V.iload_n (q := 2) rfl dX13_in_1 rfl rfl ?_
  refine V.icmp_lt (q := 5) (tgt := 14) dX13_in_2 rfl (by decide) (fun c => ?_) (fun c => ?_)
  · rw [if_pos c] at hf
    refine V.iconst (q := 15) (v := 0) (by decide) dX13_in_14 rfl ?_
    obtain ⟨rfl, rfl⟩ := ret_inj hf
    exact V.ret (r := some (.int 0)) (Or.inl rfl) dX13_in_15
  · rw [if_neg c] at hf
    refine V.iload_n (q := 6) rfl dX13_in_5 rfl rfl ?_
    refine V.iload_n (q := 7) rfl dX13_in_6 rfl rfl ?_
    refine V.icmp_gt (q := 10) (tgt := 14) dX13_in_7 rfl (by decide) (fun c => ?_) (fun c => ?_)
    · rw [if_pos c] at hf
      refine V.iconst (q := 15) (v := 0) (by decide) dX13_in_14 rfl ?_
      obtain ⟨rfl, rfl⟩ := ret_inj hf
      exact V.ret (r := some (.int 0)) (Or.inl rfl) dX13_in_15
    · rw [if_neg c] at hf
      refine V.iconst (q := 11) (v := 1) (by decide) dX13_in_10 rfl ?_
      refine V.goto (q := 15) dX13_in_11 (by decide) ?_
      obtain ⟨rfl, rfl⟩ := ret_inj hf
      exact V.ret (r := some (.int 1)) (Or.inr rfl) dX13_in_15
def fX13_refusesPresses (h : MH) (a0 : Nat) (x1 : Int32) (x2 : Int32) : Option (Int32 × MH) := bd (gZ h a0 13 3) fun z1 => if z1 = true then (some (1, h)) else (bd2 (fX13_in h x1 0 65536) fun v2 h1 => if v2 = 0 then (some (2, h1)) else (bd2 (fX13_in h1 x2 0 90) fun v3 h2 => if v3 = 0 then (some (2, h2)) else (bd (gR h2 a0 13 3) fun b4 => bd (gI h2 b4 12 3) fun v5 => if v5 = 0 then (some (6, h2)) else (bd (gR h2 a0 13 3) fun b6 => bd (gI h2 b6 12 5) fun v7 => if v7 = 0 then (some (6, h2)) else (some (0, h2))))))
set_option maxRecDepth 20000 in
theorem tX13_refusesPresses {r : Int32} {h' : MH} {h : MH} {a0 : Nat} {x1 : Int32} {x2 : Int32} (hf : fX13_refusesPresses h a0 x1 x2 = some (r, h')) : VM mX13_refusesPresses 1 (some (.int r)) h' h [.ref a0, .int x1, .int x2] := by
  show V TT mX13_refusesPresses 1 _ h' h 0 [.ref a0, .int x1, .int x2] []
  unfold fX13_refusesPresses at hf
  refine V.aload_n (q := 1) rfl dX13_refusesPresses_0 rfl rfl ?_
  obtain ⟨z1, ez1, hf⟩ := bd_ex hf
  refine V.getZN (q := 4) (q2 := 7) (tgt := 9) flX13_338 rfl ez1 dX13_refusesPresses_1 rfl dX13_refusesPresses_4 rfl (by decide) (fun c => ?_) (fun c => ?_)
  · rw [if_neg c] at hf
    refine V.iload_n (q := 10) rfl dX13_refusesPresses_9 rfl rfl ?_
    refine V.iconst (q := 11) (v := 0) (by decide) dX13_refusesPresses_10 rfl ?_
    refine V.ldcw (q := 14) kcX13_462 dX13_refusesPresses_11 rfl ?_
    obtain ⟨v2, h1, eh1, hf⟩ := bd2_ex hf
    refine V.callS (q := 17) (vs := [.int x1, .int 0, .int 65536]) (st := []) (S2 := [.int v2]) okX13_in stX13_in lkX13_127 (tX13_in eh1) rfl (by decide) rfl (Nat.le_of_ble_eq_true rfl) (Nat.le_of_ble_eq_true rfl) rfl dX13_refusesPresses_14 rfl rfl ?_
    refine V.if_eq (q := 20) (tgt := 30) dX13_refusesPresses_17 rfl (by decide) (fun c => ?_) (fun c => ?_)
    · rw [if_pos c] at hf
      refine V.iconst (q := 31) (v := 2) (by decide) dX13_refusesPresses_30 rfl ?_
      obtain ⟨rfl, rfl⟩ := ret_inj hf
      exact V.ret (r := some (.int 2)) trivial dX13_refusesPresses_31
    · rw [if_neg c] at hf
      refine V.iload_n (q := 21) rfl dX13_refusesPresses_20 rfl rfl ?_
      refine V.iconst (q := 22) (v := 0) (by decide) dX13_refusesPresses_21 rfl ?_
      refine V.bipush (q := 24) (v := 90) (by decide) dX13_refusesPresses_22 rfl ?_
      obtain ⟨v3, h2, eh2, hf⟩ := bd2_ex hf
      refine V.callS (q := 27) (vs := [.int x2, .int 0, .int 90]) (st := []) (S2 := [.int v3]) okX13_in stX13_in lkX13_127 (tX13_in eh2) rfl (by decide) rfl (Nat.le_of_ble_eq_true rfl) (Nat.le_of_ble_eq_true rfl) rfl dX13_refusesPresses_24 rfl rfl ?_
      refine V.if_ne (q := 30) (tgt := 32) dX13_refusesPresses_27 rfl (by decide) (fun c => ?_) (fun c => ?_)
      · rw [if_neg c] at hf
        refine V.aload_n (q := 33) rfl dX13_refusesPresses_32 rfl rfl ?_
        obtain ⟨b4, eb4, hf⟩ := bd_ex hf
        refine V.getR (q := 36) flX13_338 rfl eb4 dX13_refusesPresses_33 rfl ?_
        obtain ⟨v5, ev5, hf⟩ := bd_ex hf
        refine V.getI (q := 39) flX13_262 rfl ev5 dX13_refusesPresses_36 rfl ?_
        refine V.if_eq (q := 42) (tgt := 52) dX13_refusesPresses_39 rfl (by decide) (fun c => ?_) (fun c => ?_)
        · rw [if_pos c] at hf
          refine V.bipush (q := 54) (v := 6) (by decide) dX13_refusesPresses_52 rfl ?_
          refine V.goto (q := 58) dX13_refusesPresses_54 (by decide) ?_
          obtain ⟨rfl, rfl⟩ := ret_inj hf
          exact V.ret (r := some (.int 6)) trivial dX13_refusesPresses_58
        · rw [if_neg c] at hf
          refine V.aload_n (q := 43) rfl dX13_refusesPresses_42 rfl rfl ?_
          obtain ⟨b6, eb6, hf⟩ := bd_ex hf
          refine V.getR (q := 46) flX13_338 rfl eb6 dX13_refusesPresses_43 rfl ?_
          obtain ⟨v7, ev7, hf⟩ := bd_ex hf
          refine V.getI (q := 49) flX13_298 rfl ev7 dX13_refusesPresses_46 rfl ?_
          refine V.if_ne (q := 52) (tgt := 57) dX13_refusesPresses_49 rfl (by decide) (fun c => ?_) (fun c => ?_)
          · rw [if_neg c] at hf
            refine V.iconst (q := 58) (v := 0) (by decide) dX13_refusesPresses_57 rfl ?_
            obtain ⟨rfl, rfl⟩ := ret_inj hf
            exact V.ret (r := some (.int 0)) trivial dX13_refusesPresses_58
          · rw [if_pos c] at hf
            refine V.bipush (q := 54) (v := 6) (by decide) dX13_refusesPresses_52 rfl ?_
            refine V.goto (q := 58) dX13_refusesPresses_54 (by decide) ?_
            obtain ⟨rfl, rfl⟩ := ret_inj hf
            exact V.ret (r := some (.int 6)) trivial dX13_refusesPresses_58
      · rw [if_pos c] at hf
        refine V.iconst (q := 31) (v := 2) (by decide) dX13_refusesPresses_30 rfl ?_
        obtain ⟨rfl, rfl⟩ := ret_inj hf
        exact V.ret (r := some (.int 2)) trivial dX13_refusesPresses_31
  · rw [if_pos c] at hf
    refine V.iconst (q := 8) (v := 1) (by decide) dX13_refusesPresses_7 rfl ?_
    obtain ⟨rfl, rfl⟩ := ret_inj hf
    exact V.ret (r := some (.int 1)) trivial dX13_refusesPresses_8
def fX13_birds (h : MH) (a0 : Nat) (x1 : Int32) (x2 : Int32) : Option (Int32 × MH) := bd (pI h a0 13 0 0) fun h1 => bd (ck h1 a0 13) fun _ => bd2 (fX13_refusesPresses h1 a0 x1 x2) fun v2 h2 => if v2 ≤ 0 then (bd (ck h2 a0 13) fun _ => bd (fX13_pressesAll h2 a0 x1 x2) fun h3 => bd (gI h3 a0 13 27) fun v4 => bd (ck h3 a0 13) fun _ => bd2 (fX13_good1 h3 a0 v4) fun v6 h4 => some (v6, h4)) else (bd (ck h2 a0 13) fun _ => bd2 (fX13_refused h2 a0 v2) fun v4 h3 => some (v4, h3))
set_option maxRecDepth 20000 in
theorem tX13_birds {r : Int32} {h' : MH} {h : MH} {a0 : Nat} {x1 : Int32} {x2 : Int32} (hf : fX13_birds h a0 x1 x2 = some (r, h')) : VM mX13_birds 5 (some (.int r)) h' h [.ref a0, .int x1, .int x2] := by
  show V TT mX13_birds 5 _ h' h 0 [.ref a0, .int x1, .int x2, Jk] []
  unfold fX13_birds at hf
  refine V.aload_n (q := 1) rfl dX13_birds_0 rfl rfl ?_
  refine V.iconst (q := 2) (v := 0) (by decide) dX13_birds_1 rfl ?_
  obtain ⟨h1, eh1, hf⟩ := bd_ex hf
  refine V.putI (q := 5) (fpX13_48 rfl) rfl eh1 dX13_birds_2 rfl ?_
  refine V.aload_n (q := 6) rfl dX13_birds_5 rfl rfl ?_
  refine V.iload_n (q := 7) rfl dX13_birds_6 rfl rfl ?_
  refine V.iload_n (q := 8) rfl dX13_birds_7 rfl rfl ?_
  obtain ⟨_, e1, hf⟩ := bd_ex hf
  obtain ⟨v2, h2, eh2, hf⟩ := bd2_ex hf
  refine V.callV (q := 11) (ci := 13) (vs := [.int x1, .int x2]) (st := []) (S2 := [.int v2]) okX13_refusesPresses imX13_refusesPresses seX13_refusesPresses rfl lkX13_478 (tX13_refusesPresses eh2) rfl (ck_is e1) (by decide) rfl (Nat.le_of_ble_eq_true rfl) (Nat.le_of_ble_eq_true rfl) rfl dX13_birds_8 rfl rfl ?_
  refine V.istore_n (q := 12) (L' := [.ref a0, .int x1, .int x2, .int v2]) rfl dX13_birds_11 rfl (by decide) rfl rfl ?_
  refine V.iload_n (q := 13) rfl dX13_birds_12 rfl rfl ?_
  refine V.if_le (q := 16) (tgt := 22) dX13_birds_13 rfl (by decide) (fun c => ?_) (fun c => ?_)
  · rw [if_pos c] at hf
    refine V.aload_n (q := 23) rfl dX13_birds_22 rfl rfl ?_
    refine V.iload_n (q := 24) rfl dX13_birds_23 rfl rfl ?_
    refine V.iload_n (q := 25) rfl dX13_birds_24 rfl rfl ?_
    obtain ⟨_, e3, hf⟩ := bd_ex hf
    obtain ⟨h3, eh3, hf⟩ := bd_ex hf
    refine V.callV (q := 28) (ci := 13) (vs := [.int x1, .int x2]) (st := []) (S2 := []) okX13_pressesAll imX13_pressesAll seX13_pressesAll rfl lkX13_481 (tX13_pressesAll eh3) rfl (ck_is e3) (by decide) rfl (Nat.le_of_ble_eq_true rfl) (Nat.le_of_ble_eq_true rfl) rfl dX13_birds_25 rfl rfl ?_
    refine V.aload_n (q := 29) rfl dX13_birds_28 rfl rfl ?_
    refine V.aload_n (q := 30) rfl dX13_birds_29 rfl rfl ?_
    obtain ⟨v4, ev4, hf⟩ := bd_ex hf
    refine V.getI (q := 33) flX13_472 rfl ev4 dX13_birds_30 rfl ?_
    obtain ⟨_, e5, hf⟩ := bd_ex hf
    obtain ⟨v6, h4, eh4, hf⟩ := bd2_ex hf
    refine V.callV (q := 36) (ci := 13) (vs := [.int v4]) (st := []) (S2 := [.int v6]) okX13_good1 imX13_good1 seX13_good1 rfl lkX13_58 (tX13_good1 eh4) rfl (ck_is e5) (by decide) rfl (Nat.le_of_ble_eq_true rfl) (Nat.le_of_ble_eq_true rfl) rfl dX13_birds_33 rfl rfl ?_
    obtain ⟨rfl, rfl⟩ := ret_inj hf
    exact V.ret (r := some (.int v6)) trivial dX13_birds_36
  · rw [if_neg c] at hf
    refine V.aload_n (q := 17) rfl dX13_birds_16 rfl rfl ?_
    refine V.iload_n (q := 18) rfl dX13_birds_17 rfl rfl ?_
    obtain ⟨_, e3, hf⟩ := bd_ex hf
    obtain ⟨v4, h3, eh3, hf⟩ := bd2_ex hf
    refine V.callV (q := 21) (ci := 13) (vs := [.int v2]) (st := []) (S2 := [.int v4]) okX13_refused imX13_refused seX13_refused rfl lkX13_54 (tX13_refused eh3) rfl (ck_is e3) (by decide) rfl (Nat.le_of_ble_eq_true rfl) (Nat.le_of_ble_eq_true rfl) rfl dX13_birds_18 rfl rfl ?_
    obtain ⟨rfl, rfl⟩ := ret_inj hf
    exact V.ret (r := some (.int v4)) trivial dX13_birds_21
def bX13_bits_4 (k4 : MH → Int32 → Int32 → Option (Int32 × MH)) (h : MH) (x1 : Int32) (x2 : Int32) : Option (Int32 × MH) := if x2 = 0 then (some (x1, h)) else (bd (some (x1 + 1)) fun v1 => bd (some (x2 &&& (x2 - 1))) fun v2 => k4 h v1 v2)
set_option maxRecDepth 20000 in
theorem tX13_bits_4 {r : Int32} {h' : MH} (k4 : MH → Int32 → Int32 → Option (Int32 × MH)) (hk4 : ∀ (h : MH) (x1 : Int32) (x2 : Int32), k4 h x1 x2 = some (r, h') → V TT mX13_bits 0 (some (.int r)) h' h 4 [Jk, .int x1, .int x2] [])  {h : MH} {x1 : Int32} {x2 : Int32} (hf : bX13_bits_4 k4 h x1 x2 = some (r, h')) : V TT mX13_bits 0 (some (.int r)) h' h 4 [Jk, .int x1, .int x2] [] := by
  unfold bX13_bits_4 at hf
  refine V.iload_n (q := 5) rfl dX13_bits_4 rfl rfl ?_
  refine V.if_eq (q := 8) (tgt := 20) dX13_bits_5 rfl (by decide) (fun c => ?_) (fun c => ?_)
  · rw [if_pos c] at hf
    refine V.iload_n (q := 21) rfl dX13_bits_20 rfl rfl ?_
    obtain ⟨rfl, rfl⟩ := ret_inj hf
    exact V.ret (r := some (.int x1)) trivial dX13_bits_21
  · rw [if_neg c] at hf
    obtain ⟨v1, ev1, hf⟩ := bd_ex hf
    refine V.iinc (q := 11) (v := v1) (L' := [Jk, .int v1, .int x2]) dX13_bits_8 rfl rfl (Option.some.inj ev1) (by decide) rfl rfl ?_
    refine V.iload_n (q := 12) rfl dX13_bits_11 rfl rfl ?_
    refine V.iload_n (q := 13) rfl dX13_bits_12 rfl rfl ?_
    refine V.iconst (q := 14) (v := 1) (by decide) dX13_bits_13 rfl ?_
    refine V.isub (q := 15) dX13_bits_14 rfl ?_
    refine V.iand (q := 16) dX13_bits_15 rfl ?_
    obtain ⟨v2, ev2, hf⟩ := bd_ex hf
    refine V.topI (Option.some.inj ev2) ?_
    refine V.istore_n (q := 17) (L' := [Jk, .int v1, .int v2]) rfl dX13_bits_16 rfl (by decide) rfl rfl ?_
    refine V.goto (q := 4) dX13_bits_17 (by decide) ?_
    exact hk4 _ _ _ hf
def fX13_bits_4  : Nat → MH → Int32 → Int32 → Option (Int32 × MH)
  | 0 => fun _ _ _ => none
  | n + 1 => bX13_bits_4  (fX13_bits_4  n)
theorem tlX13_bits_4 {r : Int32} {h' : MH}   : ∀ (n : Nat) (h : MH) (x1 : Int32) (x2 : Int32), fX13_bits_4  n h x1 x2 = some (r, h') → V TT mX13_bits 0 (some (.int r)) h' h 4 [Jk, .int x1, .int x2] [] := by
  intro n
  induction n with
  | zero => intro h x1 x2 hf; exact nomatch (show (none : Option (Int32 × MH)) = some (r, h') from hf)
  | succ n ih => intro h x1 x2 hf; exact tX13_bits_4  (fX13_bits_4  n) ih hf
def fX13_bits (h : MH) (x0 : Int32) : Option (Int32 × MH) := fX13_bits_4 FU h 0 x0
set_option maxRecDepth 20000 in
theorem tX13_bits {r : Int32} {h' : MH} {h : MH} {x0 : Int32} (hf : fX13_bits h x0 = some (r, h')) : VM mX13_bits 0 (some (.int r)) h' h [.int x0] := by
  show V TT mX13_bits 0 _ h' h 0 [.int x0, Jk, Jk] []
  unfold fX13_bits at hf
  refine V.iconst (q := 1) (v := 0) (by decide) dX13_bits_0 rfl ?_
  refine V.istore_n (q := 2) (L' := [.int x0, .int 0, Jk]) rfl dX13_bits_1 rfl (by decide) rfl rfl ?_
  refine V.iload_n (q := 3) rfl dX13_bits_2 rfl rfl ?_
  refine V.istore_n (q := 4) (L' := [.int x0, .int 0, .int x0]) rfl dX13_bits_3 rfl (by decide) rfl rfl ?_
  refine V.forget (L' := [Jk, .int 0, .int x0]) ⟨Or.inl rfl, Or.inr rfl, Or.inr rfl, trivial⟩ ?_
  exact tlX13_bits_4  FU _ _ _ hf
def fX13_isStamp (h : MH) (a0 : Nat) (x1 : Int32) : Option (Int32 × MH) := bd (gZ h a0 13 3) fun z1 => if z1 = true then (some (0, h)) else (if x1 < 0 then (some (0, h)) else (bd (gR h a0 13 3) fun b2 => bd (gI h b2 12 3) fun v3 => if v3 ≤ x1 then (some (0, h)) else (some (1, h))))
set_option maxRecDepth 20000 in
theorem tX13_isStamp {r : Int32} {h' : MH} {h : MH} {a0 : Nat} {x1 : Int32} (hf : fX13_isStamp h a0 x1 = some (r, h')) : VM mX13_isStamp 0 (some (.int r)) h' h [.ref a0, .int x1] := by
  show V TT mX13_isStamp 0 _ h' h 0 [.ref a0, .int x1] []
  unfold fX13_isStamp at hf
  refine V.aload_n (q := 1) rfl dX13_isStamp_0 rfl rfl ?_
  obtain ⟨z1, ez1, hf⟩ := bd_ex hf
  refine V.getZ (q := 4) (q2 := 7) (tgt := 26) flX13_338 rfl ez1 dX13_isStamp_1 rfl dX13_isStamp_4 rfl (by decide) (fun c => ?_) (fun c => ?_)
  · rw [if_pos c] at hf
    refine V.iconst (q := 27) (v := 0) (by decide) dX13_isStamp_26 rfl ?_
    obtain ⟨rfl, rfl⟩ := ret_inj hf
    exact V.ret (r := some (.int 0)) (Or.inl rfl) dX13_isStamp_27
  · rw [if_neg c] at hf
    refine V.iload_n (q := 8) rfl dX13_isStamp_7 rfl rfl ?_
    refine V.if_lt (q := 11) (tgt := 26) dX13_isStamp_8 rfl (by decide) (fun c => ?_) (fun c => ?_)
    · rw [if_pos c] at hf
      refine V.iconst (q := 27) (v := 0) (by decide) dX13_isStamp_26 rfl ?_
      obtain ⟨rfl, rfl⟩ := ret_inj hf
      exact V.ret (r := some (.int 0)) (Or.inl rfl) dX13_isStamp_27
    · rw [if_neg c] at hf
      refine V.iload_n (q := 12) rfl dX13_isStamp_11 rfl rfl ?_
      refine V.aload_n (q := 13) rfl dX13_isStamp_12 rfl rfl ?_
      obtain ⟨b2, eb2, hf⟩ := bd_ex hf
      refine V.getR (q := 16) flX13_338 rfl eb2 dX13_isStamp_13 rfl ?_
      obtain ⟨v3, ev3, hf⟩ := bd_ex hf
      refine V.getI (q := 19) flX13_262 rfl ev3 dX13_isStamp_16 rfl ?_
      refine V.icmp_ge (q := 22) (tgt := 26) dX13_isStamp_19 rfl (by decide) (fun c => ?_) (fun c => ?_)
      · rw [if_pos c] at hf
        refine V.iconst (q := 27) (v := 0) (by decide) dX13_isStamp_26 rfl ?_
        obtain ⟨rfl, rfl⟩ := ret_inj hf
        exact V.ret (r := some (.int 0)) (Or.inl rfl) dX13_isStamp_27
      · rw [if_neg c] at hf
        refine V.iconst (q := 23) (v := 1) (by decide) dX13_isStamp_22 rfl ?_
        refine V.goto (q := 27) dX13_isStamp_23 (by decide) ?_
        obtain ⟨rfl, rfl⟩ := ret_inj hf
        exact V.ret (r := some (.int 1)) (Or.inr rfl) dX13_isStamp_27
def fX13_byRule (h : MH) (a0 : Nat) (x1 : Int32) (x2 : Int32) : Option (Int32 × MH) := bd (pI h a0 13 0 0) fun h1 => bd (ck h1 a0 13) fun _ => bd2 (fX13_isStamp h1 a0 x1) fun v2 h2 => if v2 = 0 then (bd (ck h2 a0 13) fun _ => bd2 (fX13_refused h2 a0 1) fun v4 h3 => some (v4, h3)) else (bd (ck h2 a0 13) fun _ => bd2 (fX13_isPaper h2 a0 x2) fun v4 h3 => if v4 = 0 then (bd (ck h3 a0 13) fun _ => bd2 (fX13_refused h3 a0 1) fun v6 h4 => some (v6, h4)) else (bd (gR h3 a0 13 15) fun b5 => bd (lI h3 b5 (11 + x2)) fun v6 => bd (ck h3 a0 13) fun _ => bd2 (fX13_ruleFor h3 a0 x1 v6) fun v8 h4 => bd (ck h4 a0 13) fun _ => bd2 (fX13_good1 h4 a0 v8) fun v10 h5 => some (v10, h5)))
set_option maxRecDepth 20000 in
theorem tX13_byRule {r : Int32} {h' : MH} {h : MH} {a0 : Nat} {x1 : Int32} {x2 : Int32} (hf : fX13_byRule h a0 x1 x2 = some (r, h')) : VM mX13_byRule 2 (some (.int r)) h' h [.ref a0, .int x1, .int x2] := by
  show V TT mX13_byRule 2 _ h' h 0 [.ref a0, .int x1, .int x2] []
  unfold fX13_byRule at hf
  refine V.aload_n (q := 1) rfl dX13_byRule_0 rfl rfl ?_
  refine V.iconst (q := 2) (v := 0) (by decide) dX13_byRule_1 rfl ?_
  obtain ⟨h1, eh1, hf⟩ := bd_ex hf
  refine V.putI (q := 5) (fpX13_48 rfl) rfl eh1 dX13_byRule_2 rfl ?_
  refine V.aload_n (q := 6) rfl dX13_byRule_5 rfl rfl ?_
  refine V.iload_n (q := 7) rfl dX13_byRule_6 rfl rfl ?_
  obtain ⟨_, e1, hf⟩ := bd_ex hf
  obtain ⟨v2, h2, eh2, hf⟩ := bd2_ex hf
  refine V.callV (q := 10) (ci := 13) (vs := [.int x1]) (st := []) (S2 := [.int v2]) okX13_isStamp imX13_isStamp seX13_isStamp rfl lkX13_358 (tX13_isStamp eh2) rfl (ck_is e1) (by decide) rfl (Nat.le_of_ble_eq_true rfl) (Nat.le_of_ble_eq_true rfl) rfl dX13_byRule_7 rfl rfl ?_
  refine V.if_eq (q := 13) (tgt := 42) dX13_byRule_10 rfl (by decide) (fun c => ?_) (fun c => ?_)
  · rw [if_pos c] at hf
    refine V.aload_n (q := 43) rfl dX13_byRule_42 rfl rfl ?_
    refine V.iconst (q := 44) (v := 1) (by decide) dX13_byRule_43 rfl ?_
    obtain ⟨_, e3, hf⟩ := bd_ex hf
    obtain ⟨v4, h3, eh3, hf⟩ := bd2_ex hf
    refine V.callV (q := 47) (ci := 13) (vs := [.int 1]) (st := []) (S2 := [.int v4]) okX13_refused imX13_refused seX13_refused rfl lkX13_54 (tX13_refused eh3) rfl (ck_is e3) (by decide) rfl (Nat.le_of_ble_eq_true rfl) (Nat.le_of_ble_eq_true rfl) rfl dX13_byRule_44 rfl rfl ?_
    obtain ⟨rfl, rfl⟩ := ret_inj hf
    exact V.ret (r := some (.int v4)) trivial dX13_byRule_47
  · rw [if_neg c] at hf
    refine V.aload_n (q := 14) rfl dX13_byRule_13 rfl rfl ?_
    refine V.iload_n (q := 15) rfl dX13_byRule_14 rfl rfl ?_
    obtain ⟨_, e3, hf⟩ := bd_ex hf
    obtain ⟨v4, h3, eh3, hf⟩ := bd2_ex hf
    refine V.callV (q := 18) (ci := 13) (vs := [.int x2]) (st := []) (S2 := [.int v4]) okX13_isPaper imX13_isPaper seX13_isPaper rfl lkX13_355 (tX13_isPaper eh3) rfl (ck_is e3) (by decide) rfl (Nat.le_of_ble_eq_true rfl) (Nat.le_of_ble_eq_true rfl) rfl dX13_byRule_15 rfl rfl ?_
    refine V.if_eq (q := 21) (tgt := 42) dX13_byRule_18 rfl (by decide) (fun c => ?_) (fun c => ?_)
    · rw [if_pos c] at hf
      refine V.aload_n (q := 43) rfl dX13_byRule_42 rfl rfl ?_
      refine V.iconst (q := 44) (v := 1) (by decide) dX13_byRule_43 rfl ?_
      obtain ⟨_, e5, hf⟩ := bd_ex hf
      obtain ⟨v6, h4, eh4, hf⟩ := bd2_ex hf
      refine V.callV (q := 47) (ci := 13) (vs := [.int 1]) (st := []) (S2 := [.int v6]) okX13_refused imX13_refused seX13_refused rfl lkX13_54 (tX13_refused eh4) rfl (ck_is e5) (by decide) rfl (Nat.le_of_ble_eq_true rfl) (Nat.le_of_ble_eq_true rfl) rfl dX13_byRule_44 rfl rfl ?_
      obtain ⟨rfl, rfl⟩ := ret_inj hf
      exact V.ret (r := some (.int v6)) trivial dX13_byRule_47
    · rw [if_neg c] at hf
      refine V.aload_n (q := 22) rfl dX13_byRule_21 rfl rfl ?_
      refine V.aload_n (q := 23) rfl dX13_byRule_22 rfl rfl ?_
      refine V.iload_n (q := 24) rfl dX13_byRule_23 rfl rfl ?_
      refine V.aload_n (q := 25) rfl dX13_byRule_24 rfl rfl ?_
      obtain ⟨b5, eb5, hf⟩ := bd_ex hf
      refine V.getR (q := 28) flX13_17 rfl eb5 dX13_byRule_25 rfl ?_
      refine V.bipush (q := 30) (v := 11) (by decide) dX13_byRule_28 rfl ?_
      refine V.iload_n (q := 31) rfl dX13_byRule_30 rfl rfl ?_
      refine V.iadd (q := 32) dX13_byRule_31 rfl ?_
      obtain ⟨v6, ev6, hf⟩ := bd_ex hf
      refine V.iald (q := 33) ev6 dX13_byRule_32 rfl ?_
      obtain ⟨_, e7, hf⟩ := bd_ex hf
      obtain ⟨v8, h4, eh4, hf⟩ := bd2_ex hf
      refine V.callV (q := 36) (ci := 13) (vs := [.int x1, .int v6]) (st := [.ref a0]) (S2 := [.int v8, .ref a0]) okX13_ruleFor imX13_ruleFor seX13_ruleFor rfl lkX13_346 (tX13_ruleFor eh4) rfl (ck_is e7) (by decide) rfl (Nat.le_of_ble_eq_true rfl) (Nat.le_of_ble_eq_true rfl) rfl dX13_byRule_33 rfl rfl ?_
      obtain ⟨_, e9, hf⟩ := bd_ex hf
      obtain ⟨v10, h5, eh5, hf⟩ := bd2_ex hf
      refine V.callV (q := 39) (ci := 13) (vs := [.int v8]) (st := []) (S2 := [.int v10]) okX13_good1 imX13_good1 seX13_good1 rfl lkX13_58 (tX13_good1 eh5) rfl (ck_is e9) (by decide) rfl (Nat.le_of_ble_eq_true rfl) (Nat.le_of_ble_eq_true rfl) rfl dX13_byRule_36 rfl rfl ?_
      refine V.goto (q := 47) dX13_byRule_39 (by decide) ?_
      obtain ⟨rfl, rfl⟩ := ret_inj hf
      exact V.ret (r := some (.int v10)) trivial dX13_byRule_47
def fX13_byteAt (h : MH) (a0 : Nat) (x1 : Int32) : Option (Int32 × MH) := bd (gI h a0 13 7) fun v1 => if v1 ≤ x1 then (some ((-1), h)) else (bd (gR h a0 13 5) fun b2 => bd (lB h b2 x1) fun v3 => some ((v3 &&& 255), h))
set_option maxRecDepth 20000 in
theorem tX13_byteAt {r : Int32} {h' : MH} {h : MH} {a0 : Nat} {x1 : Int32} (hf : fX13_byteAt h a0 x1 = some (r, h')) : VM mX13_byteAt 0 (some (.int r)) h' h [.ref a0, .int x1] := by
  show V TT mX13_byteAt 0 _ h' h 0 [.ref a0, .int x1] []
  unfold fX13_byteAt at hf
  refine V.iload_n (q := 1) rfl dX13_byteAt_0 rfl rfl ?_
  refine V.aload_n (q := 2) rfl dX13_byteAt_1 rfl rfl ?_
  obtain ⟨v1, ev1, hf⟩ := bd_ex hf
  refine V.getI (q := 5) flX13_65 rfl ev1 dX13_byteAt_2 rfl ?_
  refine V.icmp_ge (q := 8) (tgt := 21) dX13_byteAt_5 rfl (by decide) (fun c => ?_) (fun c => ?_)
  · rw [if_pos c] at hf
    refine V.iconst (q := 22) (v := (-1)) (by decide) dX13_byteAt_21 rfl ?_
    obtain ⟨rfl, rfl⟩ := ret_inj hf
    exact V.ret (r := some (.int (-1))) trivial dX13_byteAt_22
  · rw [if_neg c] at hf
    refine V.aload_n (q := 9) rfl dX13_byteAt_8 rfl rfl ?_
    obtain ⟨b2, eb2, hf⟩ := bd_ex hf
    refine V.getR (q := 12) flX13_13 rfl eb2 dX13_byteAt_9 rfl ?_
    refine V.iload_n (q := 13) rfl dX13_byteAt_12 rfl rfl ?_
    obtain ⟨v3, ev3, hf⟩ := bd_ex hf
    refine V.bald (q := 14) ev3 dX13_byteAt_13 rfl ?_
    refine V.sipush (q := 17) (v := 255) (by decide) dX13_byteAt_14 rfl ?_
    refine V.iand (q := 18) dX13_byteAt_17 rfl ?_
    refine V.goto (q := 22) dX13_byteAt_18 (by decide) ?_
    obtain ⟨rfl, rfl⟩ := ret_inj hf
    exact V.ret (r := some (.int (v3 &&& 255))) trivial dX13_byteAt_22
def fX13_canBe (h : MH) (a0 : Nat) (x1 : Int32) (x2 : Int32) : Option (Int32 × MH) := bd (gR h a0 13 3) fun b1 => bd (gI h b1 12 5) fun v2 => bd (nz v2) fun _ => bd (some (x2 / v2)) fun v4 => bd (gR h a0 13 3) fun b5 => bd (gI h b5 12 5) fun v6 => bd (nz v6) fun _ => bd (some (x2 - x2 / v6 * v6)) fun v8 => bd (gR h a0 13 3) fun b9 => bd (gR h b9 12 11) fun b10 => bd (lI h b10 x1) fun v11 => if v11 = (-2) then (some (0, h)) else (bd (gR h a0 13 22) fun b12 => bd (lI h b12 v4) fun v13 => bd (gR h a0 13 24) fun b14 => bd (lI h b14 v4) fun v15 => if v15 ≤ v13 then (some (0, h)) else (bd (gR h a0 13 23) fun b16 => bd (lI h b16 v8) fun v17 => if 2 ≤ v17 then (some (0, h)) else (bd (ck h a0 13) fun _ => bd2 (fX13_saysNow h a0 v4 x1) fun v19 h1 => bd (ck h1 a0 13) fun _ => bd2 (fX13_printsBy h1 a0 v8 v19) fun v21 h2 => bd (gR h2 a0 13 3) fun b22 => bd (gR h2 b22 12 11) fun b23 => bd (lI h2 b23 x1) fun v24 => if v21 = v24 then (some (1, h2)) else (some (0, h2)))))
set_option maxRecDepth 20000 in
theorem tX13_canBe {r : Int32} {h' : MH} {h : MH} {a0 : Nat} {x1 : Int32} {x2 : Int32} (hf : fX13_canBe h a0 x1 x2 = some (r, h')) : VM mX13_canBe 4 (some (.int r)) h' h [.ref a0, .int x1, .int x2] := by
  show V TT mX13_canBe 4 _ h' h 0 [.ref a0, .int x1, .int x2, Jk, Jk] []
  unfold fX13_canBe at hf
  refine V.iload_n (q := 1) rfl dX13_canBe_0 rfl rfl ?_
  refine V.aload_n (q := 2) rfl dX13_canBe_1 rfl rfl ?_
  obtain ⟨b1, eb1, hf⟩ := bd_ex hf
  refine V.getR (q := 5) flX13_338 rfl eb1 dX13_canBe_2 rfl ?_
  obtain ⟨v2, ev2, hf⟩ := bd_ex hf
  refine V.getI (q := 8) flX13_298 rfl ev2 dX13_canBe_5 rfl ?_
  obtain ⟨_, e3, hf⟩ := bd_ex hf
  refine V.idiv (q := 9) (nz_is e3) dX13_canBe_8 rfl ?_
  obtain ⟨v4, ev4, hf⟩ := bd_ex hf
  refine V.topI (Option.some.inj ev4) ?_
  refine V.istore_n (q := 10) (L' := [.ref a0, .int x1, .int x2, .int v4, Jk]) rfl dX13_canBe_9 rfl (by decide) rfl rfl ?_
  refine V.iload_n (q := 11) rfl dX13_canBe_10 rfl rfl ?_
  refine V.aload_n (q := 12) rfl dX13_canBe_11 rfl rfl ?_
  obtain ⟨b5, eb5, hf⟩ := bd_ex hf
  refine V.getR (q := 15) flX13_338 rfl eb5 dX13_canBe_12 rfl ?_
  obtain ⟨v6, ev6, hf⟩ := bd_ex hf
  refine V.getI (q := 18) flX13_298 rfl ev6 dX13_canBe_15 rfl ?_
  obtain ⟨_, e7, hf⟩ := bd_ex hf
  refine V.irem (q := 19) (nz_is e7) dX13_canBe_18 rfl ?_
  obtain ⟨v8, ev8, hf⟩ := bd_ex hf
  refine V.topI (Option.some.inj ev8) ?_
  refine V.istore (q := 21) (L' := [.ref a0, .int x1, .int x2, .int v4, .int v8]) dX13_canBe_19 rfl (by decide) rfl rfl ?_
  refine V.aload_n (q := 22) rfl dX13_canBe_21 rfl rfl ?_
  obtain ⟨b9, eb9, hf⟩ := bd_ex hf
  refine V.getR (q := 25) flX13_338 rfl eb9 dX13_canBe_22 rfl ?_
  obtain ⟨b10, eb10, hf⟩ := bd_ex hf
  refine V.getR (q := 28) flX13_315 rfl eb10 dX13_canBe_25 rfl ?_
  refine V.iload_n (q := 29) rfl dX13_canBe_28 rfl rfl ?_
  obtain ⟨v11, ev11, hf⟩ := bd_ex hf
  refine V.iald (q := 30) ev11 dX13_canBe_29 rfl ?_
  refine V.bipush (q := 32) (v := (-2)) (by decide) dX13_canBe_30 rfl ?_
  refine V.icmp_eq (q := 35) (tgt := 89) dX13_canBe_32 rfl (by decide) (fun c => ?_) (fun c => ?_)
  · rw [if_pos c] at hf
    refine V.iconst (q := 90) (v := 0) (by decide) dX13_canBe_89 rfl ?_
    obtain ⟨rfl, rfl⟩ := ret_inj hf
    exact V.ret (r := some (.int 0)) (Or.inl rfl) dX13_canBe_90
  · rw [if_neg c] at hf
    refine V.aload_n (q := 36) rfl dX13_canBe_35 rfl rfl ?_
    obtain ⟨b12, eb12, hf⟩ := bd_ex hf
    refine V.getR (q := 39) flX13_33 rfl eb12 dX13_canBe_36 rfl ?_
    refine V.iload_n (q := 40) rfl dX13_canBe_39 rfl rfl ?_
    obtain ⟨v13, ev13, hf⟩ := bd_ex hf
    refine V.iald (q := 41) ev13 dX13_canBe_40 rfl ?_
    refine V.aload_n (q := 42) rfl dX13_canBe_41 rfl rfl ?_
    obtain ⟨b14, eb14, hf⟩ := bd_ex hf
    refine V.getR (q := 45) flX13_39 rfl eb14 dX13_canBe_42 rfl ?_
    refine V.iload_n (q := 46) rfl dX13_canBe_45 rfl rfl ?_
    obtain ⟨v15, ev15, hf⟩ := bd_ex hf
    refine V.iald (q := 47) ev15 dX13_canBe_46 rfl ?_
    refine V.icmp_ge (q := 50) (tgt := 89) dX13_canBe_47 rfl (by decide) (fun c => ?_) (fun c => ?_)
    · rw [if_pos c] at hf
      refine V.iconst (q := 90) (v := 0) (by decide) dX13_canBe_89 rfl ?_
      obtain ⟨rfl, rfl⟩ := ret_inj hf
      exact V.ret (r := some (.int 0)) (Or.inl rfl) dX13_canBe_90
    · rw [if_neg c] at hf
      refine V.aload_n (q := 51) rfl dX13_canBe_50 rfl rfl ?_
      obtain ⟨b16, eb16, hf⟩ := bd_ex hf
      refine V.getR (q := 54) flX13_36 rfl eb16 dX13_canBe_51 rfl ?_
      refine V.iload (q := 56) dX13_canBe_54 rfl rfl ?_
      obtain ⟨v17, ev17, hf⟩ := bd_ex hf
      refine V.iald (q := 57) ev17 dX13_canBe_56 rfl ?_
      refine V.iconst (q := 58) (v := 2) (by decide) dX13_canBe_57 rfl ?_
      refine V.icmp_ge (q := 61) (tgt := 89) dX13_canBe_58 rfl (by decide) (fun c => ?_) (fun c => ?_)
      · rw [if_pos c] at hf
        refine V.iconst (q := 90) (v := 0) (by decide) dX13_canBe_89 rfl ?_
        obtain ⟨rfl, rfl⟩ := ret_inj hf
        exact V.ret (r := some (.int 0)) (Or.inl rfl) dX13_canBe_90
      · rw [if_neg c] at hf
        refine V.aload_n (q := 62) rfl dX13_canBe_61 rfl rfl ?_
        refine V.iload (q := 64) dX13_canBe_62 rfl rfl ?_
        refine V.aload_n (q := 65) rfl dX13_canBe_64 rfl rfl ?_
        refine V.iload_n (q := 66) rfl dX13_canBe_65 rfl rfl ?_
        refine V.iload_n (q := 67) rfl dX13_canBe_66 rfl rfl ?_
        obtain ⟨_, e18, hf⟩ := bd_ex hf
        obtain ⟨v19, h1, eh1, hf⟩ := bd2_ex hf
        refine V.callV (q := 70) (ci := 13) (vs := [.int v4, .int x1]) (st := [.int v8, .ref a0]) (S2 := [.int v19, .int v8, .ref a0]) okX13_saysNow imX13_saysNow seX13_saysNow rfl lkX13_367 (tX13_saysNow eh1) rfl (ck_is e18) (by decide) rfl (Nat.le_of_ble_eq_true rfl) (Nat.le_of_ble_eq_true rfl) rfl dX13_canBe_67 rfl rfl ?_
        obtain ⟨_, e20, hf⟩ := bd_ex hf
        obtain ⟨v21, h2, eh2, hf⟩ := bd2_ex hf
        refine V.callV (q := 73) (ci := 13) (vs := [.int v8, .int v19]) (st := []) (S2 := [.int v21]) okX13_printsBy imX13_printsBy seX13_printsBy rfl lkX13_352 (tX13_printsBy eh2) rfl (ck_is e20) (by decide) rfl (Nat.le_of_ble_eq_true rfl) (Nat.le_of_ble_eq_true rfl) rfl dX13_canBe_70 rfl rfl ?_
        refine V.aload_n (q := 74) rfl dX13_canBe_73 rfl rfl ?_
        obtain ⟨b22, eb22, hf⟩ := bd_ex hf
        refine V.getR (q := 77) flX13_338 rfl eb22 dX13_canBe_74 rfl ?_
        obtain ⟨b23, eb23, hf⟩ := bd_ex hf
        refine V.getR (q := 80) flX13_315 rfl eb23 dX13_canBe_77 rfl ?_
        refine V.iload_n (q := 81) rfl dX13_canBe_80 rfl rfl ?_
        obtain ⟨v24, ev24, hf⟩ := bd_ex hf
        refine V.iald (q := 82) ev24 dX13_canBe_81 rfl ?_
        refine V.icmp_ne (q := 85) (tgt := 89) dX13_canBe_82 rfl (by decide) (fun c => ?_) (fun c => ?_)
        · rw [if_neg c] at hf
          refine V.iconst (q := 90) (v := 0) (by decide) dX13_canBe_89 rfl ?_
          obtain ⟨rfl, rfl⟩ := ret_inj hf
          exact V.ret (r := some (.int 0)) (Or.inl rfl) dX13_canBe_90
        · rw [if_pos c] at hf
          refine V.iconst (q := 86) (v := 1) (by decide) dX13_canBe_85 rfl ?_
          refine V.goto (q := 90) dX13_canBe_86 (by decide) ?_
          obtain ⟨rfl, rfl⟩ := ret_inj hf
          exact V.ret (r := some (.int 1)) (Or.inr rfl) dX13_canBe_90
def fX13_isRule (h : MH) (a0 : Nat) (x1 : Int32) : Option (Int32 × MH) := bd (gZ h a0 13 3) fun z1 => if z1 = true then (some (0, h)) else (if x1 < 0 then (some (0, h)) else (bd (gR h a0 13 3) fun b2 => bd (gI h b2 12 4) fun v3 => if v3 ≤ x1 then (some (0, h)) else (some (1, h))))
set_option maxRecDepth 20000 in
theorem tX13_isRule {r : Int32} {h' : MH} {h : MH} {a0 : Nat} {x1 : Int32} (hf : fX13_isRule h a0 x1 = some (r, h')) : VM mX13_isRule 0 (some (.int r)) h' h [.ref a0, .int x1] := by
  show V TT mX13_isRule 0 _ h' h 0 [.ref a0, .int x1] []
  unfold fX13_isRule at hf
  refine V.aload_n (q := 1) rfl dX13_isRule_0 rfl rfl ?_
  obtain ⟨z1, ez1, hf⟩ := bd_ex hf
  refine V.getZ (q := 4) (q2 := 7) (tgt := 26) flX13_338 rfl ez1 dX13_isRule_1 rfl dX13_isRule_4 rfl (by decide) (fun c => ?_) (fun c => ?_)
  · rw [if_pos c] at hf
    refine V.iconst (q := 27) (v := 0) (by decide) dX13_isRule_26 rfl ?_
    obtain ⟨rfl, rfl⟩ := ret_inj hf
    exact V.ret (r := some (.int 0)) (Or.inl rfl) dX13_isRule_27
  · rw [if_neg c] at hf
    refine V.iload_n (q := 8) rfl dX13_isRule_7 rfl rfl ?_
    refine V.if_lt (q := 11) (tgt := 26) dX13_isRule_8 rfl (by decide) (fun c => ?_) (fun c => ?_)
    · rw [if_pos c] at hf
      refine V.iconst (q := 27) (v := 0) (by decide) dX13_isRule_26 rfl ?_
      obtain ⟨rfl, rfl⟩ := ret_inj hf
      exact V.ret (r := some (.int 0)) (Or.inl rfl) dX13_isRule_27
    · rw [if_neg c] at hf
      refine V.iload_n (q := 12) rfl dX13_isRule_11 rfl rfl ?_
      refine V.aload_n (q := 13) rfl dX13_isRule_12 rfl rfl ?_
      obtain ⟨b2, eb2, hf⟩ := bd_ex hf
      refine V.getR (q := 16) flX13_338 rfl eb2 dX13_isRule_13 rfl ?_
      obtain ⟨v3, ev3, hf⟩ := bd_ex hf
      refine V.getI (q := 19) flX13_280 rfl ev3 dX13_isRule_16 rfl ?_
      refine V.icmp_ge (q := 22) (tgt := 26) dX13_isRule_19 rfl (by decide) (fun c => ?_) (fun c => ?_)
      · rw [if_pos c] at hf
        refine V.iconst (q := 27) (v := 0) (by decide) dX13_isRule_26 rfl ?_
        obtain ⟨rfl, rfl⟩ := ret_inj hf
        exact V.ret (r := some (.int 0)) (Or.inl rfl) dX13_isRule_27
      · rw [if_neg c] at hf
        refine V.iconst (q := 23) (v := 1) (by decide) dX13_isRule_22 rfl ?_
        refine V.goto (q := 27) dX13_isRule_23 (by decide) ?_
        obtain ⟨rfl, rfl⟩ := ret_inj hf
        exact V.ret (r := some (.int 1)) (Or.inr rfl) dX13_isRule_27
def fX13_isVerdict (h : MH) (x0 : Int32) : Option (Int32 × MH) := if x0 < 0 then (some (0, h)) else (if 3 ≤ x0 then (some (0, h)) else (some (1, h)))
set_option maxRecDepth 20000 in
theorem tX13_isVerdict {r : Int32} {h' : MH} {h : MH} {x0 : Int32} (hf : fX13_isVerdict h x0 = some (r, h')) : VM mX13_isVerdict 0 (some (.int r)) h' h [.int x0] := by
  show V TT mX13_isVerdict 0 _ h' h 0 [.int x0] []
  unfold fX13_isVerdict at hf
  refine V.iload_n (q := 1) rfl dX13_isVerdict_0 rfl rfl ?_
  refine V.if_lt (q := 4) (tgt := 13) dX13_isVerdict_1 rfl (by decide) (fun c => ?_) (fun c => ?_)
  · rw [if_pos c] at hf
    refine V.iconst (q := 14) (v := 0) (by decide) dX13_isVerdict_13 rfl ?_
    obtain ⟨rfl, rfl⟩ := ret_inj hf
    exact V.ret (r := some (.int 0)) (Or.inl rfl) dX13_isVerdict_14
  · rw [if_neg c] at hf
    refine V.iload_n (q := 5) rfl dX13_isVerdict_4 rfl rfl ?_
    refine V.iconst (q := 6) (v := 3) (by decide) dX13_isVerdict_5 rfl ?_
    refine V.icmp_ge (q := 9) (tgt := 13) dX13_isVerdict_6 rfl (by decide) (fun c => ?_) (fun c => ?_)
    · rw [if_pos c] at hf
      refine V.iconst (q := 14) (v := 0) (by decide) dX13_isVerdict_13 rfl ?_
      obtain ⟨rfl, rfl⟩ := ret_inj hf
      exact V.ret (r := some (.int 0)) (Or.inl rfl) dX13_isVerdict_14
    · rw [if_neg c] at hf
      refine V.iconst (q := 10) (v := 1) (by decide) dX13_isVerdict_9 rfl ?_
      refine V.goto (q := 14) dX13_isVerdict_10 (by decide) ?_
      obtain ⟨rfl, rfl⟩ := ret_inj hf
      exact V.ret (r := some (.int 1)) (Or.inr rfl) dX13_isVerdict_14
def bX13_remembers_51 (k51 : MH → Nat → Int32 → Option (MH)) (h : MH) (a0 : Nat) (x1 : Int32) : Option (MH) := if 31 ≤ x1 then (bd (gI h a0 13 18) fun v1 => bd (pI h a0 13 18 (v1 + 1)) fun h1 => some h1) else (bd (gR h a0 13 16) fun b1 => bd (gI h a0 13 18) fun v2 => bd (gR h a0 13 15) fun b3 => bd (lI h b3 x1) fun v4 => bd (tI h b1 ((31 * v2) + x1) v4) fun h1 => bd (some (x1 + 1)) fun v5 => k51 h1 a0 v5)
set_option maxRecDepth 20000 in
theorem tX13_remembers_51 {h' : MH} (k51 : MH → Nat → Int32 → Option (MH)) (hk51 : ∀ (h : MH) (a0 : Nat) (x1 : Int32), k51 h a0 x1 = some h' → V TT mX13_remembers 0 none h' h 51 [.ref a0, .int x1] [])  {h : MH} {a0 : Nat} {x1 : Int32} (hf : bX13_remembers_51 k51 h a0 x1 = some h') : V TT mX13_remembers 0 none h' h 51 [.ref a0, .int x1] [] := by
  unfold bX13_remembers_51 at hf
  refine V.iload_n (q := 52) rfl dX13_remembers_51 rfl rfl ?_
  refine V.bipush (q := 54) (v := 31) (by decide) dX13_remembers_52 rfl ?_
  refine V.icmp_ge (q := 57) (tgt := 83) dX13_remembers_54 rfl (by decide) (fun c => ?_) (fun c => ?_)
  · rw [if_pos c] at hf
    refine V.aload_n (q := 84) rfl dX13_remembers_83 rfl rfl ?_
    refine V.dupR (q := 85) dX13_remembers_84 rfl ?_
    obtain ⟨v1, ev1, hf⟩ := bd_ex hf
    refine V.getI (q := 88) flX13_340 rfl ev1 dX13_remembers_85 rfl ?_
    refine V.iconst (q := 89) (v := 1) (by decide) dX13_remembers_88 rfl ?_
    refine V.iadd (q := 90) dX13_remembers_89 rfl ?_
    obtain ⟨h1, eh1, hf⟩ := bd_ex hf
    refine V.putI (q := 93) (fpX13_340 rfl) rfl eh1 dX13_remembers_90 rfl ?_
    cases hf
    exact V.ret (r := none) trivial dX13_remembers_93
  · rw [if_neg c] at hf
    refine V.aload_n (q := 58) rfl dX13_remembers_57 rfl rfl ?_
    obtain ⟨b1, eb1, hf⟩ := bd_ex hf
    refine V.getR (q := 61) flX13_21 rfl eb1 dX13_remembers_58 rfl ?_
    refine V.bipush (q := 63) (v := 31) (by decide) dX13_remembers_61 rfl ?_
    refine V.aload_n (q := 64) rfl dX13_remembers_63 rfl rfl ?_
    obtain ⟨v2, ev2, hf⟩ := bd_ex hf
    refine V.getI (q := 67) flX13_340 rfl ev2 dX13_remembers_64 rfl ?_
    refine V.imul (q := 68) dX13_remembers_67 rfl ?_
    refine V.iload_n (q := 69) rfl dX13_remembers_68 rfl rfl ?_
    refine V.iadd (q := 70) dX13_remembers_69 rfl ?_
    refine V.aload_n (q := 71) rfl dX13_remembers_70 rfl rfl ?_
    obtain ⟨b3, eb3, hf⟩ := bd_ex hf
    refine V.getR (q := 74) flX13_17 rfl eb3 dX13_remembers_71 rfl ?_
    refine V.iload_n (q := 75) rfl dX13_remembers_74 rfl rfl ?_
    obtain ⟨v4, ev4, hf⟩ := bd_ex hf
    refine V.iald (q := 76) ev4 dX13_remembers_75 rfl ?_
    obtain ⟨h1, eh1, hf⟩ := bd_ex hf
    refine V.iast (q := 77) eh1 dX13_remembers_76 rfl ?_
    obtain ⟨v5, ev5, hf⟩ := bd_ex hf
    refine V.iinc (q := 80) (v := v5) (L' := [.ref a0, .int v5]) dX13_remembers_77 rfl rfl (Option.some.inj ev5) (by decide) rfl rfl ?_
    refine V.goto (q := 51) dX13_remembers_80 (by decide) ?_
    exact hk51 _ _ _ hf
def fX13_remembers_51  : Nat → MH → Nat → Int32 → Option (MH)
  | 0 => fun _ _ _ => none
  | n + 1 => bX13_remembers_51  (fX13_remembers_51  n)
theorem tlX13_remembers_51 {h' : MH}   : ∀ (n : Nat) (h : MH) (a0 : Nat) (x1 : Int32), fX13_remembers_51  n h a0 x1 = some h' → V TT mX13_remembers 0 none h' h 51 [.ref a0, .int x1] [] := by
  intro n
  induction n with
  | zero => intro h a0 x1 hf; exact nomatch (show (none : Option (MH)) = some h' from hf)
  | succ n ih => intro h a0 x1 hf; exact tX13_remembers_51  (fX13_remembers_51  n) ih hf
def bX13_remembers_11 (k11 : MH → Nat → Int32 → Option (MH)) (h : MH) (a0 : Nat) (x1 : Int32) : Option (MH) := if 465 ≤ x1 then (bd (gI h a0 13 18) fun v1 => bd (pI h a0 13 18 (v1 - 1)) fun h1 => fX13_remembers_51 FU h1 a0 0) else (bd (gR h a0 13 16) fun b1 => bd (gR h a0 13 16) fun b2 => bd (lI h b2 (x1 + 31)) fun v3 => bd (tI h b1 x1 v3) fun h1 => bd (some (x1 + 1)) fun v4 => k11 h1 a0 v4)
set_option maxRecDepth 20000 in
theorem tX13_remembers_11 {h' : MH} (k11 : MH → Nat → Int32 → Option (MH)) (hk11 : ∀ (h : MH) (a0 : Nat) (x1 : Int32), k11 h a0 x1 = some h' → V TT mX13_remembers 0 none h' h 11 [.ref a0, .int x1] [])  {h : MH} {a0 : Nat} {x1 : Int32} (hf : bX13_remembers_11 k11 h a0 x1 = some h') : V TT mX13_remembers 0 none h' h 11 [.ref a0, .int x1] [] := by
  unfold bX13_remembers_11 at hf
  refine V.iload_n (q := 12) rfl dX13_remembers_11 rfl rfl ?_
  refine V.sipush (q := 15) (v := 465) (by decide) dX13_remembers_12 rfl ?_
  refine V.icmp_ge (q := 18) (tgt := 39) dX13_remembers_15 rfl (by decide) (fun c => ?_) (fun c => ?_)
  · rw [if_pos c] at hf
    refine V.aload_n (q := 40) rfl dX13_remembers_39 rfl rfl ?_
    refine V.dupR (q := 41) dX13_remembers_40 rfl ?_
    obtain ⟨v1, ev1, hf⟩ := bd_ex hf
    refine V.getI (q := 44) flX13_340 rfl ev1 dX13_remembers_41 rfl ?_
    refine V.iconst (q := 45) (v := 1) (by decide) dX13_remembers_44 rfl ?_
    refine V.isub (q := 46) dX13_remembers_45 rfl ?_
    obtain ⟨h1, eh1, hf⟩ := bd_ex hf
    refine V.putI (q := 49) (fpX13_340 rfl) rfl eh1 dX13_remembers_46 rfl ?_
    refine V.iconst (q := 50) (v := 0) (by decide) dX13_remembers_49 rfl ?_
    refine V.istore_n (q := 51) (L' := [.ref a0, .int 0]) rfl dX13_remembers_50 rfl (by decide) rfl rfl ?_
    exact tlX13_remembers_51  FU _ _ _ hf
  · rw [if_neg c] at hf
    refine V.aload_n (q := 19) rfl dX13_remembers_18 rfl rfl ?_
    obtain ⟨b1, eb1, hf⟩ := bd_ex hf
    refine V.getR (q := 22) flX13_21 rfl eb1 dX13_remembers_19 rfl ?_
    refine V.iload_n (q := 23) rfl dX13_remembers_22 rfl rfl ?_
    refine V.aload_n (q := 24) rfl dX13_remembers_23 rfl rfl ?_
    obtain ⟨b2, eb2, hf⟩ := bd_ex hf
    refine V.getR (q := 27) flX13_21 rfl eb2 dX13_remembers_24 rfl ?_
    refine V.iload_n (q := 28) rfl dX13_remembers_27 rfl rfl ?_
    refine V.bipush (q := 30) (v := 31) (by decide) dX13_remembers_28 rfl ?_
    refine V.iadd (q := 31) dX13_remembers_30 rfl ?_
    obtain ⟨v3, ev3, hf⟩ := bd_ex hf
    refine V.iald (q := 32) ev3 dX13_remembers_31 rfl ?_
    obtain ⟨h1, eh1, hf⟩ := bd_ex hf
    refine V.iast (q := 33) eh1 dX13_remembers_32 rfl ?_
    obtain ⟨v4, ev4, hf⟩ := bd_ex hf
    refine V.iinc (q := 36) (v := v4) (L' := [.ref a0, .int v4]) dX13_remembers_33 rfl rfl (Option.some.inj ev4) (by decide) rfl rfl ?_
    refine V.goto (q := 11) dX13_remembers_36 (by decide) ?_
    exact hk11 _ _ _ hf
def fX13_remembers_11  : Nat → MH → Nat → Int32 → Option (MH)
  | 0 => fun _ _ _ => none
  | n + 1 => bX13_remembers_11  (fX13_remembers_11  n)
theorem tlX13_remembers_11 {h' : MH}   : ∀ (n : Nat) (h : MH) (a0 : Nat) (x1 : Int32), fX13_remembers_11  n h a0 x1 = some h' → V TT mX13_remembers 0 none h' h 11 [.ref a0, .int x1] [] := by
  intro n
  induction n with
  | zero => intro h a0 x1 hf; exact nomatch (show (none : Option (MH)) = some h' from hf)
  | succ n ih => intro h a0 x1 hf; exact tX13_remembers_11  (fX13_remembers_11  n) ih hf
def fX13_remembers (h : MH) (a0 : Nat) : Option (MH) := bd (gI h a0 13 18) fun v1 => if v1 = 16 then (fX13_remembers_11 FU h a0 0) else (fX13_remembers_51 FU h a0 0)
set_option maxRecDepth 20000 in
theorem tX13_remembers {h' : MH} {h : MH} {a0 : Nat} (hf : fX13_remembers h a0 = some h') : VM mX13_remembers 0 none h' h [.ref a0] := by
  show V TT mX13_remembers 0 _ h' h 0 [.ref a0, Jk] []
  unfold fX13_remembers at hf
  refine V.aload_n (q := 1) rfl dX13_remembers_0 rfl rfl ?_
  obtain ⟨v1, ev1, hf⟩ := bd_ex hf
  refine V.getI (q := 4) flX13_340 rfl ev1 dX13_remembers_1 rfl ?_
  refine V.bipush (q := 6) (v := 16) (by decide) dX13_remembers_4 rfl ?_
  refine V.icmp_ne (q := 9) (tgt := 49) dX13_remembers_6 rfl (by decide) (fun c => ?_) (fun c => ?_)
  · rw [if_neg c] at hf
    refine V.iconst (q := 50) (v := 0) (by decide) dX13_remembers_49 rfl ?_
    refine V.istore_n (q := 51) (L' := [.ref a0, .int 0]) rfl dX13_remembers_50 rfl (by decide) rfl rfl ?_
    exact tlX13_remembers_51  FU _ _ _ hf
  · rw [if_pos c] at hf
    refine V.iconst (q := 10) (v := 0) (by decide) dX13_remembers_9 rfl ?_
    refine V.istore_n (q := 11) (L' := [.ref a0, .int 0]) rfl dX13_remembers_10 rfl (by decide) rfl rfl ?_
    exact tlX13_remembers_11  FU _ _ _ hf
def fX13_carve (h : MH) (a0 : Nat) (x1 : Int32) (x2 : Int32) : Option (Int32 × MH) := bd (pI h a0 13 0 0) fun h1 => bd (ck h1 a0 13) fun _ => bd2 (fX13_isRule h1 a0 x1) fun v2 h2 => if v2 = 0 then (bd (ck h2 a0 13) fun _ => bd2 (fX13_denied h2 a0 1) fun v4 h3 => rB v4 h3) else (bd2 (fX13_isVerdict h2 x2) fun v3 h3 => if v3 = 0 then (bd (ck h3 a0 13) fun _ => bd2 (fX13_denied h3 a0 2) fun v5 h4 => rB v5 h4) else (bd (gR h3 a0 13 15) fun b4 => bd (lI h3 b4 (21 + x1)) fun v5 => if v5 = x2 then (bd (ck h3 a0 13) fun _ => bd2 (fX13_denied h3 a0 5) fun v7 h4 => rB v7 h4) else (bd (ck h3 a0 13) fun _ => bd (fX13_remembers h3 a0 ) fun h4 => bd (gR h4 a0 13 15) fun b7 => bd (tI h4 b7 (21 + x1) x2) fun h5 => bd (ck h5 a0 13) fun _ => bd2 (fX13_granted h5 a0 ) fun v9 h6 => rB v9 h6)))
set_option maxRecDepth 20000 in
theorem tX13_carve {r : Int32} {h' : MH} {h : MH} {a0 : Nat} {x1 : Int32} {x2 : Int32} (hf : fX13_carve h a0 x1 x2 = some (r, h')) : VM mX13_carve 2 (some (.int r)) h' h [.ref a0, .int x1, .int x2] := by
  show V TT mX13_carve 2 _ h' h 0 [.ref a0, .int x1, .int x2] []
  unfold fX13_carve at hf
  refine V.aload_n (q := 1) rfl dX13_carve_0 rfl rfl ?_
  refine V.iconst (q := 2) (v := 0) (by decide) dX13_carve_1 rfl ?_
  obtain ⟨h1, eh1, hf⟩ := bd_ex hf
  refine V.putI (q := 5) (fpX13_48 rfl) rfl eh1 dX13_carve_2 rfl ?_
  refine V.aload_n (q := 6) rfl dX13_carve_5 rfl rfl ?_
  refine V.iload_n (q := 7) rfl dX13_carve_6 rfl rfl ?_
  obtain ⟨_, e1, hf⟩ := bd_ex hf
  obtain ⟨v2, h2, eh2, hf⟩ := bd2_ex hf
  refine V.callV (q := 10) (ci := 13) (vs := [.int x1]) (st := []) (S2 := [.int v2]) okX13_isRule imX13_isRule seX13_isRule rfl lkX13_364 (tX13_isRule eh2) rfl (ck_is e1) (by decide) rfl (Nat.le_of_ble_eq_true rfl) (Nat.le_of_ble_eq_true rfl) rfl dX13_carve_7 rfl rfl ?_
  refine V.if_ne (q := 13) (tgt := 19) dX13_carve_10 rfl (by decide) (fun c => ?_) (fun c => ?_)
  · rw [if_neg c] at hf
    refine V.iload_n (q := 20) rfl dX13_carve_19 rfl rfl ?_
    obtain ⟨v3, h3, eh3, hf⟩ := bd2_ex hf
    refine V.callS (q := 23) (vs := [.int x2]) (st := []) (S2 := [.int v3]) okX13_isVerdict stX13_isVerdict lkX13_373 (tX13_isVerdict eh3) rfl (by decide) rfl (Nat.le_of_ble_eq_true rfl) (Nat.le_of_ble_eq_true rfl) rfl dX13_carve_20 rfl rfl ?_
    refine V.if_ne (q := 26) (tgt := 32) dX13_carve_23 rfl (by decide) (fun c => ?_) (fun c => ?_)
    · rw [if_neg c] at hf
      refine V.aload_n (q := 33) rfl dX13_carve_32 rfl rfl ?_
      obtain ⟨b4, eb4, hf⟩ := bd_ex hf
      refine V.getR (q := 36) flX13_17 rfl eb4 dX13_carve_33 rfl ?_
      refine V.bipush (q := 38) (v := 21) (by decide) dX13_carve_36 rfl ?_
      refine V.iload_n (q := 39) rfl dX13_carve_38 rfl rfl ?_
      refine V.iadd (q := 40) dX13_carve_39 rfl ?_
      obtain ⟨v5, ev5, hf⟩ := bd_ex hf
      refine V.iald (q := 41) ev5 dX13_carve_40 rfl ?_
      refine V.iload_n (q := 42) rfl dX13_carve_41 rfl rfl ?_
      refine V.icmp_ne (q := 45) (tgt := 51) dX13_carve_42 rfl (by decide) (fun c => ?_) (fun c => ?_)
      · rw [if_neg c] at hf
        refine V.aload_n (q := 52) rfl dX13_carve_51 rfl rfl ?_
        obtain ⟨_, e6, hf⟩ := bd_ex hf
        obtain ⟨h4, eh4, hf⟩ := bd_ex hf
        refine V.callV (q := 55) (ci := 13) (vs := []) (st := []) (S2 := []) okX13_remembers imX13_remembers seX13_remembers rfl lkX13_484 (tX13_remembers eh4) rfl (ck_is e6) (by decide) rfl (Nat.le_of_ble_eq_true rfl) (Nat.le_of_ble_eq_true rfl) rfl dX13_carve_52 rfl rfl ?_
        refine V.aload_n (q := 56) rfl dX13_carve_55 rfl rfl ?_
        obtain ⟨b7, eb7, hf⟩ := bd_ex hf
        refine V.getR (q := 59) flX13_17 rfl eb7 dX13_carve_56 rfl ?_
        refine V.bipush (q := 61) (v := 21) (by decide) dX13_carve_59 rfl ?_
        refine V.iload_n (q := 62) rfl dX13_carve_61 rfl rfl ?_
        refine V.iadd (q := 63) dX13_carve_62 rfl ?_
        refine V.iload_n (q := 64) rfl dX13_carve_63 rfl rfl ?_
        obtain ⟨h5, eh5, hf⟩ := bd_ex hf
        refine V.iast (q := 65) eh5 dX13_carve_64 rfl ?_
        refine V.aload_n (q := 66) rfl dX13_carve_65 rfl rfl ?_
        obtain ⟨_, e8, hf⟩ := bd_ex hf
        obtain ⟨v9, h6, eh6, hf⟩ := bd2_ex hf
        refine V.callV (q := 69) (ci := 13) (vs := []) (st := []) (S2 := [.int v9]) okX13_granted imX13_granted seX13_granted rfl lkX13_490 (tX13_granted eh6) rfl (ck_is e8) (by decide) rfl (Nat.le_of_ble_eq_true rfl) (Nat.le_of_ble_eq_true rfl) rfl dX13_carve_66 rfl rfl ?_
        obtain ⟨hb, rfl, rfl⟩ := rB_inj hf
        exact V.ret (r := some (.int v9)) hb dX13_carve_69
      · rw [if_pos c] at hf
        refine V.aload_n (q := 46) rfl dX13_carve_45 rfl rfl ?_
        refine V.iconst (q := 47) (v := 5) (by decide) dX13_carve_46 rfl ?_
        obtain ⟨_, e6, hf⟩ := bd_ex hf
        obtain ⟨v7, h4, eh4, hf⟩ := bd2_ex hf
        refine V.callV (q := 50) (ci := 13) (vs := [.int 5]) (st := []) (S2 := [.int v7]) okX13_denied imX13_denied seX13_denied rfl lkX13_487 (tX13_denied eh4) rfl (ck_is e6) (by decide) rfl (Nat.le_of_ble_eq_true rfl) (Nat.le_of_ble_eq_true rfl) rfl dX13_carve_47 rfl rfl ?_
        obtain ⟨hb, rfl, rfl⟩ := rB_inj hf
        exact V.ret (r := some (.int v7)) hb dX13_carve_50
    · rw [if_pos c] at hf
      refine V.aload_n (q := 27) rfl dX13_carve_26 rfl rfl ?_
      refine V.iconst (q := 28) (v := 2) (by decide) dX13_carve_27 rfl ?_
      obtain ⟨_, e4, hf⟩ := bd_ex hf
      obtain ⟨v5, h4, eh4, hf⟩ := bd2_ex hf
      refine V.callV (q := 31) (ci := 13) (vs := [.int 2]) (st := []) (S2 := [.int v5]) okX13_denied imX13_denied seX13_denied rfl lkX13_487 (tX13_denied eh4) rfl (ck_is e4) (by decide) rfl (Nat.le_of_ble_eq_true rfl) (Nat.le_of_ble_eq_true rfl) rfl dX13_carve_28 rfl rfl ?_
      obtain ⟨hb, rfl, rfl⟩ := rB_inj hf
      exact V.ret (r := some (.int v5)) hb dX13_carve_31
  · rw [if_pos c] at hf
    refine V.aload_n (q := 14) rfl dX13_carve_13 rfl rfl ?_
    refine V.iconst (q := 15) (v := 1) (by decide) dX13_carve_14 rfl ?_
    obtain ⟨_, e3, hf⟩ := bd_ex hf
    obtain ⟨v4, h3, eh3, hf⟩ := bd2_ex hf
    refine V.callV (q := 18) (ci := 13) (vs := [.int 1]) (st := []) (S2 := [.int v4]) okX13_denied imX13_denied seX13_denied rfl lkX13_487 (tX13_denied eh3) rfl (ck_is e3) (by decide) rfl (Nat.le_of_ble_eq_true rfl) (Nat.le_of_ble_eq_true rfl) rfl dX13_carve_15 rfl rfl ?_
    obtain ⟨hb, rfl, rfl⟩ := rB_inj hf
    exact V.ret (r := some (.int v4)) hb dX13_carve_18
def bX13_givesMost_4 (k4 : MH → Nat → Int32 → Int32 → Int32 → Option (Int32 × MH)) (h : MH) (a0 : Nat) (x1 : Int32) (x2 : Int32) (x3 : Int32) : Option (Int32 × MH) := bd (gR h a0 13 3) fun b1 => bd (gI h b1 12 2) fun v2 => if v2 ≤ x3 then (some (x2, h)) else (bd (ck h a0 13) fun _ => bd2 (fX13_hasBy h a0 x1 x3) fun v4 h1 => if v4 ≤ x2 then (bd (some (x3 + 1)) fun v5 => k4 h1 a0 x1 x2 v5) else (bd (ck h1 a0 13) fun _ => bd2 (fX13_hasBy h1 a0 x1 x3) fun v6 h2 => bd (some (x3 + 1)) fun v7 => k4 h2 a0 x1 v6 v7))
set_option maxRecDepth 20000 in
theorem tX13_givesMost_4 {r : Int32} {h' : MH} (k4 : MH → Nat → Int32 → Int32 → Int32 → Option (Int32 × MH)) (hk4 : ∀ (h : MH) (a0 : Nat) (x1 : Int32) (x2 : Int32) (x3 : Int32), k4 h a0 x1 x2 x3 = some (r, h') → V TT mX13_givesMost 5 (some (.int r)) h' h 4 [.ref a0, .int x1, .int x2, .int x3] [])  {h : MH} {a0 : Nat} {x1 : Int32} {x2 : Int32} {x3 : Int32} (hf : bX13_givesMost_4 k4 h a0 x1 x2 x3 = some (r, h')) : V TT mX13_givesMost 5 (some (.int r)) h' h 4 [.ref a0, .int x1, .int x2, .int x3] [] := by
  unfold bX13_givesMost_4 at hf
  refine V.iload_n (q := 5) rfl dX13_givesMost_4 rfl rfl ?_
  refine V.aload_n (q := 6) rfl dX13_givesMost_5 rfl rfl ?_
  obtain ⟨b1, eb1, hf⟩ := bd_ex hf
  refine V.getR (q := 9) flX13_338 rfl eb1 dX13_givesMost_6 rfl ?_
  obtain ⟨v2, ev2, hf⟩ := bd_ex hf
  refine V.getI (q := 12) flX13_206 rfl ev2 dX13_givesMost_9 rfl ?_
  refine V.icmp_ge (q := 15) (tgt := 38) dX13_givesMost_12 rfl (by decide) (fun c => ?_) (fun c => ?_)
  · rw [if_pos c] at hf
    refine V.iload_n (q := 39) rfl dX13_givesMost_38 rfl rfl ?_
    obtain ⟨rfl, rfl⟩ := ret_inj hf
    exact V.ret (r := some (.int x2)) trivial dX13_givesMost_39
  · rw [if_neg c] at hf
    refine V.aload_n (q := 16) rfl dX13_givesMost_15 rfl rfl ?_
    refine V.iload_n (q := 17) rfl dX13_givesMost_16 rfl rfl ?_
    refine V.iload_n (q := 18) rfl dX13_givesMost_17 rfl rfl ?_
    obtain ⟨_, e3, hf⟩ := bd_ex hf
    obtain ⟨v4, h1, eh1, hf⟩ := bd2_ex hf
    refine V.callV (q := 21) (ci := 13) (vs := [.int x1, .int x3]) (st := []) (S2 := [.int v4]) okX13_hasBy imX13_hasBy seX13_hasBy rfl lkX13_447 (tX13_hasBy eh1) rfl (ck_is e3) (by decide) rfl (Nat.le_of_ble_eq_true rfl) (Nat.le_of_ble_eq_true rfl) rfl dX13_givesMost_18 rfl rfl ?_
    refine V.iload_n (q := 22) rfl dX13_givesMost_21 rfl rfl ?_
    refine V.icmp_le (q := 25) (tgt := 32) dX13_givesMost_22 rfl (by decide) (fun c => ?_) (fun c => ?_)
    · rw [if_pos c] at hf
      obtain ⟨v5, ev5, hf⟩ := bd_ex hf
      refine V.iinc (q := 35) (v := v5) (L' := [.ref a0, .int x1, .int x2, .int v5]) dX13_givesMost_32 rfl rfl (Option.some.inj ev5) (by decide) rfl rfl ?_
      refine V.goto (q := 4) dX13_givesMost_35 (by decide) ?_
      exact hk4 _ _ _ _ _ hf
    · rw [if_neg c] at hf
      refine V.aload_n (q := 26) rfl dX13_givesMost_25 rfl rfl ?_
      refine V.iload_n (q := 27) rfl dX13_givesMost_26 rfl rfl ?_
      refine V.iload_n (q := 28) rfl dX13_givesMost_27 rfl rfl ?_
      obtain ⟨_, e5, hf⟩ := bd_ex hf
      obtain ⟨v6, h2, eh2, hf⟩ := bd2_ex hf
      refine V.callV (q := 31) (ci := 13) (vs := [.int x1, .int x3]) (st := []) (S2 := [.int v6]) okX13_hasBy imX13_hasBy seX13_hasBy rfl lkX13_447 (tX13_hasBy eh2) rfl (ck_is e5) (by decide) rfl (Nat.le_of_ble_eq_true rfl) (Nat.le_of_ble_eq_true rfl) rfl dX13_givesMost_28 rfl rfl ?_
      refine V.istore_n (q := 32) (L' := [.ref a0, .int x1, .int v6, .int x3]) rfl dX13_givesMost_31 rfl (by decide) rfl rfl ?_
      obtain ⟨v7, ev7, hf⟩ := bd_ex hf
      refine V.iinc (q := 35) (v := v7) (L' := [.ref a0, .int x1, .int v6, .int v7]) dX13_givesMost_32 rfl rfl (Option.some.inj ev7) (by decide) rfl rfl ?_
      refine V.goto (q := 4) dX13_givesMost_35 (by decide) ?_
      exact hk4 _ _ _ _ _ hf
def fX13_givesMost_4  : Nat → MH → Nat → Int32 → Int32 → Int32 → Option (Int32 × MH)
  | 0 => fun _ _ _ _ _ => none
  | n + 1 => bX13_givesMost_4  (fX13_givesMost_4  n)
theorem tlX13_givesMost_4 {r : Int32} {h' : MH}   : ∀ (n : Nat) (h : MH) (a0 : Nat) (x1 : Int32) (x2 : Int32) (x3 : Int32), fX13_givesMost_4  n h a0 x1 x2 x3 = some (r, h') → V TT mX13_givesMost 5 (some (.int r)) h' h 4 [.ref a0, .int x1, .int x2, .int x3] [] := by
  intro n
  induction n with
  | zero => intro h a0 x1 x2 x3 hf; exact nomatch (show (none : Option (Int32 × MH)) = some (r, h') from hf)
  | succ n ih => intro h a0 x1 x2 x3 hf; exact tX13_givesMost_4  (fX13_givesMost_4  n) ih hf
def fX13_givesMost (h : MH) (a0 : Nat) (x1 : Int32) : Option (Int32 × MH) := fX13_givesMost_4 FU h a0 x1 0 0
set_option maxRecDepth 20000 in
theorem tX13_givesMost {r : Int32} {h' : MH} {h : MH} {a0 : Nat} {x1 : Int32} (hf : fX13_givesMost h a0 x1 = some (r, h')) : VM mX13_givesMost 5 (some (.int r)) h' h [.ref a0, .int x1] := by
  show V TT mX13_givesMost 5 _ h' h 0 [.ref a0, .int x1, Jk, Jk] []
  unfold fX13_givesMost at hf
  refine V.iconst (q := 1) (v := 0) (by decide) dX13_givesMost_0 rfl ?_
  refine V.istore_n (q := 2) (L' := [.ref a0, .int x1, .int 0, Jk]) rfl dX13_givesMost_1 rfl (by decide) rfl rfl ?_
  refine V.iconst (q := 3) (v := 0) (by decide) dX13_givesMost_2 rfl ?_
  refine V.istore_n (q := 4) (L' := [.ref a0, .int x1, .int 0, .int 0]) rfl dX13_givesMost_3 rfl (by decide) rfl rfl ?_
  exact tlX13_givesMost_4  FU _ _ _ _ _ hf
def bX13_pick_4 (k4 : MH → Nat → Int32 → Int32 → Option (Int32 × MH)) (h : MH) (a0 : Nat) (x1 : Int32) (x2 : Int32) : Option (Int32 × MH) := bd (gR h a0 13 3) fun b1 => bd (gI h b1 12 3) fun v2 => if v2 ≤ x2 then (some (x1, h)) else (bd (ck h a0 13) fun _ => bd2 (fX13_givesMost h a0 x2) fun v4 h1 => bd (ck h1 a0 13) fun _ => bd2 (fX13_givesMost h1 a0 x1) fun v6 h2 => if v6 ≤ v4 then (bd (some (x2 + 1)) fun v7 => k4 h2 a0 x1 v7) else (bd (some (x2 + 1)) fun v7 => k4 h2 a0 x2 v7))
set_option maxRecDepth 20000 in
theorem tX13_pick_4 {r : Int32} {h' : MH} (k4 : MH → Nat → Int32 → Int32 → Option (Int32 × MH)) (hk4 : ∀ (h : MH) (a0 : Nat) (x1 : Int32) (x2 : Int32), k4 h a0 x1 x2 = some (r, h') → V TT mX13_pick 6 (some (.int r)) h' h 4 [.ref a0, .int x1, .int x2] [])  {h : MH} {a0 : Nat} {x1 : Int32} {x2 : Int32} (hf : bX13_pick_4 k4 h a0 x1 x2 = some (r, h')) : V TT mX13_pick 6 (some (.int r)) h' h 4 [.ref a0, .int x1, .int x2] [] := by
  unfold bX13_pick_4 at hf
  refine V.iload_n (q := 5) rfl dX13_pick_4 rfl rfl ?_
  refine V.aload_n (q := 6) rfl dX13_pick_5 rfl rfl ?_
  obtain ⟨b1, eb1, hf⟩ := bd_ex hf
  refine V.getR (q := 9) flX13_338 rfl eb1 dX13_pick_6 rfl ?_
  obtain ⟨v2, ev2, hf⟩ := bd_ex hf
  refine V.getI (q := 12) flX13_262 rfl ev2 dX13_pick_9 rfl ?_
  refine V.icmp_ge (q := 15) (tgt := 36) dX13_pick_12 rfl (by decide) (fun c => ?_) (fun c => ?_)
  · rw [if_pos c] at hf
    refine V.iload_n (q := 37) rfl dX13_pick_36 rfl rfl ?_
    obtain ⟨rfl, rfl⟩ := ret_inj hf
    exact V.ret (r := some (.int x1)) trivial dX13_pick_37
  · rw [if_neg c] at hf
    refine V.aload_n (q := 16) rfl dX13_pick_15 rfl rfl ?_
    refine V.iload_n (q := 17) rfl dX13_pick_16 rfl rfl ?_
    obtain ⟨_, e3, hf⟩ := bd_ex hf
    obtain ⟨v4, h1, eh1, hf⟩ := bd2_ex hf
    refine V.callV (q := 20) (ci := 13) (vs := [.int x2]) (st := []) (S2 := [.int v4]) okX13_givesMost imX13_givesMost seX13_givesMost rfl lkX13_450 (tX13_givesMost eh1) rfl (ck_is e3) (by decide) rfl (Nat.le_of_ble_eq_true rfl) (Nat.le_of_ble_eq_true rfl) rfl dX13_pick_17 rfl rfl ?_
    refine V.aload_n (q := 21) rfl dX13_pick_20 rfl rfl ?_
    refine V.iload_n (q := 22) rfl dX13_pick_21 rfl rfl ?_
    obtain ⟨_, e5, hf⟩ := bd_ex hf
    obtain ⟨v6, h2, eh2, hf⟩ := bd2_ex hf
    refine V.callV (q := 25) (ci := 13) (vs := [.int x1]) (st := [.int v4]) (S2 := [.int v6, .int v4]) okX13_givesMost imX13_givesMost seX13_givesMost rfl lkX13_450 (tX13_givesMost eh2) rfl (ck_is e5) (by decide) rfl (Nat.le_of_ble_eq_true rfl) (Nat.le_of_ble_eq_true rfl) rfl dX13_pick_22 rfl rfl ?_
    refine V.icmp_ge (q := 28) (tgt := 30) dX13_pick_25 rfl (by decide) (fun c => ?_) (fun c => ?_)
    · rw [if_pos c] at hf
      obtain ⟨v7, ev7, hf⟩ := bd_ex hf
      refine V.iinc (q := 33) (v := v7) (L' := [.ref a0, .int x1, .int v7]) dX13_pick_30 rfl rfl (Option.some.inj ev7) (by decide) rfl rfl ?_
      refine V.goto (q := 4) dX13_pick_33 (by decide) ?_
      exact hk4 _ _ _ _ hf
    · rw [if_neg c] at hf
      refine V.iload_n (q := 29) rfl dX13_pick_28 rfl rfl ?_
      refine V.istore_n (q := 30) (L' := [.ref a0, .int x2, .int x2]) rfl dX13_pick_29 rfl (by decide) rfl rfl ?_
      obtain ⟨v7, ev7, hf⟩ := bd_ex hf
      refine V.iinc (q := 33) (v := v7) (L' := [.ref a0, .int x2, .int v7]) dX13_pick_30 rfl rfl (Option.some.inj ev7) (by decide) rfl rfl ?_
      refine V.goto (q := 4) dX13_pick_33 (by decide) ?_
      exact hk4 _ _ _ _ hf
def fX13_pick_4  : Nat → MH → Nat → Int32 → Int32 → Option (Int32 × MH)
  | 0 => fun _ _ _ _ => none
  | n + 1 => bX13_pick_4  (fX13_pick_4  n)
theorem tlX13_pick_4 {r : Int32} {h' : MH}   : ∀ (n : Nat) (h : MH) (a0 : Nat) (x1 : Int32) (x2 : Int32), fX13_pick_4  n h a0 x1 x2 = some (r, h') → V TT mX13_pick 6 (some (.int r)) h' h 4 [.ref a0, .int x1, .int x2] [] := by
  intro n
  induction n with
  | zero => intro h a0 x1 x2 hf; exact nomatch (show (none : Option (Int32 × MH)) = some (r, h') from hf)
  | succ n ih => intro h a0 x1 x2 hf; exact tX13_pick_4  (fX13_pick_4  n) ih hf
def fX13_pick (h : MH) (a0 : Nat) : Option (Int32 × MH) := fX13_pick_4 FU h a0 0 1
set_option maxRecDepth 20000 in
theorem tX13_pick {r : Int32} {h' : MH} {h : MH} {a0 : Nat} (hf : fX13_pick h a0 = some (r, h')) : VM mX13_pick 6 (some (.int r)) h' h [.ref a0] := by
  show V TT mX13_pick 6 _ h' h 0 [.ref a0, Jk, Jk] []
  unfold fX13_pick at hf
  refine V.iconst (q := 1) (v := 0) (by decide) dX13_pick_0 rfl ?_
  refine V.istore_n (q := 2) (L' := [.ref a0, .int 0, Jk]) rfl dX13_pick_1 rfl (by decide) rfl rfl ?_
  refine V.iconst (q := 3) (v := 1) (by decide) dX13_pick_2 rfl ?_
  refine V.istore_n (q := 4) (L' := [.ref a0, .int 0, .int 1]) rfl dX13_pick_3 rfl (by decide) rfl rfl ?_
  exact tlX13_pick_4  FU _ _ _ _ hf
def fX13_clerkPicks (h : MH) (a0 : Nat) : Option (Int32 × MH) := bd (pI h a0 13 0 0) fun h1 => bd (ck h1 a0 13) fun _ => bd2 (fX13_refusesGame h1 a0 ) fun v2 h2 => if v2 ≤ 0 then (bd (ck h2 a0 13) fun _ => bd2 (fX13_pick h2 a0 ) fun v4 h3 => bd (ck h3 a0 13) fun _ => bd2 (fX13_good1 h3 a0 v4) fun v6 h4 => some (v6, h4)) else (bd (ck h2 a0 13) fun _ => bd2 (fX13_refused h2 a0 v2) fun v4 h3 => some (v4, h3))
set_option maxRecDepth 20000 in
theorem tX13_clerkPicks {r : Int32} {h' : MH} {h : MH} {a0 : Nat} (hf : fX13_clerkPicks h a0 = some (r, h')) : VM mX13_clerkPicks 7 (some (.int r)) h' h [.ref a0] := by
  show V TT mX13_clerkPicks 7 _ h' h 0 [.ref a0, Jk] []
  unfold fX13_clerkPicks at hf
  refine V.aload_n (q := 1) rfl dX13_clerkPicks_0 rfl rfl ?_
  refine V.iconst (q := 2) (v := 0) (by decide) dX13_clerkPicks_1 rfl ?_
  obtain ⟨h1, eh1, hf⟩ := bd_ex hf
  refine V.putI (q := 5) (fpX13_48 rfl) rfl eh1 dX13_clerkPicks_2 rfl ?_
  refine V.aload_n (q := 6) rfl dX13_clerkPicks_5 rfl rfl ?_
  obtain ⟨_, e1, hf⟩ := bd_ex hf
  obtain ⟨v2, h2, eh2, hf⟩ := bd2_ex hf
  refine V.callV (q := 9) (ci := 13) (vs := []) (st := []) (S2 := [.int v2]) okX13_refusesGame imX13_refusesGame seX13_refusesGame rfl lkX13_453 (tX13_refusesGame eh2) rfl (ck_is e1) (by decide) rfl (Nat.le_of_ble_eq_true rfl) (Nat.le_of_ble_eq_true rfl) rfl dX13_clerkPicks_6 rfl rfl ?_
  refine V.istore_n (q := 10) (L' := [.ref a0, .int v2]) rfl dX13_clerkPicks_9 rfl (by decide) rfl rfl ?_
  refine V.iload_n (q := 11) rfl dX13_clerkPicks_10 rfl rfl ?_
  refine V.if_le (q := 14) (tgt := 22) dX13_clerkPicks_11 rfl (by decide) (fun c => ?_) (fun c => ?_)
  · rw [if_pos c] at hf
    refine V.aload_n (q := 23) rfl dX13_clerkPicks_22 rfl rfl ?_
    refine V.aload_n (q := 24) rfl dX13_clerkPicks_23 rfl rfl ?_
    obtain ⟨_, e3, hf⟩ := bd_ex hf
    obtain ⟨v4, h3, eh3, hf⟩ := bd2_ex hf
    refine V.callV (q := 27) (ci := 13) (vs := []) (st := [.ref a0]) (S2 := [.int v4, .ref a0]) okX13_pick imX13_pick seX13_pick rfl lkX13_456 (tX13_pick eh3) rfl (ck_is e3) (by decide) rfl (Nat.le_of_ble_eq_true rfl) (Nat.le_of_ble_eq_true rfl) rfl dX13_clerkPicks_24 rfl rfl ?_
    obtain ⟨_, e5, hf⟩ := bd_ex hf
    obtain ⟨v6, h4, eh4, hf⟩ := bd2_ex hf
    refine V.callV (q := 30) (ci := 13) (vs := [.int v4]) (st := []) (S2 := [.int v6]) okX13_good1 imX13_good1 seX13_good1 rfl lkX13_58 (tX13_good1 eh4) rfl (ck_is e5) (by decide) rfl (Nat.le_of_ble_eq_true rfl) (Nat.le_of_ble_eq_true rfl) rfl dX13_clerkPicks_27 rfl rfl ?_
    obtain ⟨rfl, rfl⟩ := ret_inj hf
    exact V.ret (r := some (.int v6)) trivial dX13_clerkPicks_30
  · rw [if_neg c] at hf
    refine V.aload_n (q := 15) rfl dX13_clerkPicks_14 rfl rfl ?_
    refine V.iload_n (q := 16) rfl dX13_clerkPicks_15 rfl rfl ?_
    obtain ⟨_, e3, hf⟩ := bd_ex hf
    obtain ⟨v4, h3, eh3, hf⟩ := bd2_ex hf
    refine V.callV (q := 19) (ci := 13) (vs := [.int v2]) (st := []) (S2 := [.int v4]) okX13_refused imX13_refused seX13_refused rfl lkX13_54 (tX13_refused eh3) rfl (ck_is e3) (by decide) rfl (Nat.le_of_ble_eq_true rfl) (Nat.le_of_ble_eq_true rfl) rfl dX13_clerkPicks_16 rfl rfl ?_
    refine V.goto (q := 30) dX13_clerkPicks_19 (by decide) ?_
    obtain ⟨rfl, rfl⟩ := ret_inj hf
    exact V.ret (r := some (.int v4)) trivial dX13_clerkPicks_30
def fX13_clerks (h : MH) (a0 : Nat) : Option (Int32 × MH) := bd (pI h a0 13 0 0) fun h1 => bd (ck h1 a0 13) fun _ => bd2 (fX13_refusesGame h1 a0 ) fun v2 h2 => if v2 ≤ 0 then (bd (ck h2 a0 13) fun _ => bd2 (fX13_pick h2 a0 ) fun v4 h3 => bd (ck h3 a0 13) fun _ => bd2 (fX13_givesMost h3 a0 v4) fun v6 h4 => bd (ck h4 a0 13) fun _ => bd2 (fX13_good1 h4 a0 v6) fun v8 h5 => some (v8, h5)) else (bd (ck h2 a0 13) fun _ => bd2 (fX13_refused h2 a0 v2) fun v4 h3 => some (v4, h3))
set_option maxRecDepth 20000 in
theorem tX13_clerks {r : Int32} {h' : MH} {h : MH} {a0 : Nat} (hf : fX13_clerks h a0 = some (r, h')) : VM mX13_clerks 7 (some (.int r)) h' h [.ref a0] := by
  show V TT mX13_clerks 7 _ h' h 0 [.ref a0, Jk] []
  unfold fX13_clerks at hf
  refine V.aload_n (q := 1) rfl dX13_clerks_0 rfl rfl ?_
  refine V.iconst (q := 2) (v := 0) (by decide) dX13_clerks_1 rfl ?_
  obtain ⟨h1, eh1, hf⟩ := bd_ex hf
  refine V.putI (q := 5) (fpX13_48 rfl) rfl eh1 dX13_clerks_2 rfl ?_
  refine V.aload_n (q := 6) rfl dX13_clerks_5 rfl rfl ?_
  obtain ⟨_, e1, hf⟩ := bd_ex hf
  obtain ⟨v2, h2, eh2, hf⟩ := bd2_ex hf
  refine V.callV (q := 9) (ci := 13) (vs := []) (st := []) (S2 := [.int v2]) okX13_refusesGame imX13_refusesGame seX13_refusesGame rfl lkX13_453 (tX13_refusesGame eh2) rfl (ck_is e1) (by decide) rfl (Nat.le_of_ble_eq_true rfl) (Nat.le_of_ble_eq_true rfl) rfl dX13_clerks_6 rfl rfl ?_
  refine V.istore_n (q := 10) (L' := [.ref a0, .int v2]) rfl dX13_clerks_9 rfl (by decide) rfl rfl ?_
  refine V.iload_n (q := 11) rfl dX13_clerks_10 rfl rfl ?_
  refine V.if_le (q := 14) (tgt := 22) dX13_clerks_11 rfl (by decide) (fun c => ?_) (fun c => ?_)
  · rw [if_pos c] at hf
    refine V.aload_n (q := 23) rfl dX13_clerks_22 rfl rfl ?_
    refine V.aload_n (q := 24) rfl dX13_clerks_23 rfl rfl ?_
    refine V.aload_n (q := 25) rfl dX13_clerks_24 rfl rfl ?_
    obtain ⟨_, e3, hf⟩ := bd_ex hf
    obtain ⟨v4, h3, eh3, hf⟩ := bd2_ex hf
    refine V.callV (q := 28) (ci := 13) (vs := []) (st := [.ref a0, .ref a0]) (S2 := [.int v4, .ref a0, .ref a0]) okX13_pick imX13_pick seX13_pick rfl lkX13_456 (tX13_pick eh3) rfl (ck_is e3) (by decide) rfl (Nat.le_of_ble_eq_true rfl) (Nat.le_of_ble_eq_true rfl) rfl dX13_clerks_25 rfl rfl ?_
    obtain ⟨_, e5, hf⟩ := bd_ex hf
    obtain ⟨v6, h4, eh4, hf⟩ := bd2_ex hf
    refine V.callV (q := 31) (ci := 13) (vs := [.int v4]) (st := [.ref a0]) (S2 := [.int v6, .ref a0]) okX13_givesMost imX13_givesMost seX13_givesMost rfl lkX13_450 (tX13_givesMost eh4) rfl (ck_is e5) (by decide) rfl (Nat.le_of_ble_eq_true rfl) (Nat.le_of_ble_eq_true rfl) rfl dX13_clerks_28 rfl rfl ?_
    obtain ⟨_, e7, hf⟩ := bd_ex hf
    obtain ⟨v8, h5, eh5, hf⟩ := bd2_ex hf
    refine V.callV (q := 34) (ci := 13) (vs := [.int v6]) (st := []) (S2 := [.int v8]) okX13_good1 imX13_good1 seX13_good1 rfl lkX13_58 (tX13_good1 eh5) rfl (ck_is e7) (by decide) rfl (Nat.le_of_ble_eq_true rfl) (Nat.le_of_ble_eq_true rfl) rfl dX13_clerks_31 rfl rfl ?_
    obtain ⟨rfl, rfl⟩ := ret_inj hf
    exact V.ret (r := some (.int v8)) trivial dX13_clerks_34
  · rw [if_neg c] at hf
    refine V.aload_n (q := 15) rfl dX13_clerks_14 rfl rfl ?_
    refine V.iload_n (q := 16) rfl dX13_clerks_15 rfl rfl ?_
    obtain ⟨_, e3, hf⟩ := bd_ex hf
    obtain ⟨v4, h3, eh3, hf⟩ := bd2_ex hf
    refine V.callV (q := 19) (ci := 13) (vs := [.int v2]) (st := []) (S2 := [.int v4]) okX13_refused imX13_refused seX13_refused rfl lkX13_54 (tX13_refused eh3) rfl (ck_is e3) (by decide) rfl (Nat.le_of_ble_eq_true rfl) (Nat.le_of_ble_eq_true rfl) rfl dX13_clerks_16 rfl rfl ?_
    refine V.goto (q := 34) dX13_clerks_19 (by decide) ?_
    obtain ⟨rfl, rfl⟩ := ret_inj hf
    exact V.ret (r := some (.int v4)) trivial dX13_clerks_34
def bX13_common_6 (k6 : MH → Int64 → Int64 → Option (Int64 × MH)) (h : MH) (y4 : Int64) (y6 : Int64) : Option (Int64 × MH) := if (lg_cmp y6 0) = 0 then (some (y4, h)) else (bd (nzJ y6) fun _ => bd (some (y4 - y4 / y6 * y6)) fun w2 => k6 h y6 w2)
set_option maxRecDepth 20000 in
theorem tX13_common_6 {r : Int64} {h' : MH} (k6 : MH → Int64 → Int64 → Option (Int64 × MH)) (hk6 : ∀ (h : MH) (y4 : Int64) (y6 : Int64), k6 h y4 y6 = some (r, h') → V TT mX13_common 0 (some (.long r)) h' h 6 [Jk, Jk, Jk, Jk, .long y4, Jk, .long y6, Jk, Jk, Jk] [])  {h : MH} {y4 : Int64} {y6 : Int64} (hf : bX13_common_6 k6 h y4 y6 = some (r, h')) : V TT mX13_common 0 (some (.long r)) h' h 6 [Jk, Jk, Jk, Jk, .long y4, Jk, .long y6, Jk, Jk, Jk] [] := by
  unfold bX13_common_6 at hf
  refine V.lload (q := 8) dX13_common_6 rfl rfl ?_
  refine V.lconst (q := 9) (v := 0) (by decide) dX13_common_8 rfl ?_
  refine V.lcmp (q := 10) dX13_common_9 rfl ?_
  refine V.if_eq (q := 13) (tgt := 31) dX13_common_10 rfl (by decide) (fun c => ?_) (fun c => ?_)
  · rw [if_pos c] at hf
    refine V.lload (q := 33) dX13_common_31 rfl rfl ?_
    obtain ⟨rfl, rfl⟩ := ret_inj hf
    exact V.ret (r := some (.long y4)) trivial dX13_common_33
  · rw [if_neg c] at hf
    refine V.lload (q := 15) dX13_common_13 rfl rfl ?_
    refine V.lload (q := 17) dX13_common_15 rfl rfl ?_
    obtain ⟨_, e1, hf⟩ := bd_ex hf
    refine V.lrem (q := 18) (nzJ_is e1) dX13_common_17 rfl ?_
    obtain ⟨w2, ew2, hf⟩ := bd_ex hf
    refine V.topL (Option.some.inj ew2) ?_
    refine V.lstore (q := 20) (L' := [Jk, Jk, Jk, Jk, .long y4, Jk, .long y6, Jk, .long w2, Jk]) dX13_common_18 rfl (by decide) rfl rfl ?_
    refine V.lload (q := 22) dX13_common_20 rfl rfl ?_
    refine V.lstore (q := 24) (L' := [Jk, Jk, Jk, Jk, .long y6, Jk, .long y6, Jk, .long w2, Jk]) dX13_common_22 rfl (by decide) rfl rfl ?_
    refine V.lload (q := 26) dX13_common_24 rfl rfl ?_
    refine V.lstore (q := 28) (L' := [Jk, Jk, Jk, Jk, .long y6, Jk, .long w2, Jk, .long w2, Jk]) dX13_common_26 rfl (by decide) rfl rfl ?_
    refine V.goto (q := 6) dX13_common_28 (by decide) ?_
    refine V.forget (L' := [Jk, Jk, Jk, Jk, .long y6, Jk, .long w2, Jk, Jk, Jk]) ⟨Or.inl rfl, Or.inl rfl, Or.inl rfl, Or.inl rfl, Or.inr rfl, Or.inl rfl, Or.inr rfl, Or.inl rfl, Or.inl rfl, Or.inl rfl, trivial⟩ ?_
    exact hk6 _ _ _ hf
def fX13_common_6  : Nat → MH → Int64 → Int64 → Option (Int64 × MH)
  | 0 => fun _ _ _ => none
  | n + 1 => bX13_common_6  (fX13_common_6  n)
theorem tlX13_common_6 {r : Int64} {h' : MH}   : ∀ (n : Nat) (h : MH) (y4 : Int64) (y6 : Int64), fX13_common_6  n h y4 y6 = some (r, h') → V TT mX13_common 0 (some (.long r)) h' h 6 [Jk, Jk, Jk, Jk, .long y4, Jk, .long y6, Jk, Jk, Jk] [] := by
  intro n
  induction n with
  | zero => intro h y4 y6 hf; exact nomatch (show (none : Option (Int64 × MH)) = some (r, h') from hf)
  | succ n ih => intro h y4 y6 hf; exact tX13_common_6  (fX13_common_6  n) ih hf
def fX13_common (h : MH) (y0 : Int64) (y2 : Int64) : Option (Int64 × MH) := fX13_common_6 FU h y0 y2
set_option maxRecDepth 20000 in
theorem tX13_common {r : Int64} {h' : MH} {h : MH} {y0 : Int64} {y2 : Int64} (hf : fX13_common h y0 y2 = some (r, h')) : VM mX13_common 0 (some (.long r)) h' h [.long y0, .long y2] := by
  show V TT mX13_common 0 _ h' h 0 [.long y0, Jk, .long y2, Jk, Jk, Jk, Jk, Jk, Jk, Jk] []
  unfold fX13_common at hf
  refine V.lload_n (q := 1) rfl dX13_common_0 rfl rfl ?_
  refine V.lstore (q := 3) (L' := [.long y0, Jk, .long y2, Jk, .long y0, Jk, Jk, Jk, Jk, Jk]) dX13_common_1 rfl (by decide) rfl rfl ?_
  refine V.lload_n (q := 4) rfl dX13_common_3 rfl rfl ?_
  refine V.lstore (q := 6) (L' := [.long y0, Jk, .long y2, Jk, .long y0, Jk, .long y2, Jk, Jk, Jk]) dX13_common_4 rfl (by decide) rfl rfl ?_
  refine V.forget (L' := [Jk, Jk, Jk, Jk, .long y0, Jk, .long y2, Jk, Jk, Jk]) ⟨Or.inl rfl, Or.inl rfl, Or.inl rfl, Or.inl rfl, Or.inr rfl, Or.inl rfl, Or.inr rfl, Or.inl rfl, Or.inl rfl, Or.inl rfl, trivial⟩ ?_
  exact tlX13_common_6  FU _ _ _ hf
def fX13_pairsMany (h : MH) (a0 : Nat) : Option (Int32 × MH) := bd (gR h a0 13 3) fun b1 => bd (gI h b1 12 3) fun v2 => bd (gR h a0 13 3) fun b3 => bd (gI h b3 12 5) fun v4 => some ((v2 * v4), h)
set_option maxRecDepth 20000 in
theorem tX13_pairsMany {r : Int32} {h' : MH} {h : MH} {a0 : Nat} (hf : fX13_pairsMany h a0 = some (r, h')) : VM mX13_pairsMany 0 (some (.int r)) h' h [.ref a0] := by
  show V TT mX13_pairsMany 0 _ h' h 0 [.ref a0] []
  unfold fX13_pairsMany at hf
  refine V.aload_n (q := 1) rfl dX13_pairsMany_0 rfl rfl ?_
  obtain ⟨b1, eb1, hf⟩ := bd_ex hf
  refine V.getR (q := 4) flX13_338 rfl eb1 dX13_pairsMany_1 rfl ?_
  obtain ⟨v2, ev2, hf⟩ := bd_ex hf
  refine V.getI (q := 7) flX13_262 rfl ev2 dX13_pairsMany_4 rfl ?_
  refine V.aload_n (q := 8) rfl dX13_pairsMany_7 rfl rfl ?_
  obtain ⟨b3, eb3, hf⟩ := bd_ex hf
  refine V.getR (q := 11) flX13_338 rfl eb3 dX13_pairsMany_8 rfl ?_
  obtain ⟨v4, ev4, hf⟩ := bd_ex hf
  refine V.getI (q := 14) flX13_298 rfl ev4 dX13_pairsMany_11 rfl ?_
  refine V.imul (q := 15) dX13_pairsMany_14 rfl ?_
  obtain ⟨rfl, rfl⟩ := ret_inj hf
  exact V.ret (r := some (.int (v2 * v4))) trivial dX13_pairsMany_15
def fX13_counts (h : MH) (a0 : Nat) (x1 : Int32) (x2 : Int32) : Option (MH) := bd (ck h a0 13) fun _ => bd2 (fX13_pairsMany h a0 ) fun v2 h1 => if x1 < v2 then (bd (gR h1 a0 13 22) fun b3 => bd (gR h1 a0 13 3) fun b4 => bd (gI h1 b4 12 5) fun v5 => bd (nz v5) fun _ => bd (lI h1 b3 (x1 / v5)) fun v7 => bd (tI h1 b3 (x1 / v5) (v7 + x2)) fun h2 => bd (gR h2 a0 13 23) fun b8 => bd (gR h2 a0 13 3) fun b9 => bd (gI h2 b9 12 5) fun v10 => bd (nz v10) fun _ => bd (lI h2 b8 (x1 - x1 / v10 * v10)) fun v12 => bd (tI h2 b8 (x1 - x1 / v10 * v10) (v12 + x2)) fun h3 => some h3) else (some h1)
set_option maxRecDepth 20000 in
theorem tX13_counts {h' : MH} {h : MH} {a0 : Nat} {x1 : Int32} {x2 : Int32} (hf : fX13_counts h a0 x1 x2 = some h') : VM mX13_counts 1 none h' h [.ref a0, .int x1, .int x2] := by
  show V TT mX13_counts 1 _ h' h 0 [.ref a0, .int x1, .int x2] []
  unfold fX13_counts at hf
  refine V.iload_n (q := 1) rfl dX13_counts_0 rfl rfl ?_
  refine V.aload_n (q := 2) rfl dX13_counts_1 rfl rfl ?_
  obtain ⟨_, e1, hf⟩ := bd_ex hf
  obtain ⟨v2, h1, eh1, hf⟩ := bd2_ex hf
  refine V.callV (q := 5) (ci := 13) (vs := []) (st := [.int x1]) (S2 := [.int v2, .int x1]) okX13_pairsMany imX13_pairsMany seX13_pairsMany rfl lkX13_376 (tX13_pairsMany eh1) rfl (ck_is e1) (by decide) rfl (Nat.le_of_ble_eq_true rfl) (Nat.le_of_ble_eq_true rfl) rfl dX13_counts_2 rfl rfl ?_
  refine V.icmp_lt (q := 8) (tgt := 9) dX13_counts_5 rfl (by decide) (fun c => ?_) (fun c => ?_)
  · rw [if_pos c] at hf
    refine V.aload_n (q := 10) rfl dX13_counts_9 rfl rfl ?_
    obtain ⟨b3, eb3, hf⟩ := bd_ex hf
    refine V.getR (q := 13) flX13_33 rfl eb3 dX13_counts_10 rfl ?_
    refine V.iload_n (q := 14) rfl dX13_counts_13 rfl rfl ?_
    refine V.aload_n (q := 15) rfl dX13_counts_14 rfl rfl ?_
    obtain ⟨b4, eb4, hf⟩ := bd_ex hf
    refine V.getR (q := 18) flX13_338 rfl eb4 dX13_counts_15 rfl ?_
    obtain ⟨v5, ev5, hf⟩ := bd_ex hf
    refine V.getI (q := 21) flX13_298 rfl ev5 dX13_counts_18 rfl ?_
    obtain ⟨_, e6, hf⟩ := bd_ex hf
    refine V.idiv (q := 22) (nz_is e6) dX13_counts_21 rfl ?_
    refine V.dup2 (q := 23) dX13_counts_22 rfl ?_
    obtain ⟨v7, ev7, hf⟩ := bd_ex hf
    refine V.iald (q := 24) ev7 dX13_counts_23 rfl ?_
    refine V.iload_n (q := 25) rfl dX13_counts_24 rfl rfl ?_
    refine V.iadd (q := 26) dX13_counts_25 rfl ?_
    obtain ⟨h2, eh2, hf⟩ := bd_ex hf
    refine V.iast (q := 27) eh2 dX13_counts_26 rfl ?_
    refine V.aload_n (q := 28) rfl dX13_counts_27 rfl rfl ?_
    obtain ⟨b8, eb8, hf⟩ := bd_ex hf
    refine V.getR (q := 31) flX13_36 rfl eb8 dX13_counts_28 rfl ?_
    refine V.iload_n (q := 32) rfl dX13_counts_31 rfl rfl ?_
    refine V.aload_n (q := 33) rfl dX13_counts_32 rfl rfl ?_
    obtain ⟨b9, eb9, hf⟩ := bd_ex hf
    refine V.getR (q := 36) flX13_338 rfl eb9 dX13_counts_33 rfl ?_
    obtain ⟨v10, ev10, hf⟩ := bd_ex hf
    refine V.getI (q := 39) flX13_298 rfl ev10 dX13_counts_36 rfl ?_
    obtain ⟨_, e11, hf⟩ := bd_ex hf
    refine V.irem (q := 40) (nz_is e11) dX13_counts_39 rfl ?_
    refine V.dup2 (q := 41) dX13_counts_40 rfl ?_
    obtain ⟨v12, ev12, hf⟩ := bd_ex hf
    refine V.iald (q := 42) ev12 dX13_counts_41 rfl ?_
    refine V.iload_n (q := 43) rfl dX13_counts_42 rfl rfl ?_
    refine V.iadd (q := 44) dX13_counts_43 rfl ?_
    obtain ⟨h3, eh3, hf⟩ := bd_ex hf
    refine V.iast (q := 45) eh3 dX13_counts_44 rfl ?_
    cases hf
    exact V.ret (r := none) trivial dX13_counts_45
  · rw [if_neg c] at hf
    cases hf
    exact V.ret (r := none) trivial dX13_counts_8
def bX13_differ_37 (k37 : MH → Nat → Int32 → Int32 → Int32 → Int32 → Option (Int32 × MH)) (h : MH) (a0 : Nat) (x1 : Int32) (x2 : Int32) (x3 : Int32) (x4 : Int32) : Option (Int32 × MH) := bd (ck h a0 13) fun _ => bd2 (fX13_allMarks h a0 ) fun v2 h1 => if v2 ≤ x4 then (bd (ck h1 a0 13) fun _ => bd2 (fX13_good1 h1 a0 x3) fun v4 h2 => some (v4, h2)) else (bd (ck h1 a0 13) fun _ => bd2 (fX13_saysBy h1 a0 x1 x4) fun v4 h2 => bd (ck h2 a0 13) fun _ => bd2 (fX13_saysBy h2 a0 x2 x4) fun v6 h3 => if v4 = v6 then (bd (some (x3 + 0)) fun v7 => bd (some (x4 + 1)) fun v8 => k37 h3 a0 x1 x2 v7 v8) else (bd (some (x3 + 1)) fun v7 => bd (some (x4 + 1)) fun v8 => k37 h3 a0 x1 x2 v7 v8))
set_option maxRecDepth 20000 in
theorem tX13_differ_37 {r : Int32} {h' : MH} (k37 : MH → Nat → Int32 → Int32 → Int32 → Int32 → Option (Int32 × MH)) (hk37 : ∀ (h : MH) (a0 : Nat) (x1 : Int32) (x2 : Int32) (x3 : Int32) (x4 : Int32), k37 h a0 x1 x2 x3 x4 = some (r, h') → V TT mX13_differ 3 (some (.int r)) h' h 37 [.ref a0, .int x1, .int x2, .int x3, .int x4] [])  {h : MH} {a0 : Nat} {x1 : Int32} {x2 : Int32} {x3 : Int32} {x4 : Int32} (hf : bX13_differ_37 k37 h a0 x1 x2 x3 x4 = some (r, h')) : V TT mX13_differ 3 (some (.int r)) h' h 37 [.ref a0, .int x1, .int x2, .int x3, .int x4] [] := by
  unfold bX13_differ_37 at hf
  refine V.iload (q := 39) dX13_differ_37 rfl rfl ?_
  refine V.aload_n (q := 40) rfl dX13_differ_39 rfl rfl ?_
  obtain ⟨_, e1, hf⟩ := bd_ex hf
  obtain ⟨v2, h1, eh1, hf⟩ := bd2_ex hf
  refine V.callV (q := 43) (ci := 13) (vs := []) (st := [.int x4]) (S2 := [.int v2, .int x4]) okX13_allMarks imX13_allMarks seX13_allMarks rfl lkX13_370 (tX13_allMarks eh1) rfl (ck_is e1) (by decide) rfl (Nat.le_of_ble_eq_true rfl) (Nat.le_of_ble_eq_true rfl) rfl dX13_differ_40 rfl rfl ?_
  refine V.icmp_ge (q := 46) (tgt := 77) dX13_differ_43 rfl (by decide) (fun c => ?_) (fun c => ?_)
  · rw [if_pos c] at hf
    refine V.aload_n (q := 78) rfl dX13_differ_77 rfl rfl ?_
    refine V.iload_n (q := 79) rfl dX13_differ_78 rfl rfl ?_
    obtain ⟨_, e3, hf⟩ := bd_ex hf
    obtain ⟨v4, h2, eh2, hf⟩ := bd2_ex hf
    refine V.callV (q := 82) (ci := 13) (vs := [.int x3]) (st := []) (S2 := [.int v4]) okX13_good1 imX13_good1 seX13_good1 rfl lkX13_58 (tX13_good1 eh2) rfl (ck_is e3) (by decide) rfl (Nat.le_of_ble_eq_true rfl) (Nat.le_of_ble_eq_true rfl) rfl dX13_differ_79 rfl rfl ?_
    obtain ⟨rfl, rfl⟩ := ret_inj hf
    exact V.ret (r := some (.int v4)) trivial dX13_differ_82
  · rw [if_neg c] at hf
    refine V.iload_n (q := 47) rfl dX13_differ_46 rfl rfl ?_
    refine V.aload_n (q := 48) rfl dX13_differ_47 rfl rfl ?_
    refine V.iload_n (q := 49) rfl dX13_differ_48 rfl rfl ?_
    refine V.iload (q := 51) dX13_differ_49 rfl rfl ?_
    obtain ⟨_, e3, hf⟩ := bd_ex hf
    obtain ⟨v4, h2, eh2, hf⟩ := bd2_ex hf
    refine V.callV (q := 54) (ci := 13) (vs := [.int x1, .int x4]) (st := [.int x3]) (S2 := [.int v4, .int x3]) okX13_saysBy imX13_saysBy seX13_saysBy rfl lkX13_349 (tX13_saysBy eh2) rfl (ck_is e3) (by decide) rfl (Nat.le_of_ble_eq_true rfl) (Nat.le_of_ble_eq_true rfl) rfl dX13_differ_51 rfl rfl ?_
    refine V.aload_n (q := 55) rfl dX13_differ_54 rfl rfl ?_
    refine V.iload_n (q := 56) rfl dX13_differ_55 rfl rfl ?_
    refine V.iload (q := 58) dX13_differ_56 rfl rfl ?_
    obtain ⟨_, e5, hf⟩ := bd_ex hf
    obtain ⟨v6, h3, eh3, hf⟩ := bd2_ex hf
    refine V.callV (q := 61) (ci := 13) (vs := [.int x2, .int x4]) (st := [.int v4, .int x3]) (S2 := [.int v6, .int v4, .int x3]) okX13_saysBy imX13_saysBy seX13_saysBy rfl lkX13_349 (tX13_saysBy eh3) rfl (ck_is e5) (by decide) rfl (Nat.le_of_ble_eq_true rfl) (Nat.le_of_ble_eq_true rfl) rfl dX13_differ_58 rfl rfl ?_
    refine V.icmp_eq (q := 64) (tgt := 68) dX13_differ_61 rfl (by decide) (fun c => ?_) (fun c => ?_)
    · rw [if_pos c] at hf
      refine V.iconst (q := 69) (v := 0) (by decide) dX13_differ_68 rfl ?_
      refine V.iadd (q := 70) dX13_differ_69 rfl ?_
      obtain ⟨v7, ev7, hf⟩ := bd_ex hf
      refine V.topI (Option.some.inj ev7) ?_
      refine V.istore_n (q := 71) (L' := [.ref a0, .int x1, .int x2, .int v7, .int x4]) rfl dX13_differ_70 rfl (by decide) rfl rfl ?_
      obtain ⟨v8, ev8, hf⟩ := bd_ex hf
      refine V.iinc (q := 74) (v := v8) (L' := [.ref a0, .int x1, .int x2, .int v7, .int v8]) dX13_differ_71 rfl rfl (Option.some.inj ev8) (by decide) rfl rfl ?_
      refine V.goto (q := 37) dX13_differ_74 (by decide) ?_
      exact hk37 _ _ _ _ _ _ hf
    · rw [if_neg c] at hf
      refine V.iconst (q := 65) (v := 1) (by decide) dX13_differ_64 rfl ?_
      refine V.goto (q := 69) dX13_differ_65 (by decide) ?_
      refine V.iadd (q := 70) dX13_differ_69 rfl ?_
      obtain ⟨v7, ev7, hf⟩ := bd_ex hf
      refine V.topI (Option.some.inj ev7) ?_
      refine V.istore_n (q := 71) (L' := [.ref a0, .int x1, .int x2, .int v7, .int x4]) rfl dX13_differ_70 rfl (by decide) rfl rfl ?_
      obtain ⟨v8, ev8, hf⟩ := bd_ex hf
      refine V.iinc (q := 74) (v := v8) (L' := [.ref a0, .int x1, .int x2, .int v7, .int v8]) dX13_differ_71 rfl rfl (Option.some.inj ev8) (by decide) rfl rfl ?_
      refine V.goto (q := 37) dX13_differ_74 (by decide) ?_
      exact hk37 _ _ _ _ _ _ hf
def fX13_differ_37  : Nat → MH → Nat → Int32 → Int32 → Int32 → Int32 → Option (Int32 × MH)
  | 0 => fun _ _ _ _ _ _ => none
  | n + 1 => bX13_differ_37  (fX13_differ_37  n)
theorem tlX13_differ_37 {r : Int32} {h' : MH}   : ∀ (n : Nat) (h : MH) (a0 : Nat) (x1 : Int32) (x2 : Int32) (x3 : Int32) (x4 : Int32), fX13_differ_37  n h a0 x1 x2 x3 x4 = some (r, h') → V TT mX13_differ 3 (some (.int r)) h' h 37 [.ref a0, .int x1, .int x2, .int x3, .int x4] [] := by
  intro n
  induction n with
  | zero => intro h a0 x1 x2 x3 x4 hf; exact nomatch (show (none : Option (Int32 × MH)) = some (r, h') from hf)
  | succ n ih => intro h a0 x1 x2 x3 x4 hf; exact tX13_differ_37  (fX13_differ_37  n) ih hf
def fX13_differ (h : MH) (a0 : Nat) (x1 : Int32) (x2 : Int32) : Option (Int32 × MH) := bd (pI h a0 13 0 0) fun h1 => bd (ck h1 a0 13) fun _ => bd2 (fX13_isStamp h1 a0 x1) fun v2 h2 => if v2 = 0 then (bd (ck h2 a0 13) fun _ => bd2 (fX13_refused h2 a0 1) fun v4 h3 => some (v4, h3)) else (bd (ck h2 a0 13) fun _ => bd2 (fX13_isStamp h2 a0 x2) fun v4 h3 => if v4 = 0 then (bd (ck h3 a0 13) fun _ => bd2 (fX13_refused h3 a0 1) fun v6 h4 => some (v6, h4)) else (if x1 = x2 then (bd (ck h3 a0 13) fun _ => bd2 (fX13_refused h3 a0 1) fun v6 h4 => some (v6, h4)) else (fX13_differ_37 FU h3 a0 x1 x2 0 0)))
set_option maxRecDepth 20000 in
theorem tX13_differ {r : Int32} {h' : MH} {h : MH} {a0 : Nat} {x1 : Int32} {x2 : Int32} (hf : fX13_differ h a0 x1 x2 = some (r, h')) : VM mX13_differ 3 (some (.int r)) h' h [.ref a0, .int x1, .int x2] := by
  show V TT mX13_differ 3 _ h' h 0 [.ref a0, .int x1, .int x2, Jk, Jk] []
  unfold fX13_differ at hf
  refine V.aload_n (q := 1) rfl dX13_differ_0 rfl rfl ?_
  refine V.iconst (q := 2) (v := 0) (by decide) dX13_differ_1 rfl ?_
  obtain ⟨h1, eh1, hf⟩ := bd_ex hf
  refine V.putI (q := 5) (fpX13_48 rfl) rfl eh1 dX13_differ_2 rfl ?_
  refine V.aload_n (q := 6) rfl dX13_differ_5 rfl rfl ?_
  refine V.iload_n (q := 7) rfl dX13_differ_6 rfl rfl ?_
  obtain ⟨_, e1, hf⟩ := bd_ex hf
  obtain ⟨v2, h2, eh2, hf⟩ := bd2_ex hf
  refine V.callV (q := 10) (ci := 13) (vs := [.int x1]) (st := []) (S2 := [.int v2]) okX13_isStamp imX13_isStamp seX13_isStamp rfl lkX13_358 (tX13_isStamp eh2) rfl (ck_is e1) (by decide) rfl (Nat.le_of_ble_eq_true rfl) (Nat.le_of_ble_eq_true rfl) rfl dX13_differ_7 rfl rfl ?_
  refine V.if_eq (q := 13) (tgt := 26) dX13_differ_10 rfl (by decide) (fun c => ?_) (fun c => ?_)
  · rw [if_pos c] at hf
    refine V.aload_n (q := 27) rfl dX13_differ_26 rfl rfl ?_
    refine V.iconst (q := 28) (v := 1) (by decide) dX13_differ_27 rfl ?_
    obtain ⟨_, e3, hf⟩ := bd_ex hf
    obtain ⟨v4, h3, eh3, hf⟩ := bd2_ex hf
    refine V.callV (q := 31) (ci := 13) (vs := [.int 1]) (st := []) (S2 := [.int v4]) okX13_refused imX13_refused seX13_refused rfl lkX13_54 (tX13_refused eh3) rfl (ck_is e3) (by decide) rfl (Nat.le_of_ble_eq_true rfl) (Nat.le_of_ble_eq_true rfl) rfl dX13_differ_28 rfl rfl ?_
    obtain ⟨rfl, rfl⟩ := ret_inj hf
    exact V.ret (r := some (.int v4)) trivial dX13_differ_31
  · rw [if_neg c] at hf
    refine V.aload_n (q := 14) rfl dX13_differ_13 rfl rfl ?_
    refine V.iload_n (q := 15) rfl dX13_differ_14 rfl rfl ?_
    obtain ⟨_, e3, hf⟩ := bd_ex hf
    obtain ⟨v4, h3, eh3, hf⟩ := bd2_ex hf
    refine V.callV (q := 18) (ci := 13) (vs := [.int x2]) (st := []) (S2 := [.int v4]) okX13_isStamp imX13_isStamp seX13_isStamp rfl lkX13_358 (tX13_isStamp eh3) rfl (ck_is e3) (by decide) rfl (Nat.le_of_ble_eq_true rfl) (Nat.le_of_ble_eq_true rfl) rfl dX13_differ_15 rfl rfl ?_
    refine V.if_eq (q := 21) (tgt := 26) dX13_differ_18 rfl (by decide) (fun c => ?_) (fun c => ?_)
    · rw [if_pos c] at hf
      refine V.aload_n (q := 27) rfl dX13_differ_26 rfl rfl ?_
      refine V.iconst (q := 28) (v := 1) (by decide) dX13_differ_27 rfl ?_
      obtain ⟨_, e5, hf⟩ := bd_ex hf
      obtain ⟨v6, h4, eh4, hf⟩ := bd2_ex hf
      refine V.callV (q := 31) (ci := 13) (vs := [.int 1]) (st := []) (S2 := [.int v6]) okX13_refused imX13_refused seX13_refused rfl lkX13_54 (tX13_refused eh4) rfl (ck_is e5) (by decide) rfl (Nat.le_of_ble_eq_true rfl) (Nat.le_of_ble_eq_true rfl) rfl dX13_differ_28 rfl rfl ?_
      obtain ⟨rfl, rfl⟩ := ret_inj hf
      exact V.ret (r := some (.int v6)) trivial dX13_differ_31
    · rw [if_neg c] at hf
      refine V.iload_n (q := 22) rfl dX13_differ_21 rfl rfl ?_
      refine V.iload_n (q := 23) rfl dX13_differ_22 rfl rfl ?_
      refine V.icmp_ne (q := 26) (tgt := 32) dX13_differ_23 rfl (by decide) (fun c => ?_) (fun c => ?_)
      · rw [if_neg c] at hf
        refine V.iconst (q := 33) (v := 0) (by decide) dX13_differ_32 rfl ?_
        refine V.istore_n (q := 34) (L' := [.ref a0, .int x1, .int x2, .int 0, Jk]) rfl dX13_differ_33 rfl (by decide) rfl rfl ?_
        refine V.iconst (q := 35) (v := 0) (by decide) dX13_differ_34 rfl ?_
        refine V.istore (q := 37) (L' := [.ref a0, .int x1, .int x2, .int 0, .int 0]) dX13_differ_35 rfl (by decide) rfl rfl ?_
        exact tlX13_differ_37  FU _ _ _ _ _ _ hf
      · rw [if_pos c] at hf
        refine V.aload_n (q := 27) rfl dX13_differ_26 rfl rfl ?_
        refine V.iconst (q := 28) (v := 1) (by decide) dX13_differ_27 rfl ?_
        obtain ⟨_, e5, hf⟩ := bd_ex hf
        obtain ⟨v6, h4, eh4, hf⟩ := bd2_ex hf
        refine V.callV (q := 31) (ci := 13) (vs := [.int 1]) (st := []) (S2 := [.int v6]) okX13_refused imX13_refused seX13_refused rfl lkX13_54 (tX13_refused eh4) rfl (ck_is e5) (by decide) rfl (Nat.le_of_ble_eq_true rfl) (Nat.le_of_ble_eq_true rfl) rfl dX13_differ_28 rfl rfl ?_
        obtain ⟨rfl, rfl⟩ := ret_inj hf
        exact V.ret (r := some (.int v6)) trivial dX13_differ_31
