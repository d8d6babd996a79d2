def fX13_isDigit (h : MH) (x0 : Int32) : Option (Int32 × MH) := if x0 < 48 then (some (0, h)) else (if 57 < x0 then (some (0, h)) else (some (1, h)))
set_option maxRecDepth 20000 in
theorem tX13_isDigit {r : Int32} {h' : MH} {h : MH} {x0 : Int32} (hf : fX13_isDigit h x0 = some (r, h')) : VM mX13_isDigit 0 (some (.int r)) h' h [.int x0] := by
  show V TT mX13_isDigit 0 _ h' h 0 [.int x0] []
  unfold fX13_isDigit at hf
  refine V.iload_n (q := 1) rfl dX13_isDigit_0 rfl rfl ?_
  refine V.bipush (q := 3) (v := 48) (by decide) dX13_isDigit_1 rfl ?_
  refine V.icmp_lt (q := 6) (tgt := 16) dX13_isDigit_3 rfl (by decide) (fun c => ?_) (fun c => ?_)
  · rw [if_pos c] at hf
    refine V.iconst (q := 17) (v := 0) (by decide) dX13_isDigit_16 rfl ?_
    obtain ⟨rfl, rfl⟩ := ret_inj hf
    exact V.ret (r := some (.int 0)) (Or.inl rfl) dX13_isDigit_17
  · rw [if_neg c] at hf
    refine V.iload_n (q := 7) rfl dX13_isDigit_6 rfl rfl ?_
    refine V.bipush (q := 9) (v := 57) (by decide) dX13_isDigit_7 rfl ?_
    refine V.icmp_gt (q := 12) (tgt := 16) dX13_isDigit_9 rfl (by decide) (fun c => ?_) (fun c => ?_)
    · rw [if_pos c] at hf
      refine V.iconst (q := 17) (v := 0) (by decide) dX13_isDigit_16 rfl ?_
      obtain ⟨rfl, rfl⟩ := ret_inj hf
      exact V.ret (r := some (.int 0)) (Or.inl rfl) dX13_isDigit_17
    · rw [if_neg c] at hf
      refine V.iconst (q := 13) (v := 1) (by decide) dX13_isDigit_12 rfl ?_
      refine V.goto (q := 17) dX13_isDigit_13 (by decide) ?_
      obtain ⟨rfl, rfl⟩ := ret_inj hf
      exact V.ret (r := some (.int 1)) (Or.inr rfl) dX13_isDigit_17
def fX13_isLetter (h : MH) (x0 : Int32) : Option (Int32 × MH) := if x0 < 97 then (some (0, h)) else (if 122 < x0 then (some (0, h)) else (some (1, h)))
set_option maxRecDepth 20000 in
theorem tX13_isLetter {r : Int32} {h' : MH} {h : MH} {x0 : Int32} (hf : fX13_isLetter h x0 = some (r, h')) : VM mX13_isLetter 0 (some (.int r)) h' h [.int x0] := by
  show V TT mX13_isLetter 0 _ h' h 0 [.int x0] []
  unfold fX13_isLetter at hf
  refine V.iload_n (q := 1) rfl dX13_isLetter_0 rfl rfl ?_
  refine V.bipush (q := 3) (v := 97) (by decide) dX13_isLetter_1 rfl ?_
  refine V.icmp_lt (q := 6) (tgt := 16) dX13_isLetter_3 rfl (by decide) (fun c => ?_) (fun c => ?_)
  · rw [if_pos c] at hf
    refine V.iconst (q := 17) (v := 0) (by decide) dX13_isLetter_16 rfl ?_
    obtain ⟨rfl, rfl⟩ := ret_inj hf
    exact V.ret (r := some (.int 0)) (Or.inl rfl) dX13_isLetter_17
  · rw [if_neg c] at hf
    refine V.iload_n (q := 7) rfl dX13_isLetter_6 rfl rfl ?_
    refine V.bipush (q := 9) (v := 122) (by decide) dX13_isLetter_7 rfl ?_
    refine V.icmp_gt (q := 12) (tgt := 16) dX13_isLetter_9 rfl (by decide) (fun c => ?_) (fun c => ?_)
    · rw [if_pos c] at hf
      refine V.iconst (q := 17) (v := 0) (by decide) dX13_isLetter_16 rfl ?_
      obtain ⟨rfl, rfl⟩ := ret_inj hf
      exact V.ret (r := some (.int 0)) (Or.inl rfl) dX13_isLetter_17
    · rw [if_neg c] at hf
      refine V.iconst (q := 13) (v := 1) (by decide) dX13_isLetter_12 rfl ?_
      refine V.goto (q := 17) dX13_isLetter_13 (by decide) ?_
      obtain ⟨rfl, rfl⟩ := ret_inj hf
      exact V.ret (r := some (.int 1)) (Or.inr rfl) dX13_isLetter_17
def bX13_goesOn_269  (h : MH) (a0 : Nat) (xs0 : Int32) (as1 : Nat) : Option (MH) := bd (pI h as1 13 9 xs0) fun h1 => bd (gI h1 a0 13 8) fun v1 => bd (pI h1 a0 13 8 (v1 + 1)) fun h2 => some h2
set_option maxRecDepth 20000 in
theorem tX13_goesOn_269 {h' : MH}   {h : MH} {a0 : Nat} {xs0 : Int32} {as1 : Nat} (hf : bX13_goesOn_269  h a0 xs0 as1 = some h') : V TT mX13_goesOn 1 none h' h 269 [.ref a0, Jk, Jk] [.int xs0, .ref as1] := by
  unfold bX13_goesOn_269 at hf
  obtain ⟨h1, eh1, hf⟩ := bd_ex hf
  refine V.putI (q := 272) (fpX13_80 rfl) rfl eh1 dX13_goesOn_269 rfl ?_
  refine V.aload_n (q := 273) rfl dX13_goesOn_272 rfl rfl ?_
  refine V.dupR (q := 274) dX13_goesOn_273 rfl ?_
  obtain ⟨v1, ev1, hf⟩ := bd_ex hf
  refine V.getI (q := 277) flX13_83 rfl ev1 dX13_goesOn_274 rfl ?_
  refine V.iconst (q := 278) (v := 1) (by decide) dX13_goesOn_277 rfl ?_
  refine V.iadd (q := 279) dX13_goesOn_278 rfl ?_
  obtain ⟨h2, eh2, hf⟩ := bd_ex hf
  refine V.putI (q := 282) (fpX13_83 rfl) rfl eh2 dX13_goesOn_279 rfl ?_
  cases hf
  exact V.ret (r := none) trivial dX13_goesOn_282
def bX13_goesOn_257  (h : MH) (a0 : Nat) (x1 : Int32) : Option (MH) := if x1 = 59 then (bX13_goesOn_269 h a0 4 a0) else (bX13_goesOn_269 h a0 5 a0)
set_option maxRecDepth 20000 in
theorem tX13_goesOn_257 {h' : MH}   {h : MH} {a0 : Nat} {x1 : Int32} (hf : bX13_goesOn_257  h a0 x1 = some h') : V TT mX13_goesOn 1 none h' h 257 [.ref a0, .int x1, Jk] [] := by
  unfold bX13_goesOn_257 at hf
  refine V.aload_n (q := 258) rfl dX13_goesOn_257 rfl rfl ?_
  refine V.iload_n (q := 259) rfl dX13_goesOn_258 rfl rfl ?_
  refine V.bipush (q := 261) (v := 59) (by decide) dX13_goesOn_259 rfl ?_
  refine V.icmp_ne (q := 264) (tgt := 268) dX13_goesOn_261 rfl (by decide) (fun c => ?_) (fun c => ?_)
  · rw [if_neg c] at hf
    refine V.iconst (q := 269) (v := 5) (by decide) dX13_goesOn_268 rfl ?_
    refine V.forget (L' := [.ref a0, Jk, Jk]) ⟨Or.inr rfl, Or.inl rfl, Or.inl rfl, trivial⟩ ?_
    exact tX13_goesOn_269  hf
  · rw [if_pos c] at hf
    refine V.iconst (q := 265) (v := 4) (by decide) dX13_goesOn_264 rfl ?_
    refine V.goto (q := 269) dX13_goesOn_265 (by decide) ?_
    refine V.forget (L' := [.ref a0, Jk, Jk]) ⟨Or.inr rfl, Or.inl rfl, Or.inl rfl, trivial⟩ ?_
    exact tX13_goesOn_269  hf
def bX13_goesOn_216 (k174 : MH → Nat → Int32 → Option (MH)) (h : MH) (a0 : Nat) (x2 : Int32) : Option (MH) := bd (some (x2 + 1)) fun v1 => bd (gI h a0 13 8) fun v2 => bd (pI h a0 13 8 (v2 + 1)) fun h1 => k174 h1 a0 v1
set_option maxRecDepth 20000 in
theorem tX13_goesOn_216 {h' : MH} (k174 : MH → Nat → Int32 → Option (MH)) (hk174 : ∀ (h : MH) (a0 : Nat) (x2 : Int32), k174 h a0 x2 = some h' → V TT mX13_goesOn 1 none h' h 174 [.ref a0, Jk, .int x2] [])  {h : MH} {a0 : Nat} {x2 : Int32} (hf : bX13_goesOn_216 k174 h a0 x2 = some h') : V TT mX13_goesOn 1 none h' h 216 [.ref a0, Jk, .int x2] [] := by
  unfold bX13_goesOn_216 at hf
  obtain ⟨v1, ev1, hf⟩ := bd_ex hf
  refine V.iinc (q := 219) (v := v1) (L' := [.ref a0, Jk, .int v1]) dX13_goesOn_216 rfl rfl (Option.some.inj ev1) (by decide) rfl rfl ?_
  refine V.aload_n (q := 220) rfl dX13_goesOn_219 rfl rfl ?_
  refine V.dupR (q := 221) dX13_goesOn_220 rfl ?_
  obtain ⟨v2, ev2, hf⟩ := bd_ex hf
  refine V.getI (q := 224) flX13_83 rfl ev2 dX13_goesOn_221 rfl ?_
  refine V.iconst (q := 225) (v := 1) (by decide) dX13_goesOn_224 rfl ?_
  refine V.iadd (q := 226) dX13_goesOn_225 rfl ?_
  obtain ⟨h1, eh1, hf⟩ := bd_ex hf
  refine V.putI (q := 229) (fpX13_83 rfl) rfl eh1 dX13_goesOn_226 rfl ?_
  refine V.goto (q := 174) dX13_goesOn_229 (by decide) ?_
  exact hk174 _ _ _ hf
def bX13_goesOn_174 (k174 : MH → Nat → Int32 → Option (MH)) (h : MH) (a0 : Nat) (x2 : Int32) : Option (MH) := bd (gI h a0 13 8) fun v1 => bd (ck h a0 13) fun _ => bd2 (fX13_byteAt h a0 v1) fun v3 h1 => bd2 (fX13_isDigit h1 v3) fun v4 h2 => if v4 = 0 then (if 3 < x2 then (some h2) else (bd (pI h2 a0 13 9 3) fun h3 => some h3)) else (if 3 ≤ x2 then (bX13_goesOn_216 k174 h2 a0 x2) else (bd (gI h2 a0 13 11) fun v5 => bd (gI h2 a0 13 8) fun v6 => bd (ck h2 a0 13) fun _ => bd2 (fX13_byteAt h2 a0 v6) fun v8 h3 => bd (pI h3 a0 13 11 (((10 * v5) + v8) - 48)) fun h4 => bX13_goesOn_216 k174 h4 a0 x2))
set_option maxRecDepth 20000 in
theorem tX13_goesOn_174 {h' : MH} (k174 : MH → Nat → Int32 → Option (MH)) (hk174 : ∀ (h : MH) (a0 : Nat) (x2 : Int32), k174 h a0 x2 = some h' → V TT mX13_goesOn 1 none h' h 174 [.ref a0, Jk, .int x2] [])  {h : MH} {a0 : Nat} {x2 : Int32} (hf : bX13_goesOn_174 k174 h a0 x2 = some h') : V TT mX13_goesOn 1 none h' h 174 [.ref a0, Jk, .int x2] [] := by
  unfold bX13_goesOn_174 at hf
  refine V.aload_n (q := 175) rfl dX13_goesOn_174 rfl rfl ?_
  refine V.aload_n (q := 176) rfl dX13_goesOn_175 rfl rfl ?_
  obtain ⟨v1, ev1, hf⟩ := bd_ex hf
  refine V.getI (q := 179) flX13_83 rfl ev1 dX13_goesOn_176 rfl ?_
  obtain ⟨_, e2, hf⟩ := bd_ex hf
  obtain ⟨v3, h1, eh1, hf⟩ := bd2_ex hf
  refine V.callV (q := 182) (ci := 13) (vs := [.int v1]) (st := []) (S2 := [.int v3]) okX13_byteAt imX13_byteAt seX13_byteAt rfl lkX13_86 (tX13_byteAt eh1) rfl (ck_is e2) (by decide) rfl (Nat.le_of_ble_eq_true rfl) (Nat.le_of_ble_eq_true rfl) rfl dX13_goesOn_179 rfl rfl ?_
  obtain ⟨v4, h2, eh2, hf⟩ := bd2_ex hf
  refine V.callS (q := 185) (vs := [.int v3]) (st := []) (S2 := [.int v4]) okX13_isDigit stX13_isDigit lkX13_100 (tX13_isDigit eh2) rfl (by decide) rfl (Nat.le_of_ble_eq_true rfl) (Nat.le_of_ble_eq_true rfl) rfl dX13_goesOn_182 rfl rfl ?_
  refine V.if_eq (q := 188) (tgt := 232) dX13_goesOn_185 rfl (by decide) (fun c => ?_) (fun c => ?_)
  · rw [if_pos c] at hf
    refine V.iload_n (q := 233) rfl dX13_goesOn_232 rfl rfl ?_
    refine V.iconst (q := 234) (v := 3) (by decide) dX13_goesOn_233 rfl ?_
    refine V.icmp_gt (q := 237) (tgt := 282) dX13_goesOn_234 rfl (by decide) (fun c => ?_) (fun c => ?_)
    · rw [if_pos c] at hf
      cases hf
      exact V.ret (r := none) trivial dX13_goesOn_282
    · rw [if_neg c] at hf
      refine V.aload_n (q := 238) rfl dX13_goesOn_237 rfl rfl ?_
      refine V.iconst (q := 239) (v := 3) (by decide) dX13_goesOn_238 rfl ?_
      obtain ⟨h3, eh3, hf⟩ := bd_ex hf
      refine V.putI (q := 242) (fpX13_80 rfl) rfl eh3 dX13_goesOn_239 rfl ?_
      refine V.goto (q := 282) dX13_goesOn_242 (by decide) ?_
      cases hf
      exact V.ret (r := none) trivial dX13_goesOn_282
  · rw [if_neg c] at hf
    refine V.iload_n (q := 189) rfl dX13_goesOn_188 rfl rfl ?_
    refine V.iconst (q := 190) (v := 3) (by decide) dX13_goesOn_189 rfl ?_
    refine V.icmp_ge (q := 193) (tgt := 216) dX13_goesOn_190 rfl (by decide) (fun c => ?_) (fun c => ?_)
    · rw [if_pos c] at hf
      exact tX13_goesOn_216 k174 hk174 hf
    · rw [if_neg c] at hf
      refine V.aload_n (q := 194) rfl dX13_goesOn_193 rfl rfl ?_
      refine V.bipush (q := 196) (v := 10) (by decide) dX13_goesOn_194 rfl ?_
      refine V.aload_n (q := 197) rfl dX13_goesOn_196 rfl rfl ?_
      obtain ⟨v5, ev5, hf⟩ := bd_ex hf
      refine V.getI (q := 200) flX13_103 rfl ev5 dX13_goesOn_197 rfl ?_
      refine V.imul (q := 201) dX13_goesOn_200 rfl ?_
      refine V.aload_n (q := 202) rfl dX13_goesOn_201 rfl rfl ?_
      refine V.aload_n (q := 203) rfl dX13_goesOn_202 rfl rfl ?_
      obtain ⟨v6, ev6, hf⟩ := bd_ex hf
      refine V.getI (q := 206) flX13_83 rfl ev6 dX13_goesOn_203 rfl ?_
      obtain ⟨_, e7, hf⟩ := bd_ex hf
      obtain ⟨v8, h3, eh3, hf⟩ := bd2_ex hf
      refine V.callV (q := 209) (ci := 13) (vs := [.int v6]) (st := [.int (10 * v5), .ref a0]) (S2 := [.int v8, .int (10 * v5), .ref a0]) okX13_byteAt imX13_byteAt seX13_byteAt rfl lkX13_86 (tX13_byteAt eh3) rfl (ck_is e7) (by decide) rfl (Nat.le_of_ble_eq_true rfl) (Nat.le_of_ble_eq_true rfl) rfl dX13_goesOn_206 rfl rfl ?_
      refine V.iadd (q := 210) dX13_goesOn_209 rfl ?_
      refine V.bipush (q := 212) (v := 48) (by decide) dX13_goesOn_210 rfl ?_
      refine V.isub (q := 213) dX13_goesOn_212 rfl ?_
      obtain ⟨h4, eh4, hf⟩ := bd_ex hf
      refine V.putI (q := 216) (fpX13_103 rfl) rfl eh4 dX13_goesOn_213 rfl ?_
      exact tX13_goesOn_216 k174 hk174 hf
def fX13_goesOn_174  : Nat → MH → Nat → Int32 → Option (MH)
  | 0 => fun _ _ _ => none
  | n + 1 => bX13_goesOn_174  (fX13_goesOn_174  n)
theorem tlX13_goesOn_174 {h' : MH}   : ∀ (n : Nat) (h : MH) (a0 : Nat) (x2 : Int32), fX13_goesOn_174  n h a0 x2 = some h' → V TT mX13_goesOn 1 none h' h 174 [.ref a0, Jk, .int x2] [] := by
  intro n
  induction n with
  | zero => intro h a0 x2 hf; exact nomatch (show (none : Option (MH)) = some h' from hf)
  | succ n ih => intro h a0 x2 hf; exact tX13_goesOn_174  (fX13_goesOn_174  n) ih hf
def bX13_goesOn_132 (k85 : MH → Nat → Int32 → Option (MH)) (h : MH) (a0 : Nat) (x2 : Int32) : Option (MH) := bd (some (x2 + 1)) fun v1 => bd (gI h a0 13 8) fun v2 => bd (pI h a0 13 8 (v2 + 1)) fun h1 => k85 h1 a0 v1
set_option maxRecDepth 20000 in
theorem tX13_goesOn_132 {h' : MH} (k85 : MH → Nat → Int32 → Option (MH)) (hk85 : ∀ (h : MH) (a0 : Nat) (x2 : Int32), k85 h a0 x2 = some h' → V TT mX13_goesOn 1 none h' h 85 [.ref a0, Jk, .int x2] [])  {h : MH} {a0 : Nat} {x2 : Int32} (hf : bX13_goesOn_132 k85 h a0 x2 = some h') : V TT mX13_goesOn 1 none h' h 132 [.ref a0, Jk, .int x2] [] := by
  unfold bX13_goesOn_132 at hf
  obtain ⟨v1, ev1, hf⟩ := bd_ex hf
  refine V.iinc (q := 135) (v := v1) (L' := [.ref a0, Jk, .int v1]) dX13_goesOn_132 rfl rfl (Option.some.inj ev1) (by decide) rfl rfl ?_
  refine V.aload_n (q := 136) rfl dX13_goesOn_135 rfl rfl ?_
  refine V.dupR (q := 137) dX13_goesOn_136 rfl ?_
  obtain ⟨v2, ev2, hf⟩ := bd_ex hf
  refine V.getI (q := 140) flX13_83 rfl ev2 dX13_goesOn_137 rfl ?_
  refine V.iconst (q := 141) (v := 1) (by decide) dX13_goesOn_140 rfl ?_
  refine V.iadd (q := 142) dX13_goesOn_141 rfl ?_
  obtain ⟨h1, eh1, hf⟩ := bd_ex hf
  refine V.putI (q := 145) (fpX13_83 rfl) rfl eh1 dX13_goesOn_142 rfl ?_
  refine V.goto (q := 85) dX13_goesOn_145 (by decide) ?_
  exact hk85 _ _ _ hf
def bX13_goesOn_85 (k85 : MH → Nat → Int32 → Option (MH)) (h : MH) (a0 : Nat) (x2 : Int32) : Option (MH) := bd (gI h a0 13 8) fun v1 => bd (ck h a0 13) fun _ => bd2 (fX13_byteAt h a0 v1) fun v3 h1 => bd2 (fX13_isLetter h1 v3) fun v4 h2 => if v4 = 0 then (if 8 < x2 then (some h2) else (bd (pI h2 a0 13 9 2) fun h3 => some h3)) else (if 8 ≤ x2 then (bX13_goesOn_132 k85 h2 a0 x2) else (bd (gJ h2 a0 13 14) fun w5 => bd (gI h2 a0 13 8) fun v6 => bd (ck h2 a0 13) fun _ => bd2 (fX13_byteAt h2 a0 v6) fun v8 h3 => bd (pJ h3 a0 13 14 ((32 * w5) + (Int32.toInt64 ((v8 - 97) + 1)))) fun h4 => bX13_goesOn_132 k85 h4 a0 x2))
set_option maxRecDepth 20000 in
theorem tX13_goesOn_85 {h' : MH} (k85 : MH → Nat → Int32 → Option (MH)) (hk85 : ∀ (h : MH) (a0 : Nat) (x2 : Int32), k85 h a0 x2 = some h' → V TT mX13_goesOn 1 none h' h 85 [.ref a0, Jk, .int x2] [])  {h : MH} {a0 : Nat} {x2 : Int32} (hf : bX13_goesOn_85 k85 h a0 x2 = some h') : V TT mX13_goesOn 1 none h' h 85 [.ref a0, Jk, .int x2] [] := by
  unfold bX13_goesOn_85 at hf
  refine V.aload_n (q := 86) rfl dX13_goesOn_85 rfl rfl ?_
  refine V.aload_n (q := 87) rfl dX13_goesOn_86 rfl rfl ?_
  obtain ⟨v1, ev1, hf⟩ := bd_ex hf
  refine V.getI (q := 90) flX13_83 rfl ev1 dX13_goesOn_87 rfl ?_
  obtain ⟨_, e2, hf⟩ := bd_ex hf
  obtain ⟨v3, h1, eh1, hf⟩ := bd2_ex hf
  refine V.callV (q := 93) (ci := 13) (vs := [.int v1]) (st := []) (S2 := [.int v3]) okX13_byteAt imX13_byteAt seX13_byteAt rfl lkX13_86 (tX13_byteAt eh1) rfl (ck_is e2) (by decide) rfl (Nat.le_of_ble_eq_true rfl) (Nat.le_of_ble_eq_true rfl) rfl dX13_goesOn_90 rfl rfl ?_
  obtain ⟨v4, h2, eh2, hf⟩ := bd2_ex hf
  refine V.callS (q := 96) (vs := [.int v3]) (st := []) (S2 := [.int v4]) okX13_isLetter stX13_isLetter lkX13_92 (tX13_isLetter eh2) rfl (by decide) rfl (Nat.le_of_ble_eq_true rfl) (Nat.le_of_ble_eq_true rfl) rfl dX13_goesOn_93 rfl rfl ?_
  refine V.if_eq (q := 99) (tgt := 148) dX13_goesOn_96 rfl (by decide) (fun c => ?_) (fun c => ?_)
  · rw [if_pos c] at hf
    refine V.iload_n (q := 149) rfl dX13_goesOn_148 rfl rfl ?_
    refine V.bipush (q := 151) (v := 8) (by decide) dX13_goesOn_149 rfl ?_
    refine V.icmp_gt (q := 154) (tgt := 282) dX13_goesOn_151 rfl (by decide) (fun c => ?_) (fun c => ?_)
    · rw [if_pos c] at hf
      cases hf
      exact V.ret (r := none) trivial dX13_goesOn_282
    · rw [if_neg c] at hf
      refine V.aload_n (q := 155) rfl dX13_goesOn_154 rfl rfl ?_
      refine V.iconst (q := 156) (v := 2) (by decide) dX13_goesOn_155 rfl ?_
      obtain ⟨h3, eh3, hf⟩ := bd_ex hf
      refine V.putI (q := 159) (fpX13_80 rfl) rfl eh3 dX13_goesOn_156 rfl ?_
      refine V.goto (q := 282) dX13_goesOn_159 (by decide) ?_
      cases hf
      exact V.ret (r := none) trivial dX13_goesOn_282
  · rw [if_neg c] at hf
    refine V.iload_n (q := 100) rfl dX13_goesOn_99 rfl rfl ?_
    refine V.bipush (q := 102) (v := 8) (by decide) dX13_goesOn_100 rfl ?_
    refine V.icmp_ge (q := 105) (tgt := 132) dX13_goesOn_102 rfl (by decide) (fun c => ?_) (fun c => ?_)
    · rw [if_pos c] at hf
      exact tX13_goesOn_132 k85 hk85 hf
    · rw [if_neg c] at hf
      refine V.aload_n (q := 106) rfl dX13_goesOn_105 rfl rfl ?_
      refine V.ldc2 (q := 109) kcX13_74 dX13_goesOn_106 rfl ?_
      refine V.aload_n (q := 110) rfl dX13_goesOn_109 rfl rfl ?_
      obtain ⟨w5, ew5, hf⟩ := bd_ex hf
      refine V.getJ (q := 113) flX13_96 rfl ew5 dX13_goesOn_110 rfl ?_
      refine V.lmul (q := 114) dX13_goesOn_113 rfl ?_
      refine V.aload_n (q := 115) rfl dX13_goesOn_114 rfl rfl ?_
      refine V.aload_n (q := 116) rfl dX13_goesOn_115 rfl rfl ?_
      obtain ⟨v6, ev6, hf⟩ := bd_ex hf
      refine V.getI (q := 119) flX13_83 rfl ev6 dX13_goesOn_116 rfl ?_
      obtain ⟨_, e7, hf⟩ := bd_ex hf
      obtain ⟨v8, h3, eh3, hf⟩ := bd2_ex hf
      refine V.callV (q := 122) (ci := 13) (vs := [.int v6]) (st := [.long (32 * w5), .ref a0]) (S2 := [.int v8, .long (32 * w5), .ref a0]) okX13_byteAt imX13_byteAt seX13_byteAt rfl lkX13_86 (tX13_byteAt eh3) rfl (ck_is e7) (by decide) rfl (Nat.le_of_ble_eq_true rfl) (Nat.le_of_ble_eq_true rfl) rfl dX13_goesOn_119 rfl rfl ?_
      refine V.bipush (q := 124) (v := 97) (by decide) dX13_goesOn_122 rfl ?_
      refine V.isub (q := 125) dX13_goesOn_124 rfl ?_
      refine V.iconst (q := 126) (v := 1) (by decide) dX13_goesOn_125 rfl ?_
      refine V.iadd (q := 127) dX13_goesOn_126 rfl ?_
      refine V.i2l (q := 128) dX13_goesOn_127 rfl ?_
      refine V.ladd (q := 129) dX13_goesOn_128 rfl ?_
      obtain ⟨h4, eh4, hf⟩ := bd_ex hf
      refine V.putJ (q := 132) (fpX13_96 rfl) rfl eh4 dX13_goesOn_129 rfl ?_
      exact tX13_goesOn_132 k85 hk85 hf
def fX13_goesOn_85  : Nat → MH → Nat → Int32 → Option (MH)
  | 0 => fun _ _ _ => none
  | n + 1 => bX13_goesOn_85  (fX13_goesOn_85  n)
theorem tlX13_goesOn_85 {h' : MH}   : ∀ (n : Nat) (h : MH) (a0 : Nat) (x2 : Int32), fX13_goesOn_85  n h a0 x2 = some h' → V TT mX13_goesOn 1 none h' h 85 [.ref a0, Jk, .int x2] [] := by
  intro n
  induction n with
  | zero => intro h a0 x2 hf; exact nomatch (show (none : Option (MH)) = some h' from hf)
  | succ n ih => intro h a0 x2 hf; exact tX13_goesOn_85  (fX13_goesOn_85  n) ih hf
def bX13_goesOn_10 (k10 : MH → Nat → Option (MH)) (h : MH) (a0 : Nat) : Option (MH) := bd (gI h a0 13 8) fun v1 => bd (ck h a0 13) fun _ => bd2 (fX13_byteAt h a0 v1) fun v3 h1 => if v3 = 32 then (bd (gI h1 a0 13 8) fun v4 => bd (pI h1 a0 13 8 (v4 + 1)) fun h2 => k10 h2 a0) else (bd (gI h1 a0 13 8) fun v4 => bd (pI h1 a0 13 10 v4) fun h2 => bd (pI h2 a0 13 9 0) fun h3 => bd (gI h3 a0 13 8) fun v5 => bd (ck h3 a0 13) fun _ => bd2 (fX13_byteAt h3 a0 v5) fun v7 h4 => if v7 = (-1) then (bd (pI h4 a0 13 9 1) fun h5 => some h5) else (bd2 (fX13_isLetter h4 v7) fun v8 h5 => if v8 = 0 then (bd2 (fX13_isDigit h5 v7) fun v9 h6 => if v9 = 0 then (if v7 = 59 then (bX13_goesOn_257 h6 a0 v7) else (if v7 = 44 then (bX13_goesOn_257 h6 a0 v7) else (some h6))) else (bd (pI h6 a0 13 11 0) fun h7 => fX13_goesOn_174 FU h7 a0 0)) else (bd (pJ h5 a0 13 14 0) fun h6 => fX13_goesOn_85 FU h6 a0 0)))
set_option maxRecDepth 20000 in
theorem tX13_goesOn_10 {h' : MH} (k10 : MH → Nat → Option (MH)) (hk10 : ∀ (h : MH) (a0 : Nat), k10 h a0 = some h' → V TT mX13_goesOn 1 none h' h 10 [.ref a0, Jk, Jk] [])  {h : MH} {a0 : Nat} (hf : bX13_goesOn_10 k10 h a0 = some h') : V TT mX13_goesOn 1 none h' h 10 [.ref a0, Jk, Jk] [] := by
  unfold bX13_goesOn_10 at hf
  refine V.aload_n (q := 11) rfl dX13_goesOn_10 rfl rfl ?_
  refine V.aload_n (q := 12) rfl dX13_goesOn_11 rfl rfl ?_
  obtain ⟨v1, ev1, hf⟩ := bd_ex hf
  refine V.getI (q := 15) flX13_83 rfl ev1 dX13_goesOn_12 rfl ?_
  obtain ⟨_, e2, hf⟩ := bd_ex hf
  obtain ⟨v3, h1, eh1, hf⟩ := bd2_ex hf
  refine V.callV (q := 18) (ci := 13) (vs := [.int v1]) (st := []) (S2 := [.int v3]) okX13_byteAt imX13_byteAt seX13_byteAt rfl lkX13_86 (tX13_byteAt eh1) rfl (ck_is e2) (by decide) rfl (Nat.le_of_ble_eq_true rfl) (Nat.le_of_ble_eq_true rfl) rfl dX13_goesOn_15 rfl rfl ?_
  refine V.bipush (q := 20) (v := 32) (by decide) dX13_goesOn_18 rfl ?_
  refine V.icmp_ne (q := 23) (tgt := 36) dX13_goesOn_20 rfl (by decide) (fun c => ?_) (fun c => ?_)
  · rw [if_neg c] at hf
    refine V.aload_n (q := 37) rfl dX13_goesOn_36 rfl rfl ?_
    refine V.aload_n (q := 38) rfl dX13_goesOn_37 rfl rfl ?_
    obtain ⟨v4, ev4, hf⟩ := bd_ex hf
    refine V.getI (q := 41) flX13_83 rfl ev4 dX13_goesOn_38 rfl ?_
    obtain ⟨h2, eh2, hf⟩ := bd_ex hf
    refine V.putI (q := 44) (fpX13_89 rfl) rfl eh2 dX13_goesOn_41 rfl ?_
    refine V.aload_n (q := 45) rfl dX13_goesOn_44 rfl rfl ?_
    refine V.iconst (q := 46) (v := 0) (by decide) dX13_goesOn_45 rfl ?_
    obtain ⟨h3, eh3, hf⟩ := bd_ex hf
    refine V.putI (q := 49) (fpX13_80 rfl) rfl eh3 dX13_goesOn_46 rfl ?_
    refine V.aload_n (q := 50) rfl dX13_goesOn_49 rfl rfl ?_
    refine V.aload_n (q := 51) rfl dX13_goesOn_50 rfl rfl ?_
    obtain ⟨v5, ev5, hf⟩ := bd_ex hf
    refine V.getI (q := 54) flX13_83 rfl ev5 dX13_goesOn_51 rfl ?_
    obtain ⟨_, e6, hf⟩ := bd_ex hf
    obtain ⟨v7, h4, eh4, hf⟩ := bd2_ex hf
    refine V.callV (q := 57) (ci := 13) (vs := [.int v5]) (st := []) (S2 := [.int v7]) okX13_byteAt imX13_byteAt seX13_byteAt rfl lkX13_86 (tX13_byteAt eh4) rfl (ck_is e6) (by decide) rfl (Nat.le_of_ble_eq_true rfl) (Nat.le_of_ble_eq_true rfl) rfl dX13_goesOn_54 rfl rfl ?_
    refine V.istore_n (q := 58) (L' := [.ref a0, .int v7, Jk]) rfl dX13_goesOn_57 rfl (by decide) rfl rfl ?_
    refine V.iconst (q := 59) (v := 0) (by decide) dX13_goesOn_58 rfl ?_
    refine V.istore_n (q := 60) (L' := [.ref a0, .int v7, .int 0]) rfl dX13_goesOn_59 rfl (by decide) rfl rfl ?_
    refine V.iload_n (q := 61) rfl dX13_goesOn_60 rfl rfl ?_
    refine V.iconst (q := 62) (v := (-1)) (by decide) dX13_goesOn_61 rfl ?_
    refine V.icmp_ne (q := 65) (tgt := 73) dX13_goesOn_62 rfl (by decide) (fun c => ?_) (fun c => ?_)
    · rw [if_neg c] at hf
      refine V.iload_n (q := 74) rfl dX13_goesOn_73 rfl rfl ?_
      obtain ⟨v8, h5, eh5, hf⟩ := bd2_ex hf
      refine V.callS (q := 77) (vs := [.int v7]) (st := []) (S2 := [.int v8]) okX13_isLetter stX13_isLetter lkX13_92 (tX13_isLetter eh5) rfl (by decide) rfl (Nat.le_of_ble_eq_true rfl) (Nat.le_of_ble_eq_true rfl) rfl dX13_goesOn_74 rfl rfl ?_
      refine V.if_eq (q := 80) (tgt := 162) dX13_goesOn_77 rfl (by decide) (fun c => ?_) (fun c => ?_)
      · rw [if_pos c] at hf
        refine V.iload_n (q := 163) rfl dX13_goesOn_162 rfl rfl ?_
        obtain ⟨v9, h6, eh6, hf⟩ := bd2_ex hf
        refine V.callS (q := 166) (vs := [.int v7]) (st := []) (S2 := [.int v9]) okX13_isDigit stX13_isDigit lkX13_100 (tX13_isDigit eh6) rfl (by decide) rfl (Nat.le_of_ble_eq_true rfl) (Nat.le_of_ble_eq_true rfl) rfl dX13_goesOn_163 rfl rfl ?_
        refine V.if_eq (q := 169) (tgt := 245) dX13_goesOn_166 rfl (by decide) (fun c => ?_) (fun c => ?_)
        · rw [if_pos c] at hf
          refine V.iload_n (q := 246) rfl dX13_goesOn_245 rfl rfl ?_
          refine V.bipush (q := 248) (v := 59) (by decide) dX13_goesOn_246 rfl ?_
          refine V.icmp_eq (q := 251) (tgt := 257) dX13_goesOn_248 rfl (by decide) (fun c => ?_) (fun c => ?_)
          · rw [if_pos c] at hf
            refine V.forget (L' := [.ref a0, .int v7, Jk]) ⟨Or.inr rfl, Or.inr rfl, Or.inl rfl, trivial⟩ ?_
            exact tX13_goesOn_257  hf
          · rw [if_neg c] at hf
            refine V.iload_n (q := 252) rfl dX13_goesOn_251 rfl rfl ?_
            refine V.bipush (q := 254) (v := 44) (by decide) dX13_goesOn_252 rfl ?_
            refine V.icmp_ne (q := 257) (tgt := 282) dX13_goesOn_254 rfl (by decide) (fun c => ?_) (fun c => ?_)
            · rw [if_neg c] at hf
              cases hf
              exact V.ret (r := none) trivial dX13_goesOn_282
            · rw [if_pos c] at hf
              refine V.forget (L' := [.ref a0, .int v7, Jk]) ⟨Or.inr rfl, Or.inr rfl, Or.inl rfl, trivial⟩ ?_
              exact tX13_goesOn_257  hf
        · rw [if_neg c] at hf
          refine V.aload_n (q := 170) rfl dX13_goesOn_169 rfl rfl ?_
          refine V.iconst (q := 171) (v := 0) (by decide) dX13_goesOn_170 rfl ?_
          obtain ⟨h7, eh7, hf⟩ := bd_ex hf
          refine V.putI (q := 174) (fpX13_103 rfl) rfl eh7 dX13_goesOn_171 rfl ?_
          refine V.forget (L' := [.ref a0, Jk, .int 0]) ⟨Or.inr rfl, Or.inl rfl, Or.inr rfl, trivial⟩ ?_
          exact tlX13_goesOn_174  FU _ _ _ hf
      · rw [if_neg c] at hf
        refine V.aload_n (q := 81) rfl dX13_goesOn_80 rfl rfl ?_
        refine V.lconst (q := 82) (v := 0) (by decide) dX13_goesOn_81 rfl ?_
        obtain ⟨h6, eh6, hf⟩ := bd_ex hf
        refine V.putJ (q := 85) (fpX13_96 rfl) rfl eh6 dX13_goesOn_82 rfl ?_
        refine V.forget (L' := [.ref a0, Jk, .int 0]) ⟨Or.inr rfl, Or.inl rfl, Or.inr rfl, trivial⟩ ?_
        exact tlX13_goesOn_85  FU _ _ _ hf
    · rw [if_pos c] at hf
      refine V.aload_n (q := 66) rfl dX13_goesOn_65 rfl rfl ?_
      refine V.iconst (q := 67) (v := 1) (by decide) dX13_goesOn_66 rfl ?_
      obtain ⟨h5, eh5, hf⟩ := bd_ex hf
      refine V.putI (q := 70) (fpX13_80 rfl) rfl eh5 dX13_goesOn_67 rfl ?_
      refine V.goto (q := 282) dX13_goesOn_70 (by decide) ?_
      cases hf
      exact V.ret (r := none) trivial dX13_goesOn_282
  · rw [if_pos c] at hf
    refine V.aload_n (q := 24) rfl dX13_goesOn_23 rfl rfl ?_
    refine V.dupR (q := 25) dX13_goesOn_24 rfl ?_
    obtain ⟨v4, ev4, hf⟩ := bd_ex hf
    refine V.getI (q := 28) flX13_83 rfl ev4 dX13_goesOn_25 rfl ?_
    refine V.iconst (q := 29) (v := 1) (by decide) dX13_goesOn_28 rfl ?_
    refine V.iadd (q := 30) dX13_goesOn_29 rfl ?_
    obtain ⟨h2, eh2, hf⟩ := bd_ex hf
    refine V.putI (q := 33) (fpX13_83 rfl) rfl eh2 dX13_goesOn_30 rfl ?_
    refine V.goto (q := 10) dX13_goesOn_33 (by decide) ?_
    exact hk10 _ _ hf
def fX13_goesOn_10  : Nat → MH → Nat → Option (MH)
  | 0 => fun _ _ => none
  | n + 1 => bX13_goesOn_10  (fX13_goesOn_10  n)
theorem tlX13_goesOn_10 {h' : MH}   : ∀ (n : Nat) (h : MH) (a0 : Nat), fX13_goesOn_10  n h a0 = some h' → V TT mX13_goesOn 1 none h' h 10 [.ref a0, Jk, Jk] [] := by
  intro n
  induction n with
  | zero => intro h a0 hf; exact nomatch (show (none : Option (MH)) = some h' from hf)
  | succ n ih => intro h a0 hf; exact tX13_goesOn_10  (fX13_goesOn_10  n) ih hf
def fX13_goesOn (h : MH) (a0 : Nat) : Option (MH) := bd (gI h a0 13 9) fun v1 => if v1 = 6 then (some h) else (fX13_goesOn_10 FU h a0)
set_option maxRecDepth 20000 in
theorem tX13_goesOn {h' : MH} {h : MH} {a0 : Nat} (hf : fX13_goesOn h a0 = some h') : VM mX13_goesOn 1 none h' h [.ref a0] := by
  show V TT mX13_goesOn 1 _ h' h 0 [.ref a0, Jk, Jk] []
  unfold fX13_goesOn at hf
  refine V.aload_n (q := 1) rfl dX13_goesOn_0 rfl rfl ?_
  obtain ⟨v1, ev1, hf⟩ := bd_ex hf
  refine V.getI (q := 4) flX13_80 rfl ev1 dX13_goesOn_1 rfl ?_
  refine V.bipush (q := 6) (v := 6) (by decide) dX13_goesOn_4 rfl ?_
  refine V.icmp_ne (q := 9) (tgt := 10) dX13_goesOn_6 rfl (by decide) (fun c => ?_) (fun c => ?_)
  · rw [if_neg c] at hf
    exact tlX13_goesOn_10  FU _ _ hf
  · rw [if_pos c] at hf
    cases hf
    exact V.ret (r := none) trivial dX13_goesOn_9
def bX13_eats_13  (h : MH) (a0 : Nat) (xs0 : Int32) : Option (Int32 × MH) := if xs0 = 0 then (rB xs0 h) else (bd (ck h a0 13) fun _ => bd (fX13_goesOn h a0 ) fun h1 => rB xs0 h1)
set_option maxRecDepth 20000 in
theorem tX13_eats_13 {r : Int32} {h' : MH}   {h : MH} {a0 : Nat} {xs0 : Int32} (hf : bX13_eats_13  h a0 xs0 = some (r, h')) : V TT mX13_eats 2 (some (.int r)) h' h 13 [.ref a0, Jk, Jk] [.int xs0] := by
  unfold bX13_eats_13 at hf
  refine V.istore_n (q := 14) (L' := [.ref a0, Jk, .int xs0]) rfl dX13_eats_13 rfl (by decide) rfl rfl ?_
  refine V.iload_n (q := 15) rfl dX13_eats_14 rfl rfl ?_
  refine V.if_eq (q := 18) (tgt := 22) dX13_eats_15 rfl (by decide) (fun c => ?_) (fun c => ?_)
  · rw [if_pos c] at hf
    refine V.iload_n (q := 23) rfl dX13_eats_22 rfl rfl ?_
    obtain ⟨hb, rfl, rfl⟩ := rB_inj hf
    exact V.ret (r := some (.int xs0)) hb dX13_eats_23
  · rw [if_neg c] at hf
    refine V.aload_n (q := 19) rfl dX13_eats_18 rfl rfl ?_
    obtain ⟨_, e1, hf⟩ := bd_ex hf
    obtain ⟨h1, eh1, hf⟩ := bd_ex hf
    refine V.callV (q := 22) (ci := 13) (vs := []) (st := []) (S2 := []) okX13_goesOn imX13_goesOn seX13_goesOn rfl lkX13_116 (tX13_goesOn eh1) rfl (ck_is e1) (by decide) rfl (Nat.le_of_ble_eq_true rfl) (Nat.le_of_ble_eq_true rfl) rfl dX13_eats_19 rfl rfl ?_
    refine V.iload_n (q := 23) rfl dX13_eats_22 rfl rfl ?_
    obtain ⟨hb, rfl, rfl⟩ := rB_inj hf
    exact V.ret (r := some (.int xs0)) hb dX13_eats_23
def fX13_eats (h : MH) (a0 : Nat) (x1 : Int32) : Option (Int32 × MH) := bd (gI h a0 13 9) fun v1 => if v1 = x1 then (bX13_eats_13 h a0 1) else (bX13_eats_13 h a0 0)
set_option maxRecDepth 20000 in
theorem tX13_eats {r : Int32} {h' : MH} {h : MH} {a0 : Nat} {x1 : Int32} (hf : fX13_eats h a0 x1 = some (r, h')) : VM mX13_eats 2 (some (.int r)) h' h [.ref a0, .int x1] := by
  show V TT mX13_eats 2 _ h' h 0 [.ref a0, .int x1, Jk] []
  unfold fX13_eats at hf
  refine V.aload_n (q := 1) rfl dX13_eats_0 rfl rfl ?_
  obtain ⟨v1, ev1, hf⟩ := bd_ex hf
  refine V.getI (q := 4) flX13_80 rfl ev1 dX13_eats_1 rfl ?_
  refine V.iload_n (q := 5) rfl dX13_eats_4 rfl rfl ?_
  refine V.icmp_ne (q := 8) (tgt := 12) dX13_eats_5 rfl (by decide) (fun c => ?_) (fun c => ?_)
  · rw [if_neg c] at hf
    refine V.iconst (q := 13) (v := 0) (by decide) dX13_eats_12 rfl ?_
    refine V.forget (L' := [.ref a0, Jk, Jk]) ⟨Or.inr rfl, Or.inl rfl, Or.inl rfl, trivial⟩ ?_
    exact tX13_eats_13  hf
  · rw [if_pos c] at hf
    refine V.iconst (q := 9) (v := 1) (by decide) dX13_eats_8 rfl ?_
    refine V.goto (q := 13) dX13_eats_9 (by decide) ?_
    refine V.forget (L' := [.ref a0, Jk, Jk]) ⟨Or.inr rfl, Or.inl rfl, Or.inl rfl, trivial⟩ ?_
    exact tX13_eats_13  hf
def bX13_even_38 (k24 : MH → Nat → Int32 → Int32 → Option (Int32 × MH)) (k38 : MH → Nat → Int32 → Int32 → Int32 → Option (Int32 × MH)) (h : MH) (a0 : Nat) (x2 : Int32) (x3 : Int32) (x4 : Int32) : Option (Int32 × MH) := bd (gR h a0 13 3) fun b1 => bd (gI h b1 12 2) fun v2 => if v2 ≤ x4 then (bd (some (x3 + 1)) fun v3 => k24 h a0 x2 v3) else (bd (ck h a0 13) fun _ => bd2 (fX13_hasBy h a0 x3 x4) fun v4 h1 => bd (ck h1 a0 13) fun _ => bd2 (fX13_hasLeast h1 a0 x4) fun v6 h2 => if v4 = v6 then (bd (ck h2 a0 13) fun _ => bd2 (fX13_hasBy h2 a0 x3 x4) fun v8 h3 => bd (ck h3 a0 13) fun _ => bd2 (fX13_givesMost h3 a0 x3) fun v10 h4 => if v8 = v10 then (bd (some (x2 + 1)) fun v11 => bd (some (x4 + 1)) fun v12 => k38 h4 a0 v11 x3 v12) else (bd (some (x2 + 0)) fun v11 => bd (some (x4 + 1)) fun v12 => k38 h4 a0 v11 x3 v12)) else (bd (some (x2 + 0)) fun v7 => bd (some (x4 + 1)) fun v8 => k38 h2 a0 v7 x3 v8))
set_option maxRecDepth 20000 in
theorem tX13_even_38 {r : Int32} {h' : MH} (k24 : MH → Nat → Int32 → Int32 → Option (Int32 × MH)) (hk24 : ∀ (h : MH) (a0 : Nat) (x2 : Int32) (x3 : Int32), k24 h a0 x2 x3 = some (r, h') → V TT mX13_even 6 (some (.int r)) h' h 24 [.ref a0, Jk, .int x2, .int x3, Jk] []) (k38 : MH → Nat → Int32 → Int32 → Int32 → Option (Int32 × MH)) (hk38 : ∀ (h : MH) (a0 : Nat) (x2 : Int32) (x3 : Int32) (x4 : Int32), k38 h a0 x2 x3 x4 = some (r, h') → V TT mX13_even 6 (some (.int r)) h' h 38 [.ref a0, Jk, .int x2, .int x3, .int x4] [])  {h : MH} {a0 : Nat} {x2 : Int32} {x3 : Int32} {x4 : Int32} (hf : bX13_even_38 k24 k38 h a0 x2 x3 x4 = some (r, h')) : V TT mX13_even 6 (some (.int r)) h' h 38 [.ref a0, Jk, .int x2, .int x3, .int x4] [] := by
  unfold bX13_even_38 at hf
  refine V.iload (q := 40) dX13_even_38 rfl rfl ?_
  refine V.aload_n (q := 41) rfl dX13_even_40 rfl rfl ?_
  obtain ⟨b1, eb1, hf⟩ := bd_ex hf
  refine V.getR (q := 44) flX13_338 rfl eb1 dX13_even_41 rfl ?_
  obtain ⟨v2, ev2, hf⟩ := bd_ex hf
  refine V.getI (q := 47) flX13_206 rfl ev2 dX13_even_44 rfl ?_
  refine V.icmp_ge (q := 50) (tgt := 95) dX13_even_47 rfl (by decide) (fun c => ?_) (fun c => ?_)
  · rw [if_pos c] at hf
    obtain ⟨v3, ev3, hf⟩ := bd_ex hf
    refine V.iinc (q := 98) (v := v3) (L' := [.ref a0, Jk, .int x2, .int v3, .int x4]) dX13_even_95 rfl rfl (Option.some.inj ev3) (by decide) rfl rfl ?_
    refine V.goto (q := 24) dX13_even_98 (by decide) ?_
    refine V.forget (L' := [.ref a0, Jk, .int x2, .int v3, Jk]) ⟨Or.inr rfl, Or.inl rfl, Or.inr rfl, Or.inr rfl, Or.inl rfl, trivial⟩ ?_
    exact hk24 _ _ _ _ hf
  · rw [if_neg c] at hf
    refine V.iload_n (q := 51) rfl dX13_even_50 rfl rfl ?_
    refine V.aload_n (q := 52) rfl dX13_even_51 rfl rfl ?_
    refine V.iload_n (q := 53) rfl dX13_even_52 rfl rfl ?_
    refine V.iload (q := 55) dX13_even_53 rfl rfl ?_
    obtain ⟨_, e3, hf⟩ := bd_ex hf
    obtain ⟨v4, h1, eh1, hf⟩ := bd2_ex hf
    refine V.callV (q := 58) (ci := 13) (vs := [.int x3, .int x4]) (st := [.int x2]) (S2 := [.int v4, .int x2]) okX13_hasBy imX13_hasBy seX13_hasBy rfl lkX13_447 (tX13_hasBy eh1) rfl (ck_is e3) (by decide) rfl (Nat.le_of_ble_eq_true rfl) (Nat.le_of_ble_eq_true rfl) rfl dX13_even_55 rfl rfl ?_
    refine V.aload_n (q := 59) rfl dX13_even_58 rfl rfl ?_
    refine V.iload (q := 61) dX13_even_59 rfl rfl ?_
    obtain ⟨_, e5, hf⟩ := bd_ex hf
    obtain ⟨v6, h2, eh2, hf⟩ := bd2_ex hf
    refine V.callV (q := 64) (ci := 13) (vs := [.int x4]) (st := [.int v4, .int x2]) (S2 := [.int v6, .int v4, .int x2]) okX13_hasLeast imX13_hasLeast seX13_hasLeast rfl lkX13_459 (tX13_hasLeast eh2) rfl (ck_is e5) (by decide) rfl (Nat.le_of_ble_eq_true rfl) (Nat.le_of_ble_eq_true rfl) rfl dX13_even_61 rfl rfl ?_
    refine V.icmp_ne (q := 67) (tgt := 86) dX13_even_64 rfl (by decide) (fun c => ?_) (fun c => ?_)
    · rw [if_neg c] at hf
      refine V.iconst (q := 87) (v := 0) (by decide) dX13_even_86 rfl ?_
      refine V.iadd (q := 88) dX13_even_87 rfl ?_
      obtain ⟨v7, ev7, hf⟩ := bd_ex hf
      refine V.topI (Option.some.inj ev7) ?_
      refine V.istore_n (q := 89) (L' := [.ref a0, Jk, .int v7, .int x3, .int x4]) rfl dX13_even_88 rfl (by decide) rfl rfl ?_
      obtain ⟨v8, ev8, hf⟩ := bd_ex hf
      refine V.iinc (q := 92) (v := v8) (L' := [.ref a0, Jk, .int v7, .int x3, .int v8]) dX13_even_89 rfl rfl (Option.some.inj ev8) (by decide) rfl rfl ?_
      refine V.goto (q := 38) dX13_even_92 (by decide) ?_
      exact hk38 _ _ _ _ _ hf
    · rw [if_pos c] at hf
      refine V.aload_n (q := 68) rfl dX13_even_67 rfl rfl ?_
      refine V.iload_n (q := 69) rfl dX13_even_68 rfl rfl ?_
      refine V.iload (q := 71) dX13_even_69 rfl rfl ?_
      obtain ⟨_, e7, hf⟩ := bd_ex hf
      obtain ⟨v8, h3, eh3, hf⟩ := bd2_ex hf
      refine V.callV (q := 74) (ci := 13) (vs := [.int x3, .int x4]) (st := [.int x2]) (S2 := [.int v8, .int x2]) okX13_hasBy imX13_hasBy seX13_hasBy rfl lkX13_447 (tX13_hasBy eh3) rfl (ck_is e7) (by decide) rfl (Nat.le_of_ble_eq_true rfl) (Nat.le_of_ble_eq_true rfl) rfl dX13_even_71 rfl rfl ?_
      refine V.aload_n (q := 75) rfl dX13_even_74 rfl rfl ?_
      refine V.iload_n (q := 76) rfl dX13_even_75 rfl rfl ?_
      obtain ⟨_, e9, hf⟩ := bd_ex hf
      obtain ⟨v10, h4, eh4, hf⟩ := bd2_ex hf
      refine V.callV (q := 79) (ci := 13) (vs := [.int x3]) (st := [.int v8, .int x2]) (S2 := [.int v10, .int v8, .int x2]) okX13_givesMost imX13_givesMost seX13_givesMost rfl lkX13_450 (tX13_givesMost eh4) rfl (ck_is e9) (by decide) rfl (Nat.le_of_ble_eq_true rfl) (Nat.le_of_ble_eq_true rfl) rfl dX13_even_76 rfl rfl ?_
      refine V.icmp_ne (q := 82) (tgt := 86) dX13_even_79 rfl (by decide) (fun c => ?_) (fun c => ?_)
      · rw [if_neg c] at hf
        refine V.iconst (q := 87) (v := 0) (by decide) dX13_even_86 rfl ?_
        refine V.iadd (q := 88) dX13_even_87 rfl ?_
        obtain ⟨v11, ev11, hf⟩ := bd_ex hf
        refine V.topI (Option.some.inj ev11) ?_
        refine V.istore_n (q := 89) (L' := [.ref a0, Jk, .int v11, .int x3, .int x4]) rfl dX13_even_88 rfl (by decide) rfl rfl ?_
        obtain ⟨v12, ev12, hf⟩ := bd_ex hf
        refine V.iinc (q := 92) (v := v12) (L' := [.ref a0, Jk, .int v11, .int x3, .int v12]) dX13_even_89 rfl rfl (Option.some.inj ev12) (by decide) rfl rfl ?_
        refine V.goto (q := 38) dX13_even_92 (by decide) ?_
        exact hk38 _ _ _ _ _ hf
      · rw [if_pos c] at hf
        refine V.iconst (q := 83) (v := 1) (by decide) dX13_even_82 rfl ?_
        refine V.goto (q := 87) dX13_even_83 (by decide) ?_
        refine V.iadd (q := 88) dX13_even_87 rfl ?_
        obtain ⟨v11, ev11, hf⟩ := bd_ex hf
        refine V.topI (Option.some.inj ev11) ?_
        refine V.istore_n (q := 89) (L' := [.ref a0, Jk, .int v11, .int x3, .int x4]) rfl dX13_even_88 rfl (by decide) rfl rfl ?_
        obtain ⟨v12, ev12, hf⟩ := bd_ex hf
        refine V.iinc (q := 92) (v := v12) (L' := [.ref a0, Jk, .int v11, .int x3, .int v12]) dX13_even_89 rfl rfl (Option.some.inj ev12) (by decide) rfl rfl ?_
        refine V.goto (q := 38) dX13_even_92 (by decide) ?_
        exact hk38 _ _ _ _ _ hf
def fX13_even_38 (k24 : MH → Nat → Int32 → Int32 → Option (Int32 × MH)) : Nat → MH → Nat → Int32 → Int32 → Int32 → Option (Int32 × MH)
  | 0 => fun _ _ _ _ _ => none
  | n + 1 => bX13_even_38 k24 (fX13_even_38 k24 n)
theorem tlX13_even_38 {r : Int32} {h' : MH} (k24 : MH → Nat → Int32 → Int32 → Option (Int32 × MH)) (hk24 : ∀ (h : MH) (a0 : Nat) (x2 : Int32) (x3 : Int32), k24 h a0 x2 x3 = some (r, h') → V TT mX13_even 6 (some (.int r)) h' h 24 [.ref a0, Jk, .int x2, .int x3, Jk] [])  : ∀ (n : Nat) (h : MH) (a0 : Nat) (x2 : Int32) (x3 : Int32) (x4 : Int32), fX13_even_38 k24 n h a0 x2 x3 x4 = some (r, h') → V TT mX13_even 6 (some (.int r)) h' h 38 [.ref a0, Jk, .int x2, .int x3, .int x4] [] := by
  intro n
  induction n with
  | zero => intro h a0 x2 x3 x4 hf; exact nomatch (show (none : Option (Int32 × MH)) = some (r, h') from hf)
  | succ n ih => intro h a0 x2 x3 x4 hf; exact tX13_even_38 k24 hk24 (fX13_even_38 k24 n) ih hf
def bX13_even_24 (k24 : MH → Nat → Int32 → Int32 → Option (Int32 × MH)) (h : MH) (a0 : Nat) (x2 : Int32) (x3 : Int32) : Option (Int32 × MH) := bd (gR h a0 13 3) fun b1 => bd (gI h b1 12 3) fun v2 => if v2 ≤ x3 then (bd (ck h a0 13) fun _ => bd2 (fX13_good1 h a0 x2) fun v4 h1 => some (v4, h1)) else (fX13_even_38 k24 FU h a0 x2 x3 0)
set_option maxRecDepth 20000 in
theorem tX13_even_24 {r : Int32} {h' : MH} (k24 : MH → Nat → Int32 → Int32 → Option (Int32 × MH)) (hk24 : ∀ (h : MH) (a0 : Nat) (x2 : Int32) (x3 : Int32), k24 h a0 x2 x3 = some (r, h') → V TT mX13_even 6 (some (.int r)) h' h 24 [.ref a0, Jk, .int x2, .int x3, Jk] [])  {h : MH} {a0 : Nat} {x2 : Int32} {x3 : Int32} (hf : bX13_even_24 k24 h a0 x2 x3 = some (r, h')) : V TT mX13_even 6 (some (.int r)) h' h 24 [.ref a0, Jk, .int x2, .int x3, Jk] [] := by
  unfold bX13_even_24 at hf
  refine V.iload_n (q := 25) rfl dX13_even_24 rfl rfl ?_
  refine V.aload_n (q := 26) rfl dX13_even_25 rfl rfl ?_
  obtain ⟨b1, eb1, hf⟩ := bd_ex hf
  refine V.getR (q := 29) flX13_338 rfl eb1 dX13_even_26 rfl ?_
  obtain ⟨v2, ev2, hf⟩ := bd_ex hf
  refine V.getI (q := 32) flX13_262 rfl ev2 dX13_even_29 rfl ?_
  refine V.icmp_ge (q := 35) (tgt := 101) dX13_even_32 rfl (by decide) (fun c => ?_) (fun c => ?_)
  · rw [if_pos c] at hf
    refine V.aload_n (q := 102) rfl dX13_even_101 rfl rfl ?_
    refine V.iload_n (q := 103) rfl dX13_even_102 rfl rfl ?_
    obtain ⟨_, e3, hf⟩ := bd_ex hf
    obtain ⟨v4, h1, eh1, hf⟩ := bd2_ex hf
    refine V.callV (q := 106) (ci := 13) (vs := [.int x2]) (st := []) (S2 := [.int v4]) okX13_good1 imX13_good1 seX13_good1 rfl lkX13_58 (tX13_good1 eh1) rfl (ck_is e3) (by decide) rfl (Nat.le_of_ble_eq_true rfl) (Nat.le_of_ble_eq_true rfl) rfl dX13_even_103 rfl rfl ?_
    obtain ⟨rfl, rfl⟩ := ret_inj hf
    exact V.ret (r := some (.int v4)) trivial dX13_even_106
  · rw [if_neg c] at hf
    refine V.iconst (q := 36) (v := 0) (by decide) dX13_even_35 rfl ?_
    refine V.istore (q := 38) (L' := [.ref a0, Jk, .int x2, .int x3, .int 0]) dX13_even_36 rfl (by decide) rfl rfl ?_
    exact tlX13_even_38 k24 hk24 FU _ _ _ _ _ hf
def fX13_even_24  : Nat → MH → Nat → Int32 → Int32 → Option (Int32 × MH)
  | 0 => fun _ _ _ _ => none
  | n + 1 => bX13_even_24  (fX13_even_24  n)
theorem tlX13_even_24 {r : Int32} {h' : MH}   : ∀ (n : Nat) (h : MH) (a0 : Nat) (x2 : Int32) (x3 : Int32), fX13_even_24  n h a0 x2 x3 = some (r, h') → V TT mX13_even 6 (some (.int r)) h' h 24 [.ref a0, Jk, .int x2, .int x3, Jk] [] := by
  intro n
  induction n with
  | zero => intro h a0 x2 x3 hf; exact nomatch (show (none : Option (Int32 × MH)) = some (r, h') from hf)
  | succ n ih => intro h a0 x2 x3 hf; exact tX13_even_24  (fX13_even_24  n) ih hf
def fX13_even (h : MH) (a0 : Nat) : Option (Int32 × MH) := bd (pI h a0 13 0 0) fun h1 => bd (ck h1 a0 13) fun _ => bd2 (fX13_refusesGame h1 a0 ) fun v2 h2 => if v2 ≤ 0 then (fX13_even_24 FU h2 a0 0 0) else (bd (ck h2 a0 13) fun _ => bd2 (fX13_refused h2 a0 v2) fun v4 h3 => some (v4, h3))
set_option maxRecDepth 20000 in
theorem tX13_even {r : Int32} {h' : MH} {h : MH} {a0 : Nat} (hf : fX13_even h a0 = some (r, h')) : VM mX13_even 6 (some (.int r)) h' h [.ref a0] := by
  show V TT mX13_even 6 _ h' h 0 [.ref a0, Jk, Jk, Jk, Jk] []
  unfold fX13_even at hf
  refine V.aload_n (q := 1) rfl dX13_even_0 rfl rfl ?_
  refine V.iconst (q := 2) (v := 0) (by decide) dX13_even_1 rfl ?_
  obtain ⟨h1, eh1, hf⟩ := bd_ex hf
  refine V.putI (q := 5) (fpX13_48 rfl) rfl eh1 dX13_even_2 rfl ?_
  refine V.aload_n (q := 6) rfl dX13_even_5 rfl rfl ?_
  obtain ⟨_, e1, hf⟩ := bd_ex hf
  obtain ⟨v2, h2, eh2, hf⟩ := bd2_ex hf
  refine V.callV (q := 9) (ci := 13) (vs := []) (st := []) (S2 := [.int v2]) okX13_refusesGame imX13_refusesGame seX13_refusesGame rfl lkX13_453 (tX13_refusesGame eh2) rfl (ck_is e1) (by decide) rfl (Nat.le_of_ble_eq_true rfl) (Nat.le_of_ble_eq_true rfl) rfl dX13_even_6 rfl rfl ?_
  refine V.istore_n (q := 10) (L' := [.ref a0, .int v2, Jk, Jk, Jk]) rfl dX13_even_9 rfl (by decide) rfl rfl ?_
  refine V.iload_n (q := 11) rfl dX13_even_10 rfl rfl ?_
  refine V.if_le (q := 14) (tgt := 20) dX13_even_11 rfl (by decide) (fun c => ?_) (fun c => ?_)
  · rw [if_pos c] at hf
    refine V.iconst (q := 21) (v := 0) (by decide) dX13_even_20 rfl ?_
    refine V.istore_n (q := 22) (L' := [.ref a0, .int v2, .int 0, Jk, Jk]) rfl dX13_even_21 rfl (by decide) rfl rfl ?_
    refine V.iconst (q := 23) (v := 0) (by decide) dX13_even_22 rfl ?_
    refine V.istore_n (q := 24) (L' := [.ref a0, .int v2, .int 0, .int 0, Jk]) rfl dX13_even_23 rfl (by decide) rfl rfl ?_
    refine V.forget (L' := [.ref a0, Jk, .int 0, .int 0, Jk]) ⟨Or.inr rfl, Or.inl rfl, Or.inr rfl, Or.inr rfl, Or.inl rfl, trivial⟩ ?_
    exact tlX13_even_24  FU _ _ _ _ hf
  · rw [if_neg c] at hf
    refine V.aload_n (q := 15) rfl dX13_even_14 rfl rfl ?_
    refine V.iload_n (q := 16) rfl dX13_even_15 rfl rfl ?_
    obtain ⟨_, e3, hf⟩ := bd_ex hf
    obtain ⟨v4, h3, eh3, hf⟩ := bd2_ex hf
    refine V.callV (q := 19) (ci := 13) (vs := [.int v2]) (st := []) (S2 := [.int v4]) okX13_refused imX13_refused seX13_refused rfl lkX13_54 (tX13_refused eh3) rfl (ck_is e3) (by decide) rfl (Nat.le_of_ble_eq_true rfl) (Nat.le_of_ble_eq_true rfl) rfl dX13_even_16 rfl rfl ?_
    obtain ⟨rfl, rfl⟩ := ret_inj hf
    exact V.ret (r := some (.int v4)) trivial dX13_even_19
def fX13_fault (h : MH) (a0 : Nat) : Option (Int32 × MH) := bd (pI h a0 13 0 0) fun h1 => bd (gI h1 a0 13 12) fun v1 => some (v1, h1)
set_option maxRecDepth 20000 in
theorem tX13_fault {r : Int32} {h' : MH} {h : MH} {a0 : Nat} (hf : fX13_fault h a0 = some (r, h')) : VM mX13_fault 0 (some (.int r)) h' h [.ref a0] := by
  show V TT mX13_fault 0 _ h' h 0 [.ref a0] []
  unfold fX13_fault at hf
  refine V.aload_n (q := 1) rfl dX13_fault_0 rfl rfl ?_
  refine V.iconst (q := 2) (v := 0) (by decide) dX13_fault_1 rfl ?_
  obtain ⟨h1, eh1, hf⟩ := bd_ex hf
  refine V.putI (q := 5) (fpX13_48 rfl) rfl eh1 dX13_fault_2 rfl ?_
  refine V.aload_n (q := 6) rfl dX13_fault_5 rfl rfl ?_
  obtain ⟨v1, ev1, hf⟩ := bd_ex hf
  refine V.getI (q := 9) flX13_106 rfl ev1 dX13_fault_6 rfl ?_
  obtain ⟨rfl, rfl⟩ := ret_inj hf
  exact V.ret (r := some (.int v1)) trivial dX13_fault_9
def bX13_feed_76 (k23 : MH → Nat → Int32 → Int32 → Int32 → Int32 → Int32 → Int32 → Option (Int32 × MH)) (h : MH) (a0 : Nat) (x1 : Int32) (x2 : Int32) (x3 : Int32) (x4 : Int32) (x5 : Int32) (x6 : Int32) (xs0 : Int32) : Option (Int32 × MH) := bd (gR h a0 13 5) fun b1 => bd (gI h a0 13 6) fun v2 => bd (nz 4) fun _ => bd (tB h b1 v2 (Int8.toInt32 (Int32.toInt8 (xs0 >>> ((24 - (8 * (x6 - x6 / 4 * 4))) &&& 31))))) fun h1 => bd (gI h1 a0 13 6) fun v4 => bd (pI h1 a0 13 6 (v4 + 1)) fun h2 => bd (some (x6 + 1)) fun v5 => k23 h2 a0 x1 x2 x3 x4 x5 v5
set_option maxRecDepth 20000 in
theorem tX13_feed_76 {r : Int32} {h' : MH} (k23 : MH → Nat → Int32 → Int32 → Int32 → Int32 → Int32 → Int32 → Option (Int32 × MH)) (hk23 : ∀ (h : MH) (a0 : Nat) (x1 : Int32) (x2 : Int32) (x3 : Int32) (x4 : Int32) (x5 : Int32) (x6 : Int32), k23 h a0 x1 x2 x3 x4 x5 x6 = some (r, h') → V TT mX13_feed 0 (some (.int r)) h' h 23 [.ref a0, .int x1, .int x2, .int x3, .int x4, .int x5, .int x6, Jk] [])  {h : MH} {a0 : Nat} {x1 : Int32} {x2 : Int32} {x3 : Int32} {x4 : Int32} {x5 : Int32} {x6 : Int32} {xs0 : Int32} (hf : bX13_feed_76 k23 h a0 x1 x2 x3 x4 x5 x6 xs0 = some (r, h')) : V TT mX13_feed 0 (some (.int r)) h' h 76 [.ref a0, .int x1, .int x2, .int x3, .int x4, .int x5, .int x6, Jk] [.int xs0] := by
  unfold bX13_feed_76 at hf
  refine V.istore (q := 78) (L' := [.ref a0, .int x1, .int x2, .int x3, .int x4, .int x5, .int x6, .int xs0]) dX13_feed_76 rfl (by decide) rfl rfl ?_
  refine V.aload_n (q := 79) rfl dX13_feed_78 rfl rfl ?_
  obtain ⟨b1, eb1, hf⟩ := bd_ex hf
  refine V.getR (q := 82) flX13_13 rfl eb1 dX13_feed_79 rfl ?_
  refine V.aload_n (q := 83) rfl dX13_feed_82 rfl rfl ?_
  obtain ⟨v2, ev2, hf⟩ := bd_ex hf
  refine V.getI (q := 86) flX13_331 rfl ev2 dX13_feed_83 rfl ?_
  refine V.iload (q := 88) dX13_feed_86 rfl rfl ?_
  refine V.bipush (q := 90) (v := 24) (by decide) dX13_feed_88 rfl ?_
  refine V.bipush (q := 92) (v := 8) (by decide) dX13_feed_90 rfl ?_
  refine V.iload (q := 94) dX13_feed_92 rfl rfl ?_
  refine V.iconst (q := 95) (v := 4) (by decide) dX13_feed_94 rfl ?_
  obtain ⟨_, e3, hf⟩ := bd_ex hf
  refine V.irem (q := 96) (nz_is e3) dX13_feed_95 rfl ?_
  refine V.imul (q := 97) dX13_feed_96 rfl ?_
  refine V.isub (q := 98) dX13_feed_97 rfl ?_
  refine V.ishr (q := 99) dX13_feed_98 rfl ?_
  refine V.i2b (q := 100) dX13_feed_99 rfl ?_
  obtain ⟨h1, eh1, hf⟩ := bd_ex hf
  refine V.bast (q := 101) eh1 dX13_feed_100 rfl ?_
  refine V.aload_n (q := 102) rfl dX13_feed_101 rfl rfl ?_
  refine V.dupR (q := 103) dX13_feed_102 rfl ?_
  obtain ⟨v4, ev4, hf⟩ := bd_ex hf
  refine V.getI (q := 106) flX13_331 rfl ev4 dX13_feed_103 rfl ?_
  refine V.iconst (q := 107) (v := 1) (by decide) dX13_feed_106 rfl ?_
  refine V.iadd (q := 108) dX13_feed_107 rfl ?_
  obtain ⟨h2, eh2, hf⟩ := bd_ex hf
  refine V.putI (q := 111) (fpX13_331 rfl) rfl eh2 dX13_feed_108 rfl ?_
  obtain ⟨v5, ev5, hf⟩ := bd_ex hf
  refine V.iinc (q := 114) (v := v5) (L' := [.ref a0, .int x1, .int x2, .int x3, .int x4, .int x5, .int v5, .int xs0]) dX13_feed_111 rfl rfl (Option.some.inj ev5) (by decide) rfl rfl ?_
  refine V.goto (q := 23) dX13_feed_114 (by decide) ?_
  refine V.forget (L' := [.ref a0, .int x1, .int x2, .int x3, .int x4, .int x5, .int v5, Jk]) ⟨Or.inr rfl, Or.inr rfl, Or.inr rfl, Or.inr rfl, Or.inr rfl, Or.inr rfl, Or.inr rfl, Or.inl rfl, trivial⟩ ?_
  exact hk23 _ _ _ _ _ _ _ _ hf
def bX13_feed_23 (k23 : MH → Nat → Int32 → Int32 → Int32 → Int32 → Int32 → Int32 → Option (Int32 × MH)) (h : MH) (a0 : Nat) (x1 : Int32) (x2 : Int32) (x3 : Int32) (x4 : Int32) (x5 : Int32) (x6 : Int32) : Option (Int32 × MH) := if 20 ≤ x6 then (bd (gI h a0 13 6) fun v1 => some (v1, h)) else (if 4 ≤ x6 then (if 8 ≤ x6 then (if 12 ≤ x6 then (if 16 ≤ x6 then (bX13_feed_76 k23 h a0 x1 x2 x3 x4 x5 x6 x5) else (bX13_feed_76 k23 h a0 x1 x2 x3 x4 x5 x6 x4)) else (bX13_feed_76 k23 h a0 x1 x2 x3 x4 x5 x6 x3)) else (bX13_feed_76 k23 h a0 x1 x2 x3 x4 x5 x6 x2)) else (bX13_feed_76 k23 h a0 x1 x2 x3 x4 x5 x6 x1))
set_option maxRecDepth 20000 in
theorem tX13_feed_23 {r : Int32} {h' : MH} (k23 : MH → Nat → Int32 → Int32 → Int32 → Int32 → Int32 → Int32 → Option (Int32 × MH)) (hk23 : ∀ (h : MH) (a0 : Nat) (x1 : Int32) (x2 : Int32) (x3 : Int32) (x4 : Int32) (x5 : Int32) (x6 : Int32), k23 h a0 x1 x2 x3 x4 x5 x6 = some (r, h') → V TT mX13_feed 0 (some (.int r)) h' h 23 [.ref a0, .int x1, .int x2, .int x3, .int x4, .int x5, .int x6, Jk] [])  {h : MH} {a0 : Nat} {x1 : Int32} {x2 : Int32} {x3 : Int32} {x4 : Int32} {x5 : Int32} {x6 : Int32} (hf : bX13_feed_23 k23 h a0 x1 x2 x3 x4 x5 x6 = some (r, h')) : V TT mX13_feed 0 (some (.int r)) h' h 23 [.ref a0, .int x1, .int x2, .int x3, .int x4, .int x5, .int x6, Jk] [] := by
  unfold bX13_feed_23 at hf
  refine V.iload (q := 25) dX13_feed_23 rfl rfl ?_
  refine V.bipush (q := 27) (v := 20) (by decide) dX13_feed_25 rfl ?_
  refine V.icmp_ge (q := 30) (tgt := 117) dX13_feed_27 rfl (by decide) (fun c => ?_) (fun c => ?_)
  · rw [if_pos c] at hf
    refine V.aload_n (q := 118) rfl dX13_feed_117 rfl rfl ?_
    obtain ⟨v1, ev1, hf⟩ := bd_ex hf
    refine V.getI (q := 121) flX13_331 rfl ev1 dX13_feed_118 rfl ?_
    obtain ⟨rfl, rfl⟩ := ret_inj hf
    exact V.ret (r := some (.int v1)) trivial dX13_feed_121
  · rw [if_neg c] at hf
    refine V.iload (q := 32) dX13_feed_30 rfl rfl ?_
    refine V.iconst (q := 33) (v := 4) (by decide) dX13_feed_32 rfl ?_
    refine V.icmp_ge (q := 36) (tgt := 40) dX13_feed_33 rfl (by decide) (fun c => ?_) (fun c => ?_)
    · rw [if_pos c] at hf
      refine V.iload (q := 42) dX13_feed_40 rfl rfl ?_
      refine V.bipush (q := 44) (v := 8) (by decide) dX13_feed_42 rfl ?_
      refine V.icmp_ge (q := 47) (tgt := 51) dX13_feed_44 rfl (by decide) (fun c => ?_) (fun c => ?_)
      · rw [if_pos c] at hf
        refine V.iload (q := 53) dX13_feed_51 rfl rfl ?_
        refine V.bipush (q := 55) (v := 12) (by decide) dX13_feed_53 rfl ?_
        refine V.icmp_ge (q := 58) (tgt := 62) dX13_feed_55 rfl (by decide) (fun c => ?_) (fun c => ?_)
        · rw [if_pos c] at hf
          refine V.iload (q := 64) dX13_feed_62 rfl rfl ?_
          refine V.bipush (q := 66) (v := 16) (by decide) dX13_feed_64 rfl ?_
          refine V.icmp_ge (q := 69) (tgt := 74) dX13_feed_66 rfl (by decide) (fun c => ?_) (fun c => ?_)
          · rw [if_pos c] at hf
            refine V.iload (q := 76) dX13_feed_74 rfl rfl ?_
            exact tX13_feed_76 k23 hk23 hf
          · rw [if_neg c] at hf
            refine V.iload (q := 71) dX13_feed_69 rfl rfl ?_
            refine V.goto (q := 76) dX13_feed_71 (by decide) ?_
            exact tX13_feed_76 k23 hk23 hf
        · rw [if_neg c] at hf
          refine V.iload_n (q := 59) rfl dX13_feed_58 rfl rfl ?_
          refine V.goto (q := 76) dX13_feed_59 (by decide) ?_
          exact tX13_feed_76 k23 hk23 hf
      · rw [if_neg c] at hf
        refine V.iload_n (q := 48) rfl dX13_feed_47 rfl rfl ?_
        refine V.goto (q := 76) dX13_feed_48 (by decide) ?_
        exact tX13_feed_76 k23 hk23 hf
    · rw [if_neg c] at hf
      refine V.iload_n (q := 37) rfl dX13_feed_36 rfl rfl ?_
      refine V.goto (q := 76) dX13_feed_37 (by decide) ?_
      exact tX13_feed_76 k23 hk23 hf
def fX13_feed_23  : Nat → MH → Nat → Int32 → Int32 → Int32 → Int32 → Int32 → Int32 → Option (Int32 × MH)
  | 0 => fun _ _ _ _ _ _ _ _ => none
  | n + 1 => bX13_feed_23  (fX13_feed_23  n)
theorem tlX13_feed_23 {r : Int32} {h' : MH}   : ∀ (n : Nat) (h : MH) (a0 : Nat) (x1 : Int32) (x2 : Int32) (x3 : Int32) (x4 : Int32) (x5 : Int32) (x6 : Int32), fX13_feed_23  n h a0 x1 x2 x3 x4 x5 x6 = some (r, h') → V TT mX13_feed 0 (some (.int r)) h' h 23 [.ref a0, .int x1, .int x2, .int x3, .int x4, .int x5, .int x6, Jk] [] := by
  intro n
  induction n with
  | zero => intro h a0 x1 x2 x3 x4 x5 x6 hf; exact nomatch (show (none : Option (Int32 × MH)) = some (r, h') from hf)
  | succ n ih => intro h a0 x1 x2 x3 x4 x5 x6 hf; exact tX13_feed_23  (fX13_feed_23  n) ih hf
def fX13_feed (h : MH) (a0 : Nat) (x1 : Int32) (x2 : Int32) (x3 : Int32) (x4 : Int32) (x5 : Int32) : Option (Int32 × MH) := bd (pI h a0 13 0 0) fun h1 => bd (gI h1 a0 13 6) fun v1 => if (v1 + 20) ≤ 900 then (fX13_feed_23 FU h1 a0 x1 x2 x3 x4 x5 0) else (some ((-1), h1))
set_option maxRecDepth 20000 in
theorem tX13_feed {r : Int32} {h' : MH} {h : MH} {a0 : Nat} {x1 : Int32} {x2 : Int32} {x3 : Int32} {x4 : Int32} {x5 : Int32} (hf : fX13_feed h a0 x1 x2 x3 x4 x5 = some (r, h')) : VM mX13_feed 0 (some (.int r)) h' h [.ref a0, .int x1, .int x2, .int x3, .int x4, .int x5] := by
  show V TT mX13_feed 0 _ h' h 0 [.ref a0, .int x1, .int x2, .int x3, .int x4, .int x5, Jk, Jk] []
  unfold fX13_feed at hf
  refine V.aload_n (q := 1) rfl dX13_feed_0 rfl rfl ?_
  refine V.iconst (q := 2) (v := 0) (by decide) dX13_feed_1 rfl ?_
  obtain ⟨h1, eh1, hf⟩ := bd_ex hf
  refine V.putI (q := 5) (fpX13_48 rfl) rfl eh1 dX13_feed_2 rfl ?_
  refine V.aload_n (q := 6) rfl dX13_feed_5 rfl rfl ?_
  obtain ⟨v1, ev1, hf⟩ := bd_ex hf
  refine V.getI (q := 9) flX13_331 rfl ev1 dX13_feed_6 rfl ?_
  refine V.bipush (q := 11) (v := 20) (by decide) dX13_feed_9 rfl ?_
  refine V.iadd (q := 12) dX13_feed_11 rfl ?_
  refine V.sipush (q := 15) (v := 900) (by decide) dX13_feed_12 rfl ?_
  refine V.icmp_le (q := 18) (tgt := 20) dX13_feed_15 rfl (by decide) (fun c => ?_) (fun c => ?_)
  · rw [if_pos c] at hf
    refine V.iconst (q := 21) (v := 0) (by decide) dX13_feed_20 rfl ?_
    refine V.istore (q := 23) (L' := [.ref a0, .int x1, .int x2, .int x3, .int x4, .int x5, .int 0, Jk]) dX13_feed_21 rfl (by decide) rfl rfl ?_
    exact tlX13_feed_23  FU _ _ _ _ _ _ _ _ hf
  · rw [if_neg c] at hf
    refine V.iconst (q := 19) (v := (-1)) (by decide) dX13_feed_18 rfl ?_
    obtain ⟨rfl, rfl⟩ := ret_inj hf
    exact V.ret (r := some (.int (-1))) trivial dX13_feed_19
def fX13_fill (h : MH) (a0 : Nat) (x1 : Int32) (x2 : Int32) : Option (Int32 × MH) := bd (pI h a0 13 0 0) fun h1 => bd (ck h1 a0 13) fun _ => bd2 (fX13_isStamp h1 a0 x1) fun v2 h2 => if v2 = 0 then (bd (ck h2 a0 13) fun _ => bd2 (fX13_denied h2 a0 1) fun v4 h3 => rB v4 h3) else (bd2 (fX13_in h2 x2 1 9) fun v3 h3 => if v3 = 0 then (bd (ck h3 a0 13) fun _ => bd2 (fX13_denied h3 a0 2) fun v5 h4 => rB v5 h4) else (bd (gR h3 a0 13 15) fun b4 => bd (lI h3 b4 (0 + x1)) fun v5 => if v5 < x2 then (bd (ck h3 a0 13) fun _ => bd (fX13_remembers h3 a0 ) fun h4 => bd (gR h4 a0 13 15) fun b7 => bd (tI h4 b7 (0 + x1) x2) fun h5 => bd (ck h5 a0 13) fun _ => bd2 (fX13_granted h5 a0 ) fun v9 h6 => rB v9 h6) else (bd (ck h3 a0 13) fun _ => bd2 (fX13_denied h3 a0 5) fun v7 h4 => rB v7 h4)))
set_option maxRecDepth 20000 in
theorem tX13_fill {r : Int32} {h' : MH} {h : MH} {a0 : Nat} {x1 : Int32} {x2 : Int32} (hf : fX13_fill h a0 x1 x2 = some (r, h')) : VM mX13_fill 2 (some (.int r)) h' h [.ref a0, .int x1, .int x2] := by
  show V TT mX13_fill 2 _ h' h 0 [.ref a0, .int x1, .int x2] []
  unfold fX13_fill at hf
  refine V.aload_n (q := 1) rfl dX13_fill_0 rfl rfl ?_
  refine V.iconst (q := 2) (v := 0) (by decide) dX13_fill_1 rfl ?_
  obtain ⟨h1, eh1, hf⟩ := bd_ex hf
  refine V.putI (q := 5) (fpX13_48 rfl) rfl eh1 dX13_fill_2 rfl ?_
  refine V.aload_n (q := 6) rfl dX13_fill_5 rfl rfl ?_
  refine V.iload_n (q := 7) rfl dX13_fill_6 rfl rfl ?_
  obtain ⟨_, e1, hf⟩ := bd_ex hf
  obtain ⟨v2, h2, eh2, hf⟩ := bd2_ex hf
  refine V.callV (q := 10) (ci := 13) (vs := [.int x1]) (st := []) (S2 := [.int v2]) okX13_isStamp imX13_isStamp seX13_isStamp rfl lkX13_358 (tX13_isStamp eh2) rfl (ck_is e1) (by decide) rfl (Nat.le_of_ble_eq_true rfl) (Nat.le_of_ble_eq_true rfl) rfl dX13_fill_7 rfl rfl ?_
  refine V.if_ne (q := 13) (tgt := 19) dX13_fill_10 rfl (by decide) (fun c => ?_) (fun c => ?_)
  · rw [if_neg c] at hf
    refine V.iload_n (q := 20) rfl dX13_fill_19 rfl rfl ?_
    refine V.iconst (q := 21) (v := 1) (by decide) dX13_fill_20 rfl ?_
    refine V.bipush (q := 23) (v := 9) (by decide) dX13_fill_21 rfl ?_
    obtain ⟨v3, h3, eh3, hf⟩ := bd2_ex hf
    refine V.callS (q := 26) (vs := [.int x2, .int 1, .int 9]) (st := []) (S2 := [.int v3]) okX13_in stX13_in lkX13_127 (tX13_in eh3) rfl (by decide) rfl (Nat.le_of_ble_eq_true rfl) (Nat.le_of_ble_eq_true rfl) rfl dX13_fill_23 rfl rfl ?_
    refine V.if_ne (q := 29) (tgt := 35) dX13_fill_26 rfl (by decide) (fun c => ?_) (fun c => ?_)
    · rw [if_neg c] at hf
      refine V.aload_n (q := 36) rfl dX13_fill_35 rfl rfl ?_
      obtain ⟨b4, eb4, hf⟩ := bd_ex hf
      refine V.getR (q := 39) flX13_17 rfl eb4 dX13_fill_36 rfl ?_
      refine V.iconst (q := 40) (v := 0) (by decide) dX13_fill_39 rfl ?_
      refine V.iload_n (q := 41) rfl dX13_fill_40 rfl rfl ?_
      refine V.iadd (q := 42) dX13_fill_41 rfl ?_
      obtain ⟨v5, ev5, hf⟩ := bd_ex hf
      refine V.iald (q := 43) ev5 dX13_fill_42 rfl ?_
      refine V.iload_n (q := 44) rfl dX13_fill_43 rfl rfl ?_
      refine V.icmp_lt (q := 47) (tgt := 53) dX13_fill_44 rfl (by decide) (fun c => ?_) (fun c => ?_)
      · rw [if_pos c] at hf
        refine V.aload_n (q := 54) rfl dX13_fill_53 rfl rfl ?_
        obtain ⟨_, e6, hf⟩ := bd_ex hf
        obtain ⟨h4, eh4, hf⟩ := bd_ex hf
        refine V.callV (q := 57) (ci := 13) (vs := []) (st := []) (S2 := []) okX13_remembers imX13_remembers seX13_remembers rfl lkX13_484 (tX13_remembers eh4) rfl (ck_is e6) (by decide) rfl (Nat.le_of_ble_eq_true rfl) (Nat.le_of_ble_eq_true rfl) rfl dX13_fill_54 rfl rfl ?_
        refine V.aload_n (q := 58) rfl dX13_fill_57 rfl rfl ?_
        obtain ⟨b7, eb7, hf⟩ := bd_ex hf
        refine V.getR (q := 61) flX13_17 rfl eb7 dX13_fill_58 rfl ?_
        refine V.iconst (q := 62) (v := 0) (by decide) dX13_fill_61 rfl ?_
        refine V.iload_n (q := 63) rfl dX13_fill_62 rfl rfl ?_
        refine V.iadd (q := 64) dX13_fill_63 rfl ?_
        refine V.iload_n (q := 65) rfl dX13_fill_64 rfl rfl ?_
        obtain ⟨h5, eh5, hf⟩ := bd_ex hf
        refine V.iast (q := 66) eh5 dX13_fill_65 rfl ?_
        refine V.aload_n (q := 67) rfl dX13_fill_66 rfl rfl ?_
        obtain ⟨_, e8, hf⟩ := bd_ex hf
        obtain ⟨v9, h6, eh6, hf⟩ := bd2_ex hf
        refine V.callV (q := 70) (ci := 13) (vs := []) (st := []) (S2 := [.int v9]) okX13_granted imX13_granted seX13_granted rfl lkX13_490 (tX13_granted eh6) rfl (ck_is e8) (by decide) rfl (Nat.le_of_ble_eq_true rfl) (Nat.le_of_ble_eq_true rfl) rfl dX13_fill_67 rfl rfl ?_
        obtain ⟨hb, rfl, rfl⟩ := rB_inj hf
        exact V.ret (r := some (.int v9)) hb dX13_fill_70
      · rw [if_neg c] at hf
        refine V.aload_n (q := 48) rfl dX13_fill_47 rfl rfl ?_
        refine V.iconst (q := 49) (v := 5) (by decide) dX13_fill_48 rfl ?_
        obtain ⟨_, e6, hf⟩ := bd_ex hf
        obtain ⟨v7, h4, eh4, hf⟩ := bd2_ex hf
        refine V.callV (q := 52) (ci := 13) (vs := [.int 5]) (st := []) (S2 := [.int v7]) okX13_denied imX13_denied seX13_denied rfl lkX13_487 (tX13_denied eh4) rfl (ck_is e6) (by decide) rfl (Nat.le_of_ble_eq_true rfl) (Nat.le_of_ble_eq_true rfl) rfl dX13_fill_49 rfl rfl ?_
        obtain ⟨hb, rfl, rfl⟩ := rB_inj hf
        exact V.ret (r := some (.int v7)) hb dX13_fill_52
    · rw [if_pos c] at hf
      refine V.aload_n (q := 30) rfl dX13_fill_29 rfl rfl ?_
      refine V.iconst (q := 31) (v := 2) (by decide) dX13_fill_30 rfl ?_
      obtain ⟨_, e4, hf⟩ := bd_ex hf
      obtain ⟨v5, h4, eh4, hf⟩ := bd2_ex hf
      refine V.callV (q := 34) (ci := 13) (vs := [.int 2]) (st := []) (S2 := [.int v5]) okX13_denied imX13_denied seX13_denied rfl lkX13_487 (tX13_denied eh4) rfl (ck_is e4) (by decide) rfl (Nat.le_of_ble_eq_true rfl) (Nat.le_of_ble_eq_true rfl) rfl dX13_fill_31 rfl rfl ?_
      obtain ⟨hb, rfl, rfl⟩ := rB_inj hf
      exact V.ret (r := some (.int v5)) hb dX13_fill_34
  · rw [if_pos c] at hf
    refine V.aload_n (q := 14) rfl dX13_fill_13 rfl rfl ?_
    refine V.iconst (q := 15) (v := 1) (by decide) dX13_fill_14 rfl ?_
    obtain ⟨_, e3, hf⟩ := bd_ex hf
    obtain ⟨v4, h3, eh3, hf⟩ := bd2_ex hf
    refine V.callV (q := 18) (ci := 13) (vs := [.int 1]) (st := []) (S2 := [.int v4]) okX13_denied imX13_denied seX13_denied rfl lkX13_487 (tX13_denied eh3) rfl (ck_is e3) (by decide) rfl (Nat.le_of_ble_eq_true rfl) (Nat.le_of_ble_eq_true rfl) rfl dX13_fill_15 rfl rfl ?_
    obtain ⟨hb, rfl, rfl⟩ := rB_inj hf
    exact V.ret (r := some (.int v4)) hb dX13_fill_18
def bX13_partOf_26  (h : MH) (a0 : Nat) (x1 : Int32) (x3 : Int32) (xs0 : Int32) : Option (Int32 × MH) := if x3 = 2 then (bd (gR h a0 13 3) fun b1 => bd (gR h b1 12 20) fun b2 => bd (lI h b2 x1) fun v3 => some ((xs0 + v3), h)) else (some (xs0, h))
set_option maxRecDepth 20000 in
theorem tX13_partOf_26 {r : Int32} {h' : MH}   {h : MH} {a0 : Nat} {x1 : Int32} {x3 : Int32} {xs0 : Int32} (hf : bX13_partOf_26  h a0 x1 x3 xs0 = some (r, h')) : V TT mX13_partOf 1 (some (.int r)) h' h 26 [.ref a0, .int x1, Jk, .int x3, Jk] [.int xs0] := by
  unfold bX13_partOf_26 at hf
  refine V.istore (q := 28) (L' := [.ref a0, .int x1, Jk, .int x3, .int xs0]) dX13_partOf_26 rfl (by decide) rfl rfl ?_
  refine V.iload_n (q := 29) rfl dX13_partOf_28 rfl rfl ?_
  refine V.iconst (q := 30) (v := 2) (by decide) dX13_partOf_29 rfl ?_
  refine V.icmp_ne (q := 33) (tgt := 48) dX13_partOf_30 rfl (by decide) (fun c => ?_) (fun c => ?_)
  · rw [if_neg c] at hf
    refine V.iload (q := 50) dX13_partOf_48 rfl rfl ?_
    obtain ⟨rfl, rfl⟩ := ret_inj hf
    exact V.ret (r := some (.int xs0)) trivial dX13_partOf_50
  · rw [if_pos c] at hf
    refine V.iload (q := 35) dX13_partOf_33 rfl rfl ?_
    refine V.aload_n (q := 36) rfl dX13_partOf_35 rfl rfl ?_
    obtain ⟨b1, eb1, hf⟩ := bd_ex hf
    refine V.getR (q := 39) flX13_338 rfl eb1 dX13_partOf_36 rfl ?_
    obtain ⟨b2, eb2, hf⟩ := bd_ex hf
    refine V.getR (q := 42) flX13_313 rfl eb2 dX13_partOf_39 rfl ?_
    refine V.iload_n (q := 43) rfl dX13_partOf_42 rfl rfl ?_
    obtain ⟨v3, ev3, hf⟩ := bd_ex hf
    refine V.iald (q := 44) ev3 dX13_partOf_43 rfl ?_
    refine V.iadd (q := 45) dX13_partOf_44 rfl ?_
    refine V.goto (q := 50) dX13_partOf_45 (by decide) ?_
    obtain ⟨rfl, rfl⟩ := ret_inj hf
    exact V.ret (r := some (.int (xs0 + v3))) trivial dX13_partOf_50
def fX13_partOf (h : MH) (a0 : Nat) (x1 : Int32) (x2 : Int32) (x3 : Int32) : Option (Int32 × MH) := bd (ck h a0 13) fun _ => bd2 (fX13_printsBy h a0 x1 x2) fun v2 h1 => if v2 = x3 then (bd (gR h1 a0 13 3) fun b3 => bd (gR h1 b3 12 20) fun b4 => bd (lI h1 b4 x1) fun v5 => bX13_partOf_26 h1 a0 x1 x3 (100 - v5)) else (bX13_partOf_26 h1 a0 x1 x3 0)
set_option maxRecDepth 20000 in
theorem tX13_partOf {r : Int32} {h' : MH} {h : MH} {a0 : Nat} {x1 : Int32} {x2 : Int32} {x3 : Int32} (hf : fX13_partOf h a0 x1 x2 x3 = some (r, h')) : VM mX13_partOf 1 (some (.int r)) h' h [.ref a0, .int x1, .int x2, .int x3] := by
  show V TT mX13_partOf 1 _ h' h 0 [.ref a0, .int x1, .int x2, .int x3, Jk] []
  unfold fX13_partOf at hf
  refine V.aload_n (q := 1) rfl dX13_partOf_0 rfl rfl ?_
  refine V.iload_n (q := 2) rfl dX13_partOf_1 rfl rfl ?_
  refine V.iload_n (q := 3) rfl dX13_partOf_2 rfl rfl ?_
  obtain ⟨_, e1, hf⟩ := bd_ex hf
  obtain ⟨v2, h1, eh1, hf⟩ := bd2_ex hf
  refine V.callV (q := 6) (ci := 13) (vs := [.int x1, .int x2]) (st := []) (S2 := [.int v2]) okX13_printsBy imX13_printsBy seX13_printsBy rfl lkX13_352 (tX13_printsBy eh1) rfl (ck_is e1) (by decide) rfl (Nat.le_of_ble_eq_true rfl) (Nat.le_of_ble_eq_true rfl) rfl dX13_partOf_3 rfl rfl ?_
  refine V.iload_n (q := 7) rfl dX13_partOf_6 rfl rfl ?_
  refine V.icmp_ne (q := 10) (tgt := 25) dX13_partOf_7 rfl (by decide) (fun c => ?_) (fun c => ?_)
  · rw [if_neg c] at hf
    refine V.iconst (q := 26) (v := 0) (by decide) dX13_partOf_25 rfl ?_
    refine V.forget (L' := [.ref a0, .int x1, Jk, .int x3, Jk]) ⟨Or.inr rfl, Or.inr rfl, Or.inl rfl, Or.inr rfl, Or.inl rfl, trivial⟩ ?_
    exact tX13_partOf_26  hf
  · rw [if_pos c] at hf
    refine V.bipush (q := 12) (v := 100) (by decide) dX13_partOf_10 rfl ?_
    refine V.aload_n (q := 13) rfl dX13_partOf_12 rfl rfl ?_
    obtain ⟨b3, eb3, hf⟩ := bd_ex hf
    refine V.getR (q := 16) flX13_338 rfl eb3 dX13_partOf_13 rfl ?_
    obtain ⟨b4, eb4, hf⟩ := bd_ex hf
    refine V.getR (q := 19) flX13_313 rfl eb4 dX13_partOf_16 rfl ?_
    refine V.iload_n (q := 20) rfl dX13_partOf_19 rfl rfl ?_
    obtain ⟨v5, ev5, hf⟩ := bd_ex hf
    refine V.iald (q := 21) ev5 dX13_partOf_20 rfl ?_
    refine V.isub (q := 22) dX13_partOf_21 rfl ?_
    refine V.goto (q := 26) dX13_partOf_22 (by decide) ?_
    refine V.forget (L' := [.ref a0, .int x1, Jk, .int x3, Jk]) ⟨Or.inr rfl, Or.inr rfl, Or.inl rfl, Or.inr rfl, Or.inl rfl, trivial⟩ ?_
    exact tX13_partOf_26  hf
def bX13_fitsPrints_5 (k5 : MH → Nat → Int32 → Int64 → Int32 → Option (Int64 × MH)) (h : MH) (a0 : Nat) (x1 : Int32) (y2 : Int64) (x4 : Int32) : Option (Int64 × MH) := bd (gR h a0 13 3) fun b1 => bd (gI h b1 12 7) fun v2 => if v2 ≤ x4 then (some (y2, h)) else (bd (gR h a0 13 3) fun b3 => bd (gR h b3 12 22) fun b4 => bd (lI h b4 x4) fun v5 => bd (gR h a0 13 3) fun b6 => bd (gR h b6 12 21) fun b7 => bd (lI h b7 x4) fun v8 => bd (ck h a0 13) fun _ => bd2 (fX13_saysNow h a0 x1 v8) fun v10 h1 => bd (gR h1 a0 13 3) fun b11 => bd (gR h1 b11 12 23) fun b12 => bd (lI h1 b12 x4) fun v13 => bd (ck h1 a0 13) fun _ => bd2 (fX13_partOf h1 a0 v5 v10 v13) fun v15 h2 => bd (some (y2 * (Int32.toInt64 v15))) fun w16 => bd (some (x4 + 1)) fun v17 => k5 h2 a0 x1 w16 v17)
set_option maxRecDepth 20000 in
theorem tX13_fitsPrints_5 {r : Int64} {h' : MH} (k5 : MH → Nat → Int32 → Int64 → Int32 → Option (Int64 × MH)) (hk5 : ∀ (h : MH) (a0 : Nat) (x1 : Int32) (y2 : Int64) (x4 : Int32), k5 h a0 x1 y2 x4 = some (r, h') → V TT mX13_fitsPrints 4 (some (.long r)) h' h 5 [.ref a0, .int x1, .long y2, Jk, .int x4] [])  {h : MH} {a0 : Nat} {x1 : Int32} {y2 : Int64} {x4 : Int32} (hf : bX13_fitsPrints_5 k5 h a0 x1 y2 x4 = some (r, h')) : V TT mX13_fitsPrints 4 (some (.long r)) h' h 5 [.ref a0, .int x1, .long y2, Jk, .int x4] [] := by
  unfold bX13_fitsPrints_5 at hf
  refine V.iload (q := 7) dX13_fitsPrints_5 rfl rfl ?_
  refine V.aload_n (q := 8) rfl dX13_fitsPrints_7 rfl rfl ?_
  obtain ⟨b1, eb1, hf⟩ := bd_ex hf
  refine V.getR (q := 11) flX13_338 rfl eb1 dX13_fitsPrints_8 rfl ?_
  obtain ⟨v2, ev2, hf⟩ := bd_ex hf
  refine V.getI (q := 14) flX13_320 rfl ev2 dX13_fitsPrints_11 rfl ?_
  refine V.icmp_ge (q := 17) (tgt := 66) dX13_fitsPrints_14 rfl (by decide) (fun c => ?_) (fun c => ?_)
  · rw [if_pos c] at hf
    refine V.lload_n (q := 67) rfl dX13_fitsPrints_66 rfl rfl ?_
    obtain ⟨rfl, rfl⟩ := ret_inj hf
    exact V.ret (r := some (.long y2)) trivial dX13_fitsPrints_67
  · rw [if_neg c] at hf
    refine V.lload_n (q := 18) rfl dX13_fitsPrints_17 rfl rfl ?_
    refine V.aload_n (q := 19) rfl dX13_fitsPrints_18 rfl rfl ?_
    refine V.aload_n (q := 20) rfl dX13_fitsPrints_19 rfl rfl ?_
    obtain ⟨b3, eb3, hf⟩ := bd_ex hf
    refine V.getR (q := 23) flX13_338 rfl eb3 dX13_fitsPrints_20 rfl ?_
    obtain ⟨b4, eb4, hf⟩ := bd_ex hf
    refine V.getR (q := 26) flX13_326 rfl eb4 dX13_fitsPrints_23 rfl ?_
    refine V.iload (q := 28) dX13_fitsPrints_26 rfl rfl ?_
    obtain ⟨v5, ev5, hf⟩ := bd_ex hf
    refine V.iald (q := 29) ev5 dX13_fitsPrints_28 rfl ?_
    refine V.aload_n (q := 30) rfl dX13_fitsPrints_29 rfl rfl ?_
    refine V.iload_n (q := 31) rfl dX13_fitsPrints_30 rfl rfl ?_
    refine V.aload_n (q := 32) rfl dX13_fitsPrints_31 rfl rfl ?_
    obtain ⟨b6, eb6, hf⟩ := bd_ex hf
    refine V.getR (q := 35) flX13_338 rfl eb6 dX13_fitsPrints_32 rfl ?_
    obtain ⟨b7, eb7, hf⟩ := bd_ex hf
    refine V.getR (q := 38) flX13_323 rfl eb7 dX13_fitsPrints_35 rfl ?_
    refine V.iload (q := 40) dX13_fitsPrints_38 rfl rfl ?_
    obtain ⟨v8, ev8, hf⟩ := bd_ex hf
    refine V.iald (q := 41) ev8 dX13_fitsPrints_40 rfl ?_
    obtain ⟨_, e9, hf⟩ := bd_ex hf
    obtain ⟨v10, h1, eh1, hf⟩ := bd2_ex hf
    refine V.callV (q := 44) (ci := 13) (vs := [.int x1, .int v8]) (st := [.int v5, .ref a0, .long y2]) (S2 := [.int v10, .int v5, .ref a0, .long y2]) okX13_saysNow imX13_saysNow seX13_saysNow rfl lkX13_367 (tX13_saysNow eh1) rfl (ck_is e9) (by decide) rfl (Nat.le_of_ble_eq_true rfl) (Nat.le_of_ble_eq_true rfl) rfl dX13_fitsPrints_41 rfl rfl ?_
    refine V.aload_n (q := 45) rfl dX13_fitsPrints_44 rfl rfl ?_
    obtain ⟨b11, eb11, hf⟩ := bd_ex hf
    refine V.getR (q := 48) flX13_338 rfl eb11 dX13_fitsPrints_45 rfl ?_
    obtain ⟨b12, eb12, hf⟩ := bd_ex hf
    refine V.getR (q := 51) flX13_329 rfl eb12 dX13_fitsPrints_48 rfl ?_
    refine V.iload (q := 53) dX13_fitsPrints_51 rfl rfl ?_
    obtain ⟨v13, ev13, hf⟩ := bd_ex hf
    refine V.iald (q := 54) ev13 dX13_fitsPrints_53 rfl ?_
    obtain ⟨_, e14, hf⟩ := bd_ex hf
    obtain ⟨v15, h2, eh2, hf⟩ := bd2_ex hf
    refine V.callV (q := 57) (ci := 13) (vs := [.int v5, .int v10, .int v13]) (st := [.long y2]) (S2 := [.int v15, .long y2]) okX13_partOf imX13_partOf seX13_partOf rfl lkX13_406 (tX13_partOf eh2) rfl (ck_is e14) (by decide) rfl (Nat.le_of_ble_eq_true rfl) (Nat.le_of_ble_eq_true rfl) rfl dX13_fitsPrints_54 rfl rfl ?_
    refine V.i2l (q := 58) dX13_fitsPrints_57 rfl ?_
    refine V.lmul (q := 59) dX13_fitsPrints_58 rfl ?_
    obtain ⟨w16, ew16, hf⟩ := bd_ex hf
    refine V.topL (Option.some.inj ew16) ?_
    refine V.lstore_n (q := 60) (L' := [.ref a0, .int x1, .long w16, Jk, .int x4]) rfl dX13_fitsPrints_59 rfl (by decide) rfl rfl ?_
    obtain ⟨v17, ev17, hf⟩ := bd_ex hf
    refine V.iinc (q := 63) (v := v17) (L' := [.ref a0, .int x1, .long w16, Jk, .int v17]) dX13_fitsPrints_60 rfl rfl (Option.some.inj ev17) (by decide) rfl rfl ?_
    refine V.goto (q := 5) dX13_fitsPrints_63 (by decide) ?_
    exact hk5 _ _ _ _ _ hf
def fX13_fitsPrints_5  : Nat → MH → Nat → Int32 → Int64 → Int32 → Option (Int64 × MH)
  | 0 => fun _ _ _ _ _ => none
  | n + 1 => bX13_fitsPrints_5  (fX13_fitsPrints_5  n)
theorem tlX13_fitsPrints_5 {r : Int64} {h' : MH}   : ∀ (n : Nat) (h : MH) (a0 : Nat) (x1 : Int32) (y2 : Int64) (x4 : Int32), fX13_fitsPrints_5  n h a0 x1 y2 x4 = some (r, h') → V TT mX13_fitsPrints 4 (some (.long r)) h' h 5 [.ref a0, .int x1, .long y2, Jk, .int x4] [] := by
  intro n
  induction n with
  | zero => intro h a0 x1 y2 x4 hf; exact nomatch (show (none : Option (Int64 × MH)) = some (r, h') from hf)
  | succ n ih => intro h a0 x1 y2 x4 hf; exact tX13_fitsPrints_5  (fX13_fitsPrints_5  n) ih hf
def fX13_fitsPrints (h : MH) (a0 : Nat) (x1 : Int32) : Option (Int64 × MH) := fX13_fitsPrints_5 FU h a0 x1 1 0
set_option maxRecDepth 20000 in
theorem tX13_fitsPrints {r : Int64} {h' : MH} {h : MH} {a0 : Nat} {x1 : Int32} (hf : fX13_fitsPrints h a0 x1 = some (r, h')) : VM mX13_fitsPrints 4 (some (.long r)) h' h [.ref a0, .int x1] := by
  show V TT mX13_fitsPrints 4 _ h' h 0 [.ref a0, .int x1, Jk, Jk, Jk] []
  unfold fX13_fitsPrints at hf
  refine V.lconst (q := 1) (v := 1) (by decide) dX13_fitsPrints_0 rfl ?_
  refine V.lstore_n (q := 2) (L' := [.ref a0, .int x1, .long 1, Jk, Jk]) rfl dX13_fitsPrints_1 rfl (by decide) rfl rfl ?_
  refine V.iconst (q := 3) (v := 0) (by decide) dX13_fitsPrints_2 rfl ?_
  refine V.istore (q := 5) (L' := [.ref a0, .int x1, .long 1, Jk, .int 0]) dX13_fitsPrints_3 rfl (by decide) rfl rfl ?_
  exact tlX13_fitsPrints_5  FU _ _ _ _ _ hf
def bX13_fitAll_4 (k4 : MH → Nat → Int64 → Int32 → Option (Int64 × MH)) (h : MH) (a0 : Nat) (y1 : Int64) (x3 : Int32) : Option (Int64 × MH) := bd (gR h a0 13 3) fun b1 => bd (gI h b1 12 3) fun v2 => if v2 ≤ x3 then (some (y1, h)) else (bd (ck h a0 13) fun _ => bd2 (fX13_fitsPrints h a0 x3) fun w4 h1 => bd (some (y1 + w4)) fun w5 => bd (some (x3 + 1)) fun v6 => k4 h1 a0 w5 v6)
set_option maxRecDepth 20000 in
theorem tX13_fitAll_4 {r : Int64} {h' : MH} (k4 : MH → Nat → Int64 → Int32 → Option (Int64 × MH)) (hk4 : ∀ (h : MH) (a0 : Nat) (y1 : Int64) (x3 : Int32), k4 h a0 y1 x3 = some (r, h') → V TT mX13_fitAll 5 (some (.long r)) h' h 4 [.ref a0, .long y1, Jk, .int x3] [])  {h : MH} {a0 : Nat} {y1 : Int64} {x3 : Int32} (hf : bX13_fitAll_4 k4 h a0 y1 x3 = some (r, h')) : V TT mX13_fitAll 5 (some (.long r)) h' h 4 [.ref a0, .long y1, Jk, .int x3] [] := by
  unfold bX13_fitAll_4 at hf
  refine V.iload_n (q := 5) rfl dX13_fitAll_4 rfl rfl ?_
  refine V.aload_n (q := 6) rfl dX13_fitAll_5 rfl rfl ?_
  obtain ⟨b1, eb1, hf⟩ := bd_ex hf
  refine V.getR (q := 9) flX13_338 rfl eb1 dX13_fitAll_6 rfl ?_
  obtain ⟨v2, ev2, hf⟩ := bd_ex hf
  refine V.getI (q := 12) flX13_262 rfl ev2 dX13_fitAll_9 rfl ?_
  refine V.icmp_ge (q := 15) (tgt := 29) dX13_fitAll_12 rfl (by decide) (fun c => ?_) (fun c => ?_)
  · rw [if_pos c] at hf
    refine V.lload_n (q := 30) rfl dX13_fitAll_29 rfl rfl ?_
    obtain ⟨rfl, rfl⟩ := ret_inj hf
    exact V.ret (r := some (.long y1)) trivial dX13_fitAll_30
  · rw [if_neg c] at hf
    refine V.lload_n (q := 16) rfl dX13_fitAll_15 rfl rfl ?_
    refine V.aload_n (q := 17) rfl dX13_fitAll_16 rfl rfl ?_
    refine V.iload_n (q := 18) rfl dX13_fitAll_17 rfl rfl ?_
    obtain ⟨_, e3, hf⟩ := bd_ex hf
    obtain ⟨w4, h1, eh1, hf⟩ := bd2_ex hf
    refine V.callV (q := 21) (ci := 13) (vs := [.int x3]) (st := [.long y1]) (S2 := [.long w4, .long y1]) okX13_fitsPrints imX13_fitsPrints seX13_fitsPrints rfl lkX13_410 (tX13_fitsPrints eh1) rfl (ck_is e3) (by decide) rfl (Nat.le_of_ble_eq_true rfl) (Nat.le_of_ble_eq_true rfl) rfl dX13_fitAll_18 rfl rfl ?_
    refine V.ladd (q := 22) dX13_fitAll_21 rfl ?_
    obtain ⟨w5, ew5, hf⟩ := bd_ex hf
    refine V.topL (Option.some.inj ew5) ?_
    refine V.lstore_n (q := 23) (L' := [.ref a0, .long w5, Jk, .int x3]) rfl dX13_fitAll_22 rfl (by decide) rfl rfl ?_
    obtain ⟨v6, ev6, hf⟩ := bd_ex hf
    refine V.iinc (q := 26) (v := v6) (L' := [.ref a0, .long w5, Jk, .int v6]) dX13_fitAll_23 rfl rfl (Option.some.inj ev6) (by decide) rfl rfl ?_
    refine V.goto (q := 4) dX13_fitAll_26 (by decide) ?_
    exact hk4 _ _ _ _ hf
def fX13_fitAll_4  : Nat → MH → Nat → Int64 → Int32 → Option (Int64 × MH)
  | 0 => fun _ _ _ _ => none
  | n + 1 => bX13_fitAll_4  (fX13_fitAll_4  n)
theorem tlX13_fitAll_4 {r : Int64} {h' : MH}   : ∀ (n : Nat) (h : MH) (a0 : Nat) (y1 : Int64) (x3 : Int32), fX13_fitAll_4  n h a0 y1 x3 = some (r, h') → V TT mX13_fitAll 5 (some (.long r)) h' h 4 [.ref a0, .long y1, Jk, .int x3] [] := by
  intro n
  induction n with
  | zero => intro h a0 y1 x3 hf; exact nomatch (show (none : Option (Int64 × MH)) = some (r, h') from hf)
  | succ n ih => intro h a0 y1 x3 hf; exact tX13_fitAll_4  (fX13_fitAll_4  n) ih hf
def fX13_fitAll (h : MH) (a0 : Nat) : Option (Int64 × MH) := fX13_fitAll_4 FU h a0 0 0
set_option maxRecDepth 20000 in
theorem tX13_fitAll {r : Int64} {h' : MH} {h : MH} {a0 : Nat} (hf : fX13_fitAll h a0 = some (r, h')) : VM mX13_fitAll 5 (some (.long r)) h' h [.ref a0] := by
  show V TT mX13_fitAll 5 _ h' h 0 [.ref a0, Jk, Jk, Jk] []
  unfold fX13_fitAll at hf
  refine V.lconst (q := 1) (v := 0) (by decide) dX13_fitAll_0 rfl ?_
  refine V.lstore_n (q := 2) (L' := [.ref a0, .long 0, Jk, Jk]) rfl dX13_fitAll_1 rfl (by decide) rfl rfl ?_
  refine V.iconst (q := 3) (v := 0) (by decide) dX13_fitAll_2 rfl ?_
  refine V.istore_n (q := 4) (L' := [.ref a0, .long 0, Jk, .int 0]) rfl dX13_fitAll_3 rfl (by decide) rfl rfl ?_
  exact tlX13_fitAll_4  FU _ _ _ _ hf
def fX13_flaw (h : MH) (a0 : Nat) (x1 : Int32) : Option (MH) := bd (gI h a0 13 9) fun v1 => if v1 = 6 then (some h) else (bd (pI h a0 13 12 x1) fun h1 => bd (gI h1 a0 13 10) fun v2 => bd (pI h1 a0 13 13 v2) fun h2 => bd (pI h2 a0 13 9 6) fun h3 => some h3)
set_option maxRecDepth 20000 in
theorem tX13_flaw {h' : MH} {h : MH} {a0 : Nat} {x1 : Int32} (hf : fX13_flaw h a0 x1 = some h') : VM mX13_flaw 0 none h' h [.ref a0, .int x1] := by
  show V TT mX13_flaw 0 _ h' h 0 [.ref a0, .int x1] []
  unfold fX13_flaw at hf
  refine V.aload_n (q := 1) rfl dX13_flaw_0 rfl rfl ?_
  obtain ⟨v1, ev1, hf⟩ := bd_ex hf
  refine V.getI (q := 4) flX13_80 rfl ev1 dX13_flaw_1 rfl ?_
  refine V.bipush (q := 6) (v := 6) (by decide) dX13_flaw_4 rfl ?_
  refine V.icmp_ne (q := 9) (tgt := 10) dX13_flaw_6 rfl (by decide) (fun c => ?_) (fun c => ?_)
  · rw [if_neg c] at hf
    refine V.aload_n (q := 11) rfl dX13_flaw_10 rfl rfl ?_
    refine V.iload_n (q := 12) rfl dX13_flaw_11 rfl rfl ?_
    obtain ⟨h1, eh1, hf⟩ := bd_ex hf
    refine V.putI (q := 15) (fpX13_106 rfl) rfl eh1 dX13_flaw_12 rfl ?_
    refine V.aload_n (q := 16) rfl dX13_flaw_15 rfl rfl ?_
    refine V.aload_n (q := 17) rfl dX13_flaw_16 rfl rfl ?_
    obtain ⟨v2, ev2, hf⟩ := bd_ex hf
    refine V.getI (q := 20) flX13_89 rfl ev2 dX13_flaw_17 rfl ?_
    obtain ⟨h2, eh2, hf⟩ := bd_ex hf
    refine V.putI (q := 23) (fpX13_109 rfl) rfl eh2 dX13_flaw_20 rfl ?_
    refine V.aload_n (q := 24) rfl dX13_flaw_23 rfl rfl ?_
    refine V.bipush (q := 26) (v := 6) (by decide) dX13_flaw_24 rfl ?_
    obtain ⟨h3, eh3, hf⟩ := bd_ex hf
    refine V.putI (q := 29) (fpX13_80 rfl) rfl eh3 dX13_flaw_26 rfl ?_
    cases hf
    exact V.ret (r := none) trivial dX13_flaw_29
  · rw [if_pos c] at hf
    cases hf
    exact V.ret (r := none) trivial dX13_flaw_9
def fX13_fraction (h : MH) (a0 : Nat) (y1 : Int64) (y3 : Int64) (x5 : Int32) : Option (Int64 × MH) := bd (ck h a0 13) fun _ => bd2 (fX13_good1 h a0 0) fun v2 h1 => if (lg_cmp y3 0) = 0 then (if x5 = 0 then (some (0, h1)) else (some (1, h1))) else (if x5 = 0 then (bd2 (fX13_common h1 y1 y3) fun w3 h2 => bd (nzJ w3) fun _ => some ((y1 / w3), h2)) else (bd2 (fX13_common h1 y1 y3) fun w3 h2 => bd (nzJ w3) fun _ => some ((y3 / w3), h2)))
set_option maxRecDepth 20000 in
theorem tX13_fraction {r : Int64} {h' : MH} {h : MH} {a0 : Nat} {y1 : Int64} {y3 : Int64} {x5 : Int32} (hf : fX13_fraction h a0 y1 y3 x5 = some (r, h')) : VM mX13_fraction 1 (some (.long r)) h' h [.ref a0, .long y1, .long y3, .int x5] := by
  show V TT mX13_fraction 1 _ h' h 0 [.ref a0, .long y1, Jk, .long y3, Jk, .int x5] []
  unfold fX13_fraction at hf
  refine V.aload_n (q := 1) rfl dX13_fraction_0 rfl rfl ?_
  refine V.iconst (q := 2) (v := 0) (by decide) dX13_fraction_1 rfl ?_
  obtain ⟨_, e1, hf⟩ := bd_ex hf
  obtain ⟨v2, h1, eh1, hf⟩ := bd2_ex hf
  refine V.callV (q := 5) (ci := 13) (vs := [.int 0]) (st := []) (S2 := [.int v2]) okX13_good1 imX13_good1 seX13_good1 rfl lkX13_58 (tX13_good1 eh1) rfl (ck_is e1) (by decide) rfl (Nat.le_of_ble_eq_true rfl) (Nat.le_of_ble_eq_true rfl) rfl dX13_fraction_2 rfl rfl ?_
  refine V.popI (q := 6) dX13_fraction_5 rfl ?_
  refine V.lload_n (q := 7) rfl dX13_fraction_6 rfl rfl ?_
  refine V.lconst (q := 8) (v := 0) (by decide) dX13_fraction_7 rfl ?_
  refine V.lcmp (q := 9) dX13_fraction_8 rfl ?_
  refine V.if_ne (q := 12) (tgt := 23) dX13_fraction_9 rfl (by decide) (fun c => ?_) (fun c => ?_)
  · rw [if_neg c] at hf
    refine V.iload (q := 25) dX13_fraction_23 rfl rfl ?_
    refine V.if_eq (q := 28) (tgt := 32) dX13_fraction_25 rfl (by decide) (fun c => ?_) (fun c => ?_)
    · rw [if_pos c] at hf
      refine V.lload_n (q := 33) rfl dX13_fraction_32 rfl rfl ?_
      refine V.lload_n (q := 34) rfl dX13_fraction_33 rfl rfl ?_
      refine V.lload_n (q := 35) rfl dX13_fraction_34 rfl rfl ?_
      obtain ⟨w3, h2, eh2, hf⟩ := bd2_ex hf
      refine V.callS (q := 38) (vs := [.long y1, .long y3]) (st := [.long y1]) (S2 := [.long w3, .long y1]) okX13_common stX13_common lkX13_61 (tX13_common eh2) rfl (by decide) rfl (Nat.le_of_ble_eq_true rfl) (Nat.le_of_ble_eq_true rfl) rfl dX13_fraction_35 rfl rfl ?_
      obtain ⟨_, e4, hf⟩ := bd_ex hf
      refine V.ldiv (q := 39) (nzJ_is e4) dX13_fraction_38 rfl ?_
      obtain ⟨rfl, rfl⟩ := ret_inj hf
      exact V.ret (r := some (.long (y1 / w3))) trivial dX13_fraction_39
    · rw [if_neg c] at hf
      refine V.lload_n (q := 29) rfl dX13_fraction_28 rfl rfl ?_
      refine V.goto (q := 33) dX13_fraction_29 (by decide) ?_
      refine V.lload_n (q := 34) rfl dX13_fraction_33 rfl rfl ?_
      refine V.lload_n (q := 35) rfl dX13_fraction_34 rfl rfl ?_
      obtain ⟨w3, h2, eh2, hf⟩ := bd2_ex hf
      refine V.callS (q := 38) (vs := [.long y1, .long y3]) (st := [.long y3]) (S2 := [.long w3, .long y3]) okX13_common stX13_common lkX13_61 (tX13_common eh2) rfl (by decide) rfl (Nat.le_of_ble_eq_true rfl) (Nat.le_of_ble_eq_true rfl) rfl dX13_fraction_35 rfl rfl ?_
      obtain ⟨_, e4, hf⟩ := bd_ex hf
      refine V.ldiv (q := 39) (nzJ_is e4) dX13_fraction_38 rfl ?_
      obtain ⟨rfl, rfl⟩ := ret_inj hf
      exact V.ret (r := some (.long (y3 / w3))) trivial dX13_fraction_39
  · rw [if_pos c] at hf
    refine V.iload (q := 14) dX13_fraction_12 rfl rfl ?_
    refine V.if_eq (q := 17) (tgt := 21) dX13_fraction_14 rfl (by decide) (fun c => ?_) (fun c => ?_)
    · rw [if_pos c] at hf
      refine V.lconst (q := 22) (v := 0) (by decide) dX13_fraction_21 rfl ?_
      obtain ⟨rfl, rfl⟩ := ret_inj hf
      exact V.ret (r := some (.long 0)) trivial dX13_fraction_22
    · rw [if_neg c] at hf
      refine V.lconst (q := 18) (v := 1) (by decide) dX13_fraction_17 rfl ?_
      refine V.goto (q := 22) dX13_fraction_18 (by decide) ?_
      obtain ⟨rfl, rfl⟩ := ret_inj hf
      exact V.ret (r := some (.long 1)) trivial dX13_fraction_22
def bX13_month_21 (k4 : MH → Nat → Int32 → Int32 → Int32 → Option (Int32 × MH)) (k21 : MH → Nat → Int32 → Int32 → Int32 → Int32 → Int32 → Option (Int32 × MH)) (h : MH) (a0 : Nat) (x1 : Int32) (x2 : Int32) (x3 : Int32) (x4 : Int32) (x5 : Int32) : Option (Int32 × MH) := bd (gR h a0 13 3) fun b1 => bd (gI h b1 12 3) fun v2 => if v2 ≤ x5 then (if 0 < x4 then (bd (some (x2 ||| (1 <<< (x3 &&& 31)))) fun v3 => bd (some (x3 + 1)) fun v4 => k4 h a0 x1 v3 v4) else (if x4 = 0 then (bd2 (fX13_bit h x1 x3) fun v3 h1 => if v3 = 0 then (bd (some (x3 + 1)) fun v4 => k4 h1 a0 x1 x2 v4) else (bd (some (x2 ||| (1 <<< (x3 &&& 31)))) fun v4 => bd (some (x3 + 1)) fun v5 => k4 h1 a0 x1 v4 v5)) else (bd (some (x3 + 1)) fun v3 => k4 h a0 x1 x2 v3))) else (if x5 = x3 then (bd (some (x5 + 1)) fun v3 => k21 h a0 x1 x2 x3 x4 v3) else (bd2 (fX13_bit h x1 x5) fun v3 h1 => if v3 = 0 then (bd (some (x5 + 1)) fun v4 => k21 h1 a0 x1 x2 x3 x4 v4) else (bd (gR h1 a0 13 3) fun b4 => bd (gR h1 b4 12 14) fun b5 => bd (lI h1 b5 x3) fun v6 => bd (ck h1 a0 13) fun _ => bd2 (fX13_saysBy h1 a0 x5 v6) fun v8 h2 => if v8 = 1 then (bd (some (x4 + 1)) fun v9 => bd (some (x5 + 1)) fun v10 => k21 h2 a0 x1 x2 x3 v9 v10) else (if v8 = 0 then (bd (some (x4 + (-1))) fun v9 => bd (some (x5 + 1)) fun v10 => k21 h2 a0 x1 x2 x3 v9 v10) else (bd (some (x4 + 0)) fun v9 => bd (some (x5 + 1)) fun v10 => k21 h2 a0 x1 x2 x3 v9 v10)))))
set_option maxRecDepth 20000 in
theorem tX13_month_21 {r : Int32} {h' : MH} (k4 : MH → Nat → Int32 → Int32 → Int32 → Option (Int32 × MH)) (hk4 : ∀ (h : MH) (a0 : Nat) (x1 : Int32) (x2 : Int32) (x3 : Int32), k4 h a0 x1 x2 x3 = some (r, h') → V TT mX13_month 3 (some (.int r)) h' h 4 [.ref a0, .int x1, .int x2, .int x3, Jk, Jk, Jk] []) (k21 : MH → Nat → Int32 → Int32 → Int32 → Int32 → Int32 → Option (Int32 × MH)) (hk21 : ∀ (h : MH) (a0 : Nat) (x1 : Int32) (x2 : Int32) (x3 : Int32) (x4 : Int32) (x5 : Int32), k21 h a0 x1 x2 x3 x4 x5 = some (r, h') → V TT mX13_month 3 (some (.int r)) h' h 21 [.ref a0, .int x1, .int x2, .int x3, .int x4, .int x5, Jk] [])  {h : MH} {a0 : Nat} {x1 : Int32} {x2 : Int32} {x3 : Int32} {x4 : Int32} {x5 : Int32} (hf : bX13_month_21 k4 k21 h a0 x1 x2 x3 x4 x5 = some (r, h')) : V TT mX13_month 3 (some (.int r)) h' h 21 [.ref a0, .int x1, .int x2, .int x3, .int x4, .int x5, Jk] [] := by
  unfold bX13_month_21 at hf
  refine V.iload (q := 23) dX13_month_21 rfl rfl ?_
  refine V.aload_n (q := 24) rfl dX13_month_23 rfl rfl ?_
  obtain ⟨b1, eb1, hf⟩ := bd_ex hf
  refine V.getR (q := 27) flX13_338 rfl eb1 dX13_month_24 rfl ?_
  obtain ⟨v2, ev2, hf⟩ := bd_ex hf
  refine V.getI (q := 30) flX13_262 rfl ev2 dX13_month_27 rfl ?_
  refine V.icmp_ge (q := 33) (tgt := 99) dX13_month_30 rfl (by decide) (fun c => ?_) (fun c => ?_)
  · rw [if_pos c] at hf
    refine V.iload (q := 101) dX13_month_99 rfl rfl ?_
    refine V.if_gt (q := 104) (tgt := 117) dX13_month_101 rfl (by decide) (fun c => ?_) (fun c => ?_)
    · rw [if_pos c] at hf
      refine V.iload_n (q := 118) rfl dX13_month_117 rfl rfl ?_
      refine V.iconst (q := 119) (v := 1) (by decide) dX13_month_118 rfl ?_
      refine V.iload_n (q := 120) rfl dX13_month_119 rfl rfl ?_
      refine V.ishl (q := 121) dX13_month_120 rfl ?_
      refine V.ior (q := 122) dX13_month_121 rfl ?_
      obtain ⟨v3, ev3, hf⟩ := bd_ex hf
      refine V.topI (Option.some.inj ev3) ?_
      refine V.istore_n (q := 123) (L' := [.ref a0, .int x1, .int v3, .int x3, .int x4, .int x5, Jk]) rfl dX13_month_122 rfl (by decide) rfl rfl ?_
      obtain ⟨v4, ev4, hf⟩ := bd_ex hf
      refine V.iinc (q := 126) (v := v4) (L' := [.ref a0, .int x1, .int v3, .int v4, .int x4, .int x5, Jk]) dX13_month_123 rfl rfl (Option.some.inj ev4) (by decide) rfl rfl ?_
      refine V.goto (q := 4) dX13_month_126 (by decide) ?_
      refine V.forget (L' := [.ref a0, .int x1, .int v3, .int v4, Jk, Jk, Jk]) ⟨Or.inr rfl, Or.inr rfl, Or.inr rfl, Or.inr rfl, Or.inl rfl, Or.inl rfl, Or.inl rfl, trivial⟩ ?_
      exact hk4 _ _ _ _ _ hf
    · rw [if_neg c] at hf
      refine V.iload (q := 106) dX13_month_104 rfl rfl ?_
      refine V.if_ne (q := 109) (tgt := 123) dX13_month_106 rfl (by decide) (fun c => ?_) (fun c => ?_)
      · rw [if_neg c] at hf
        obtain ⟨v3, ev3, hf⟩ := bd_ex hf
        refine V.iinc (q := 126) (v := v3) (L' := [.ref a0, .int x1, .int x2, .int v3, .int x4, .int x5, Jk]) dX13_month_123 rfl rfl (Option.some.inj ev3) (by decide) rfl rfl ?_
        refine V.goto (q := 4) dX13_month_126 (by decide) ?_
        refine V.forget (L' := [.ref a0, .int x1, .int x2, .int v3, Jk, Jk, Jk]) ⟨Or.inr rfl, Or.inr rfl, Or.inr rfl, Or.inr rfl, Or.inl rfl, Or.inl rfl, Or.inl rfl, trivial⟩ ?_
        exact hk4 _ _ _ _ _ hf
      · rw [if_pos c] at hf
        refine V.iload_n (q := 110) rfl dX13_month_109 rfl rfl ?_
        refine V.iload_n (q := 111) rfl dX13_month_110 rfl rfl ?_
        obtain ⟨v3, h1, eh1, hf⟩ := bd2_ex hf
        refine V.callS (q := 114) (vs := [.int x1, .int x3]) (st := []) (S2 := [.int v3]) okX13_bit stX13_bit lkX13_199 (tX13_bit eh1) rfl (by decide) rfl (Nat.le_of_ble_eq_true rfl) (Nat.le_of_ble_eq_true rfl) rfl dX13_month_111 rfl rfl ?_
        refine V.if_eq (q := 117) (tgt := 123) dX13_month_114 rfl (by decide) (fun c => ?_) (fun c => ?_)
        · rw [if_pos c] at hf
          obtain ⟨v4, ev4, hf⟩ := bd_ex hf
          refine V.iinc (q := 126) (v := v4) (L' := [.ref a0, .int x1, .int x2, .int v4, .int x4, .int x5, Jk]) dX13_month_123 rfl rfl (Option.some.inj ev4) (by decide) rfl rfl ?_
          refine V.goto (q := 4) dX13_month_126 (by decide) ?_
          refine V.forget (L' := [.ref a0, .int x1, .int x2, .int v4, Jk, Jk, Jk]) ⟨Or.inr rfl, Or.inr rfl, Or.inr rfl, Or.inr rfl, Or.inl rfl, Or.inl rfl, Or.inl rfl, trivial⟩ ?_
          exact hk4 _ _ _ _ _ hf
        · rw [if_neg c] at hf
          refine V.iload_n (q := 118) rfl dX13_month_117 rfl rfl ?_
          refine V.iconst (q := 119) (v := 1) (by decide) dX13_month_118 rfl ?_
          refine V.iload_n (q := 120) rfl dX13_month_119 rfl rfl ?_
          refine V.ishl (q := 121) dX13_month_120 rfl ?_
          refine V.ior (q := 122) dX13_month_121 rfl ?_
          obtain ⟨v4, ev4, hf⟩ := bd_ex hf
          refine V.topI (Option.some.inj ev4) ?_
          refine V.istore_n (q := 123) (L' := [.ref a0, .int x1, .int v4, .int x3, .int x4, .int x5, Jk]) rfl dX13_month_122 rfl (by decide) rfl rfl ?_
          obtain ⟨v5, ev5, hf⟩ := bd_ex hf
          refine V.iinc (q := 126) (v := v5) (L' := [.ref a0, .int x1, .int v4, .int v5, .int x4, .int x5, Jk]) dX13_month_123 rfl rfl (Option.some.inj ev5) (by decide) rfl rfl ?_
          refine V.goto (q := 4) dX13_month_126 (by decide) ?_
          refine V.forget (L' := [.ref a0, .int x1, .int v4, .int v5, Jk, Jk, Jk]) ⟨Or.inr rfl, Or.inr rfl, Or.inr rfl, Or.inr rfl, Or.inl rfl, Or.inl rfl, Or.inl rfl, trivial⟩ ?_
          exact hk4 _ _ _ _ _ hf
  · rw [if_neg c] at hf
    refine V.iload (q := 35) dX13_month_33 rfl rfl ?_
    refine V.iload_n (q := 36) rfl dX13_month_35 rfl rfl ?_
    refine V.icmp_eq (q := 39) (tgt := 93) dX13_month_36 rfl (by decide) (fun c => ?_) (fun c => ?_)
    · rw [if_pos c] at hf
      obtain ⟨v3, ev3, hf⟩ := bd_ex hf
      refine V.iinc (q := 96) (v := v3) (L' := [.ref a0, .int x1, .int x2, .int x3, .int x4, .int v3, Jk]) dX13_month_93 rfl rfl (Option.some.inj ev3) (by decide) rfl rfl ?_
      refine V.goto (q := 21) dX13_month_96 (by decide) ?_
      exact hk21 _ _ _ _ _ _ _ hf
    · rw [if_neg c] at hf
      refine V.iload_n (q := 40) rfl dX13_month_39 rfl rfl ?_
      refine V.iload (q := 42) dX13_month_40 rfl rfl ?_
      obtain ⟨v3, h1, eh1, hf⟩ := bd2_ex hf
      refine V.callS (q := 45) (vs := [.int x1, .int x5]) (st := []) (S2 := [.int v3]) okX13_bit stX13_bit lkX13_199 (tX13_bit eh1) rfl (by decide) rfl (Nat.le_of_ble_eq_true rfl) (Nat.le_of_ble_eq_true rfl) rfl dX13_month_42 rfl rfl ?_
      refine V.if_ne (q := 48) (tgt := 51) dX13_month_45 rfl (by decide) (fun c => ?_) (fun c => ?_)
      · rw [if_neg c] at hf
        refine V.aload_n (q := 52) rfl dX13_month_51 rfl rfl ?_
        refine V.iload (q := 54) dX13_month_52 rfl rfl ?_
        refine V.aload_n (q := 55) rfl dX13_month_54 rfl rfl ?_
        obtain ⟨b4, eb4, hf⟩ := bd_ex hf
        refine V.getR (q := 58) flX13_338 rfl eb4 dX13_month_55 rfl ?_
        obtain ⟨b5, eb5, hf⟩ := bd_ex hf
        refine V.getR (q := 61) flX13_277 rfl eb5 dX13_month_58 rfl ?_
        refine V.iload_n (q := 62) rfl dX13_month_61 rfl rfl ?_
        obtain ⟨v6, ev6, hf⟩ := bd_ex hf
        refine V.iald (q := 63) ev6 dX13_month_62 rfl ?_
        obtain ⟨_, e7, hf⟩ := bd_ex hf
        obtain ⟨v8, h2, eh2, hf⟩ := bd2_ex hf
        refine V.callV (q := 66) (ci := 13) (vs := [.int x5, .int v6]) (st := []) (S2 := [.int v8]) okX13_saysBy imX13_saysBy seX13_saysBy rfl lkX13_349 (tX13_saysBy eh2) rfl (ck_is e7) (by decide) rfl (Nat.le_of_ble_eq_true rfl) (Nat.le_of_ble_eq_true rfl) rfl dX13_month_63 rfl rfl ?_
        refine V.istore (q := 68) (L' := [.ref a0, .int x1, .int x2, .int x3, .int x4, .int x5, .int v8]) dX13_month_66 rfl (by decide) rfl rfl ?_
        refine V.iload (q := 70) dX13_month_68 rfl rfl ?_
        refine V.iload (q := 72) dX13_month_70 rfl rfl ?_
        refine V.iconst (q := 73) (v := 1) (by decide) dX13_month_72 rfl ?_
        refine V.icmp_ne (q := 76) (tgt := 80) dX13_month_73 rfl (by decide) (fun c => ?_) (fun c => ?_)
        · rw [if_neg c] at hf
          refine V.iload (q := 82) dX13_month_80 rfl rfl ?_
          refine V.if_ne (q := 85) (tgt := 89) dX13_month_82 rfl (by decide) (fun c => ?_) (fun c => ?_)
          · rw [if_neg c] at hf
            refine V.iconst (q := 90) (v := 0) (by decide) dX13_month_89 rfl ?_
            refine V.iadd (q := 91) dX13_month_90 rfl ?_
            obtain ⟨v9, ev9, hf⟩ := bd_ex hf
            refine V.topI (Option.some.inj ev9) ?_
            refine V.istore (q := 93) (L' := [.ref a0, .int x1, .int x2, .int x3, .int v9, .int x5, .int v8]) dX13_month_91 rfl (by decide) rfl rfl ?_
            obtain ⟨v10, ev10, hf⟩ := bd_ex hf
            refine V.iinc (q := 96) (v := v10) (L' := [.ref a0, .int x1, .int x2, .int x3, .int v9, .int v10, .int v8]) dX13_month_93 rfl rfl (Option.some.inj ev10) (by decide) rfl rfl ?_
            refine V.goto (q := 21) dX13_month_96 (by decide) ?_
            refine V.forget (L' := [.ref a0, .int x1, .int x2, .int x3, .int v9, .int v10, Jk]) ⟨Or.inr rfl, Or.inr rfl, Or.inr rfl, Or.inr rfl, Or.inr rfl, Or.inr rfl, Or.inl rfl, trivial⟩ ?_
            exact hk21 _ _ _ _ _ _ _ hf
          · rw [if_pos c] at hf
            refine V.iconst (q := 86) (v := (-1)) (by decide) dX13_month_85 rfl ?_
            refine V.goto (q := 90) dX13_month_86 (by decide) ?_
            refine V.iadd (q := 91) dX13_month_90 rfl ?_
            obtain ⟨v9, ev9, hf⟩ := bd_ex hf
            refine V.topI (Option.some.inj ev9) ?_
            refine V.istore (q := 93) (L' := [.ref a0, .int x1, .int x2, .int x3, .int v9, .int x5, .int v8]) dX13_month_91 rfl (by decide) rfl rfl ?_
            obtain ⟨v10, ev10, hf⟩ := bd_ex hf
            refine V.iinc (q := 96) (v := v10) (L' := [.ref a0, .int x1, .int x2, .int x3, .int v9, .int v10, .int v8]) dX13_month_93 rfl rfl (Option.some.inj ev10) (by decide) rfl rfl ?_
            refine V.goto (q := 21) dX13_month_96 (by decide) ?_
            refine V.forget (L' := [.ref a0, .int x1, .int x2, .int x3, .int v9, .int v10, Jk]) ⟨Or.inr rfl, Or.inr rfl, Or.inr rfl, Or.inr rfl, Or.inr rfl, Or.inr rfl, Or.inl rfl, trivial⟩ ?_
            exact hk21 _ _ _ _ _ _ _ hf
        · rw [if_pos c] at hf
          refine V.iconst (q := 77) (v := 1) (by decide) dX13_month_76 rfl ?_
          refine V.goto (q := 90) dX13_month_77 (by decide) ?_
          refine V.iadd (q := 91) dX13_month_90 rfl ?_
          obtain ⟨v9, ev9, hf⟩ := bd_ex hf
          refine V.topI (Option.some.inj ev9) ?_
          refine V.istore (q := 93) (L' := [.ref a0, .int x1, .int x2, .int x3, .int v9, .int x5, .int v8]) dX13_month_91 rfl (by decide) rfl rfl ?_
          obtain ⟨v10, ev10, hf⟩ := bd_ex hf
          refine V.iinc (q := 96) (v := v10) (L' := [.ref a0, .int x1, .int x2, .int x3, .int v9, .int v10, .int v8]) dX13_month_93 rfl rfl (Option.some.inj ev10) (by decide) rfl rfl ?_
          refine V.goto (q := 21) dX13_month_96 (by decide) ?_
          refine V.forget (L' := [.ref a0, .int x1, .int x2, .int x3, .int v9, .int v10, Jk]) ⟨Or.inr rfl, Or.inr rfl, Or.inr rfl, Or.inr rfl, Or.inr rfl, Or.inr rfl, Or.inl rfl, trivial⟩ ?_
          exact hk21 _ _ _ _ _ _ _ hf
      · rw [if_pos c] at hf
        refine V.goto (q := 93) dX13_month_48 (by decide) ?_
        obtain ⟨v4, ev4, hf⟩ := bd_ex hf
        refine V.iinc (q := 96) (v := v4) (L' := [.ref a0, .int x1, .int x2, .int x3, .int x4, .int v4, Jk]) dX13_month_93 rfl rfl (Option.some.inj ev4) (by decide) rfl rfl ?_
        refine V.goto (q := 21) dX13_month_96 (by decide) ?_
        exact hk21 _ _ _ _ _ _ _ hf
def fX13_month_21 (k4 : MH → Nat → Int32 → Int32 → Int32 → Option (Int32 × MH)) : Nat → MH → Nat → Int32 → Int32 → Int32 → Int32 → Int32 → Option (Int32 × MH)
  | 0 => fun _ _ _ _ _ _ _ => none
  | n + 1 => bX13_month_21 k4 (fX13_month_21 k4 n)
theorem tlX13_month_21 {r : Int32} {h' : MH} (k4 : MH → Nat → Int32 → Int32 → Int32 → Option (Int32 × MH)) (hk4 : ∀ (h : MH) (a0 : Nat) (x1 : Int32) (x2 : Int32) (x3 : Int32), k4 h a0 x1 x2 x3 = some (r, h') → V TT mX13_month 3 (some (.int r)) h' h 4 [.ref a0, .int x1, .int x2, .int x3, Jk, Jk, Jk] [])  : ∀ (n : Nat) (h : MH) (a0 : Nat) (x1 : Int32) (x2 : Int32) (x3 : Int32) (x4 : Int32) (x5 : Int32), fX13_month_21 k4 n h a0 x1 x2 x3 x4 x5 = some (r, h') → V TT mX13_month 3 (some (.int r)) h' h 21 [.ref a0, .int x1, .int x2, .int x3, .int x4, .int x5, Jk] [] := by
  intro n
  induction n with
  | zero => intro h a0 x1 x2 x3 x4 x5 hf; exact nomatch (show (none : Option (Int32 × MH)) = some (r, h') from hf)
  | succ n ih => intro h a0 x1 x2 x3 x4 x5 hf; exact tX13_month_21 k4 hk4 (fX13_month_21 k4 n) ih hf
def bX13_month_4 (k4 : MH → Nat → Int32 → Int32 → Int32 → Option (Int32 × MH)) (h : MH) (a0 : Nat) (x1 : Int32) (x2 : Int32) (x3 : Int32) : Option (Int32 × MH) := bd (gR h a0 13 3) fun b1 => bd (gI h b1 12 3) fun v2 => if v2 ≤ x3 then (some (x2, h)) else (fX13_month_21 k4 FU h a0 x1 x2 x3 0 0)
set_option maxRecDepth 20000 in
theorem tX13_month_4 {r : Int32} {h' : MH} (k4 : MH → Nat → Int32 → Int32 → Int32 → Option (Int32 × MH)) (hk4 : ∀ (h : MH) (a0 : Nat) (x1 : Int32) (x2 : Int32) (x3 : Int32), k4 h a0 x1 x2 x3 = some (r, h') → V TT mX13_month 3 (some (.int r)) h' h 4 [.ref a0, .int x1, .int x2, .int x3, Jk, Jk, Jk] [])  {h : MH} {a0 : Nat} {x1 : Int32} {x2 : Int32} {x3 : Int32} (hf : bX13_month_4 k4 h a0 x1 x2 x3 = some (r, h')) : V TT mX13_month 3 (some (.int r)) h' h 4 [.ref a0, .int x1, .int x2, .int x3, Jk, Jk, Jk] [] := by
  unfold bX13_month_4 at hf
  refine V.iload_n (q := 5) rfl dX13_month_4 rfl rfl ?_
  refine V.aload_n (q := 6) rfl dX13_month_5 rfl rfl ?_
  obtain ⟨b1, eb1, hf⟩ := bd_ex hf
  refine V.getR (q := 9) flX13_338 rfl eb1 dX13_month_6 rfl ?_
  obtain ⟨v2, ev2, hf⟩ := bd_ex hf
  refine V.getI (q := 12) flX13_262 rfl ev2 dX13_month_9 rfl ?_
  refine V.icmp_ge (q := 15) (tgt := 129) dX13_month_12 rfl (by decide) (fun c => ?_) (fun c => ?_)
  · rw [if_pos c] at hf
    refine V.iload_n (q := 130) rfl dX13_month_129 rfl rfl ?_
    obtain ⟨rfl, rfl⟩ := ret_inj hf
    exact V.ret (r := some (.int x2)) trivial dX13_month_130
  · rw [if_neg c] at hf
    refine V.iconst (q := 16) (v := 0) (by decide) dX13_month_15 rfl ?_
    refine V.istore (q := 18) (L' := [.ref a0, .int x1, .int x2, .int x3, .int 0, Jk, Jk]) dX13_month_16 rfl (by decide) rfl rfl ?_
    refine V.iconst (q := 19) (v := 0) (by decide) dX13_month_18 rfl ?_
    refine V.istore (q := 21) (L' := [.ref a0, .int x1, .int x2, .int x3, .int 0, .int 0, Jk]) dX13_month_19 rfl (by decide) rfl rfl ?_
    exact tlX13_month_21 k4 hk4 FU _ _ _ _ _ _ _ hf
def fX13_month_4  : Nat → MH → Nat → Int32 → Int32 → Int32 → Option (Int32 × MH)
  | 0 => fun _ _ _ _ _ => none
  | n + 1 => bX13_month_4  (fX13_month_4  n)
theorem tlX13_month_4 {r : Int32} {h' : MH}   : ∀ (n : Nat) (h : MH) (a0 : Nat) (x1 : Int32) (x2 : Int32) (x3 : Int32), fX13_month_4  n h a0 x1 x2 x3 = some (r, h') → V TT mX13_month 3 (some (.int r)) h' h 4 [.ref a0, .int x1, .int x2, .int x3, Jk, Jk, Jk] [] := by
  intro n
  induction n with
  | zero => intro h a0 x1 x2 x3 hf; exact nomatch (show (none : Option (Int32 × MH)) = some (r, h') from hf)
  | succ n ih => intro h a0 x1 x2 x3 hf; exact tX13_month_4  (fX13_month_4  n) ih hf
def fX13_month (h : MH) (a0 : Nat) (x1 : Int32) : Option (Int32 × MH) := fX13_month_4 FU h a0 x1 0 0
set_option maxRecDepth 20000 in
theorem tX13_month {r : Int32} {h' : MH} {h : MH} {a0 : Nat} {x1 : Int32} (hf : fX13_month h a0 x1 = some (r, h')) : VM mX13_month 3 (some (.int r)) h' h [.ref a0, .int x1] := by
  show V TT mX13_month 3 _ h' h 0 [.ref a0, .int x1, Jk, Jk, Jk, Jk, Jk] []
  unfold fX13_month at hf
  refine V.iconst (q := 1) (v := 0) (by decide) dX13_month_0 rfl ?_
  refine V.istore_n (q := 2) (L' := [.ref a0, .int x1, .int 0, Jk, Jk, Jk, Jk]) rfl dX13_month_1 rfl (by decide) rfl rfl ?_
  refine V.iconst (q := 3) (v := 0) (by decide) dX13_month_2 rfl ?_
  refine V.istore_n (q := 4) (L' := [.ref a0, .int x1, .int 0, .int 0, Jk, Jk, Jk]) rfl dX13_month_3 rfl (by decide) rfl rfl ?_
  exact tlX13_month_4  FU _ _ _ _ _ hf
def bX13_good_41 (k41 : MH → Nat → Int32 → Int32 → Int32 → Option (Int32 × MH)) (h : MH) (a0 : Nat) (x1 : Int32) (x2 : Int32) (x3 : Int32) : Option (Int32 × MH) := if x1 ≤ x3 then (bd (ck h a0 13) fun _ => bd2 (fX13_good1 h a0 x2) fun v2 h1 => some (v2, h1)) else (bd (ck h a0 13) fun _ => bd2 (fX13_month h a0 x2) fun v2 h1 => bd (some (x3 + 1)) fun v3 => k41 h1 a0 x1 v2 v3)
set_option maxRecDepth 20000 in
theorem tX13_good_41 {r : Int32} {h' : MH} (k41 : MH → Nat → Int32 → Int32 → Int32 → Option (Int32 × MH)) (hk41 : ∀ (h : MH) (a0 : Nat) (x1 : Int32) (x2 : Int32) (x3 : Int32), k41 h a0 x1 x2 x3 = some (r, h') → V TT mX13_good 4 (some (.int r)) h' h 41 [.ref a0, .int x1, .int x2, .int x3] [])  {h : MH} {a0 : Nat} {x1 : Int32} {x2 : Int32} {x3 : Int32} (hf : bX13_good_41 k41 h a0 x1 x2 x3 = some (r, h')) : V TT mX13_good 4 (some (.int r)) h' h 41 [.ref a0, .int x1, .int x2, .int x3] [] := by
  unfold bX13_good_41 at hf
  refine V.iload_n (q := 42) rfl dX13_good_41 rfl rfl ?_
  refine V.iload_n (q := 43) rfl dX13_good_42 rfl rfl ?_
  refine V.icmp_ge (q := 46) (tgt := 58) dX13_good_43 rfl (by decide) (fun c => ?_) (fun c => ?_)
  · rw [if_pos c] at hf
    refine V.aload_n (q := 59) rfl dX13_good_58 rfl rfl ?_
    refine V.iload_n (q := 60) rfl dX13_good_59 rfl rfl ?_
    obtain ⟨_, e1, hf⟩ := bd_ex hf
    obtain ⟨v2, h1, eh1, hf⟩ := bd2_ex hf
    refine V.callV (q := 63) (ci := 13) (vs := [.int x2]) (st := []) (S2 := [.int v2]) okX13_good1 imX13_good1 seX13_good1 rfl lkX13_58 (tX13_good1 eh1) rfl (ck_is e1) (by decide) rfl (Nat.le_of_ble_eq_true rfl) (Nat.le_of_ble_eq_true rfl) rfl dX13_good_60 rfl rfl ?_
    obtain ⟨rfl, rfl⟩ := ret_inj hf
    exact V.ret (r := some (.int v2)) trivial dX13_good_63
  · rw [if_neg c] at hf
    refine V.aload_n (q := 47) rfl dX13_good_46 rfl rfl ?_
    refine V.iload_n (q := 48) rfl dX13_good_47 rfl rfl ?_
    obtain ⟨_, e1, hf⟩ := bd_ex hf
    obtain ⟨v2, h1, eh1, hf⟩ := bd2_ex hf
    refine V.callV (q := 51) (ci := 13) (vs := [.int x2]) (st := []) (S2 := [.int v2]) okX13_month imX13_month seX13_month rfl lkX13_444 (tX13_month eh1) rfl (ck_is e1) (by decide) rfl (Nat.le_of_ble_eq_true rfl) (Nat.le_of_ble_eq_true rfl) rfl dX13_good_48 rfl rfl ?_
    refine V.istore_n (q := 52) (L' := [.ref a0, .int x1, .int v2, .int x3]) rfl dX13_good_51 rfl (by decide) rfl rfl ?_
    obtain ⟨v3, ev3, hf⟩ := bd_ex hf
    refine V.iinc (q := 55) (v := v3) (L' := [.ref a0, .int x1, .int v2, .int v3]) dX13_good_52 rfl rfl (Option.some.inj ev3) (by decide) rfl rfl ?_
    refine V.goto (q := 41) dX13_good_55 (by decide) ?_
    exact hk41 _ _ _ _ _ hf
def fX13_good_41  : Nat → MH → Nat → Int32 → Int32 → Int32 → Option (Int32 × MH)
  | 0 => fun _ _ _ _ _ => none
  | n + 1 => bX13_good_41  (fX13_good_41  n)
theorem tlX13_good_41 {r : Int32} {h' : MH}   : ∀ (n : Nat) (h : MH) (a0 : Nat) (x1 : Int32) (x2 : Int32) (x3 : Int32), fX13_good_41  n h a0 x1 x2 x3 = some (r, h') → V TT mX13_good 4 (some (.int r)) h' h 41 [.ref a0, .int x1, .int x2, .int x3] [] := by
  intro n
  induction n with
  | zero => intro h a0 x1 x2 x3 hf; exact nomatch (show (none : Option (Int32 × MH)) = some (r, h') from hf)
  | succ n ih => intro h a0 x1 x2 x3 hf; exact tX13_good_41  (fX13_good_41  n) ih hf
def fX13_good (h : MH) (a0 : Nat) (x1 : Int32) : Option (Int32 × MH) := bd (pI h a0 13 0 0) fun h1 => bd (gZ h1 a0 13 3) fun z1 => if z1 = true then (bd (ck h1 a0 13) fun _ => bd2 (fX13_refused h1 a0 1) fun v6 h4 => some (v6, h4)) else (bd2 (fX13_in h1 x1 0 20) fun v2 h2 => if v2 = 0 then (bd (ck h2 a0 13) fun _ => bd2 (fX13_refused h2 a0 2) fun v4 h3 => some (v4, h3)) else (bd (ck h2 a0 13) fun _ => bd2 (fX13_allStamps h2 a0 ) fun v4 h3 => fX13_good_41 FU h3 a0 x1 v4 0))
set_option maxRecDepth 20000 in
theorem tX13_good {r : Int32} {h' : MH} {h : MH} {a0 : Nat} {x1 : Int32} (hf : fX13_good h a0 x1 = some (r, h')) : VM mX13_good 4 (some (.int r)) h' h [.ref a0, .int x1] := by
  show V TT mX13_good 4 _ h' h 0 [.ref a0, .int x1, Jk, Jk] []
  unfold fX13_good at hf
  refine V.aload_n (q := 1) rfl dX13_good_0 rfl rfl ?_
  refine V.iconst (q := 2) (v := 0) (by decide) dX13_good_1 rfl ?_
  obtain ⟨h1, eh1, hf⟩ := bd_ex hf
  refine V.putI (q := 5) (fpX13_48 rfl) rfl eh1 dX13_good_2 rfl ?_
  refine V.aload_n (q := 6) rfl dX13_good_5 rfl rfl ?_
  obtain ⟨z1, ez1, hf⟩ := bd_ex hf
  refine V.getZN (q := 9) (q2 := 12) (tgt := 18) flX13_338 rfl ez1 dX13_good_6 rfl dX13_good_9 rfl (by decide) (fun c => ?_) (fun c => ?_)
  · rw [if_neg c] at hf
    refine V.iload_n (q := 19) rfl dX13_good_18 rfl rfl ?_
    refine V.iconst (q := 20) (v := 0) (by decide) dX13_good_19 rfl ?_
    refine V.bipush (q := 22) (v := 20) (by decide) dX13_good_20 rfl ?_
    obtain ⟨v2, h2, eh2, hf⟩ := bd2_ex hf
    refine V.callS (q := 25) (vs := [.int x1, .int 0, .int 20]) (st := []) (S2 := [.int v2]) okX13_in stX13_in lkX13_127 (tX13_in eh2) rfl (by decide) rfl (Nat.le_of_ble_eq_true rfl) (Nat.le_of_ble_eq_true rfl) rfl dX13_good_22 rfl rfl ?_
    refine V.if_ne (q := 28) (tgt := 34) dX13_good_25 rfl (by decide) (fun c => ?_) (fun c => ?_)
    · rw [if_neg c] at hf
      refine V.aload_n (q := 35) rfl dX13_good_34 rfl rfl ?_
      obtain ⟨_, e3, hf⟩ := bd_ex hf
      obtain ⟨v4, h3, eh3, hf⟩ := bd2_ex hf
      refine V.callV (q := 38) (ci := 13) (vs := []) (st := []) (S2 := [.int v4]) okX13_allStamps imX13_allStamps seX13_allStamps rfl lkX13_441 (tX13_allStamps eh3) rfl (ck_is e3) (by decide) rfl (Nat.le_of_ble_eq_true rfl) (Nat.le_of_ble_eq_true rfl) rfl dX13_good_35 rfl rfl ?_
      refine V.istore_n (q := 39) (L' := [.ref a0, .int x1, .int v4, Jk]) rfl dX13_good_38 rfl (by decide) rfl rfl ?_
      refine V.iconst (q := 40) (v := 0) (by decide) dX13_good_39 rfl ?_
      refine V.istore_n (q := 41) (L' := [.ref a0, .int x1, .int v4, .int 0]) rfl dX13_good_40 rfl (by decide) rfl rfl ?_
      exact tlX13_good_41  FU _ _ _ _ _ hf
    · rw [if_pos c] at hf
      refine V.aload_n (q := 29) rfl dX13_good_28 rfl rfl ?_
      refine V.iconst (q := 30) (v := 2) (by decide) dX13_good_29 rfl ?_
      obtain ⟨_, e3, hf⟩ := bd_ex hf
      obtain ⟨v4, h3, eh3, hf⟩ := bd2_ex hf
      refine V.callV (q := 33) (ci := 13) (vs := [.int 2]) (st := []) (S2 := [.int v4]) okX13_refused imX13_refused seX13_refused rfl lkX13_54 (tX13_refused eh3) rfl (ck_is e3) (by decide) rfl (Nat.le_of_ble_eq_true rfl) (Nat.le_of_ble_eq_true rfl) rfl dX13_good_30 rfl rfl ?_
      obtain ⟨rfl, rfl⟩ := ret_inj hf
      exact V.ret (r := some (.int v4)) trivial dX13_good_33
  · rw [if_pos c] at hf
    refine V.aload_n (q := 13) rfl dX13_good_12 rfl rfl ?_
    refine V.iconst (q := 14) (v := 1) (by decide) dX13_good_13 rfl ?_
    obtain ⟨_, e5, hf⟩ := bd_ex hf
    obtain ⟨v6, h4, eh4, hf⟩ := bd2_ex hf
    refine V.callV (q := 17) (ci := 13) (vs := [.int 1]) (st := []) (S2 := [.int v6]) okX13_refused imX13_refused seX13_refused rfl lkX13_54 (tX13_refused eh4) rfl (ck_is e5) (by decide) rfl (Nat.le_of_ble_eq_true rfl) (Nat.le_of_ble_eq_true rfl) rfl dX13_good_14 rfl rfl ?_
    obtain ⟨rfl, rfl⟩ := ret_inj hf
    exact V.ret (r := some (.int v6)) trivial dX13_good_17
def fX13_isHand (h : MH) (a0 : Nat) (x1 : Int32) : Option (Int32 × MH) := bd (gZ h a0 13 3) fun z1 => if z1 = true then (some (0, h)) else (if x1 < 0 then (some (0, h)) else (bd (gR h a0 13 3) fun b2 => bd (gI h b2 12 5) fun v3 => if v3 ≤ x1 then (some (0, h)) else (some (1, h))))
set_option maxRecDepth 20000 in
theorem tX13_isHand {r : Int32} {h' : MH} {h : MH} {a0 : Nat} {x1 : Int32} (hf : fX13_isHand h a0 x1 = some (r, h')) : VM mX13_isHand 0 (some (.int r)) h' h [.ref a0, .int x1] := by
  show V TT mX13_isHand 0 _ h' h 0 [.ref a0, .int x1] []
  unfold fX13_isHand at hf
  refine V.aload_n (q := 1) rfl dX13_isHand_0 rfl rfl ?_
  obtain ⟨z1, ez1, hf⟩ := bd_ex hf
  refine V.getZ (q := 4) (q2 := 7) (tgt := 26) flX13_338 rfl ez1 dX13_isHand_1 rfl dX13_isHand_4 rfl (by decide) (fun c => ?_) (fun c => ?_)
  · rw [if_pos c] at hf
    refine V.iconst (q := 27) (v := 0) (by decide) dX13_isHand_26 rfl ?_
    obtain ⟨rfl, rfl⟩ := ret_inj hf
    exact V.ret (r := some (.int 0)) (Or.inl rfl) dX13_isHand_27
  · rw [if_neg c] at hf
    refine V.iload_n (q := 8) rfl dX13_isHand_7 rfl rfl ?_
    refine V.if_lt (q := 11) (tgt := 26) dX13_isHand_8 rfl (by decide) (fun c => ?_) (fun c => ?_)
    · rw [if_pos c] at hf
      refine V.iconst (q := 27) (v := 0) (by decide) dX13_isHand_26 rfl ?_
      obtain ⟨rfl, rfl⟩ := ret_inj hf
      exact V.ret (r := some (.int 0)) (Or.inl rfl) dX13_isHand_27
    · rw [if_neg c] at hf
      refine V.iload_n (q := 12) rfl dX13_isHand_11 rfl rfl ?_
      refine V.aload_n (q := 13) rfl dX13_isHand_12 rfl rfl ?_
      obtain ⟨b2, eb2, hf⟩ := bd_ex hf
      refine V.getR (q := 16) flX13_338 rfl eb2 dX13_isHand_13 rfl ?_
      obtain ⟨v3, ev3, hf⟩ := bd_ex hf
      refine V.getI (q := 19) flX13_298 rfl ev3 dX13_isHand_16 rfl ?_
      refine V.icmp_ge (q := 22) (tgt := 26) dX13_isHand_19 rfl (by decide) (fun c => ?_) (fun c => ?_)
      · rw [if_pos c] at hf
        refine V.iconst (q := 27) (v := 0) (by decide) dX13_isHand_26 rfl ?_
        obtain ⟨rfl, rfl⟩ := ret_inj hf
        exact V.ret (r := some (.int 0)) (Or.inl rfl) dX13_isHand_27
      · rw [if_neg c] at hf
        refine V.iconst (q := 23) (v := 1) (by decide) dX13_isHand_22 rfl ?_
        refine V.goto (q := 27) dX13_isHand_23 (by decide) ?_
        obtain ⟨rfl, rfl⟩ := ret_inj hf
        exact V.ret (r := some (.int 1)) (Or.inr rfl) dX13_isHand_27
def fX13_hand (h : MH) (a0 : Nat) (x1 : Int32) (x2 : Int32) : Option (Int32 × MH) := bd (pI h a0 13 0 0) fun h1 => bd (ck h1 a0 13) fun _ => bd2 (fX13_isHand h1 a0 x1) fun v2 h2 => if v2 = 0 then (bd (ck h2 a0 13) fun _ => bd2 (fX13_refused h2 a0 1) fun v4 h3 => some (v4, h3)) else (bd2 (fX13_in h2 x2 0 2) fun v3 h3 => if v3 = 0 then (bd (ck h3 a0 13) fun _ => bd2 (fX13_refused h3 a0 1) fun v5 h4 => some (v5, h4)) else (if x2 = 0 then (bd (gR h3 a0 13 3) fun b4 => bd (gR h3 b4 12 19) fun b5 => bd (lI h3 b5 x1) fun v6 => bd (ck h3 a0 13) fun _ => bd2 (fX13_good1 h3 a0 v6) fun v8 h4 => some (v8, h4)) else (if x2 = 1 then (bd (gR h3 a0 13 3) fun b4 => bd (gR h3 b4 12 20) fun b5 => bd (lI h3 b5 x1) fun v6 => bd (ck h3 a0 13) fun _ => bd2 (fX13_good1 h3 a0 v6) fun v8 h4 => some (v8, h4)) else (bd (gR h3 a0 13 15) fun b4 => bd (lI h3 b4 (8 + x1)) fun v5 => bd (ck h3 a0 13) fun _ => bd2 (fX13_good1 h3 a0 v5) fun v7 h4 => some (v7, h4)))))
set_option maxRecDepth 20000 in
theorem tX13_hand {r : Int32} {h' : MH} {h : MH} {a0 : Nat} {x1 : Int32} {x2 : Int32} (hf : fX13_hand h a0 x1 x2 = some (r, h')) : VM mX13_hand 1 (some (.int r)) h' h [.ref a0, .int x1, .int x2] := by
  show V TT mX13_hand 1 _ h' h 0 [.ref a0, .int x1, .int x2] []
  unfold fX13_hand at hf
  refine V.aload_n (q := 1) rfl dX13_hand_0 rfl rfl ?_
  refine V.iconst (q := 2) (v := 0) (by decide) dX13_hand_1 rfl ?_
  obtain ⟨h1, eh1, hf⟩ := bd_ex hf
  refine V.putI (q := 5) (fpX13_48 rfl) rfl eh1 dX13_hand_2 rfl ?_
  refine V.aload_n (q := 6) rfl dX13_hand_5 rfl rfl ?_
  refine V.iload_n (q := 7) rfl dX13_hand_6 rfl rfl ?_
  obtain ⟨_, e1, hf⟩ := bd_ex hf
  obtain ⟨v2, h2, eh2, hf⟩ := bd2_ex hf
  refine V.callV (q := 10) (ci := 13) (vs := [.int x1]) (st := []) (S2 := [.int v2]) okX13_isHand imX13_isHand seX13_isHand rfl lkX13_361 (tX13_isHand eh2) rfl (ck_is e1) (by decide) rfl (Nat.le_of_ble_eq_true rfl) (Nat.le_of_ble_eq_true rfl) rfl dX13_hand_7 rfl rfl ?_
  refine V.if_eq (q := 13) (tgt := 22) dX13_hand_10 rfl (by decide) (fun c => ?_) (fun c => ?_)
  · rw [if_pos c] at hf
    refine V.aload_n (q := 23) rfl dX13_hand_22 rfl rfl ?_
    refine V.iconst (q := 24) (v := 1) (by decide) dX13_hand_23 rfl ?_
    obtain ⟨_, e3, hf⟩ := bd_ex hf
    obtain ⟨v4, h3, eh3, hf⟩ := bd2_ex hf
    refine V.callV (q := 27) (ci := 13) (vs := [.int 1]) (st := []) (S2 := [.int v4]) okX13_refused imX13_refused seX13_refused rfl lkX13_54 (tX13_refused eh3) rfl (ck_is e3) (by decide) rfl (Nat.le_of_ble_eq_true rfl) (Nat.le_of_ble_eq_true rfl) rfl dX13_hand_24 rfl rfl ?_
    obtain ⟨rfl, rfl⟩ := ret_inj hf
    exact V.ret (r := some (.int v4)) trivial dX13_hand_27
  · rw [if_neg c] at hf
    refine V.iload_n (q := 14) rfl dX13_hand_13 rfl rfl ?_
    refine V.iconst (q := 15) (v := 0) (by decide) dX13_hand_14 rfl ?_
    refine V.iconst (q := 16) (v := 2) (by decide) dX13_hand_15 rfl ?_
    obtain ⟨v3, h3, eh3, hf⟩ := bd2_ex hf
    refine V.callS (q := 19) (vs := [.int x2, .int 0, .int 2]) (st := []) (S2 := [.int v3]) okX13_in stX13_in lkX13_127 (tX13_in eh3) rfl (by decide) rfl (Nat.le_of_ble_eq_true rfl) (Nat.le_of_ble_eq_true rfl) rfl dX13_hand_16 rfl rfl ?_
    refine V.if_ne (q := 22) (tgt := 28) dX13_hand_19 rfl (by decide) (fun c => ?_) (fun c => ?_)
    · rw [if_neg c] at hf
      refine V.aload_n (q := 29) rfl dX13_hand_28 rfl rfl ?_
      refine V.iload_n (q := 30) rfl dX13_hand_29 rfl rfl ?_
      refine V.if_ne (q := 33) (tgt := 45) dX13_hand_30 rfl (by decide) (fun c => ?_) (fun c => ?_)
      · rw [if_neg c] at hf
        refine V.iload_n (q := 46) rfl dX13_hand_45 rfl rfl ?_
        refine V.iconst (q := 47) (v := 1) (by decide) dX13_hand_46 rfl ?_
        refine V.icmp_ne (q := 50) (tgt := 62) dX13_hand_47 rfl (by decide) (fun c => ?_) (fun c => ?_)
        · rw [if_neg c] at hf
          refine V.aload_n (q := 63) rfl dX13_hand_62 rfl rfl ?_
          obtain ⟨b4, eb4, hf⟩ := bd_ex hf
          refine V.getR (q := 66) flX13_17 rfl eb4 dX13_hand_63 rfl ?_
          refine V.bipush (q := 68) (v := 8) (by decide) dX13_hand_66 rfl ?_
          refine V.iload_n (q := 69) rfl dX13_hand_68 rfl rfl ?_
          refine V.iadd (q := 70) dX13_hand_69 rfl ?_
          obtain ⟨v5, ev5, hf⟩ := bd_ex hf
          refine V.iald (q := 71) ev5 dX13_hand_70 rfl ?_
          obtain ⟨_, e6, hf⟩ := bd_ex hf
          obtain ⟨v7, h4, eh4, hf⟩ := bd2_ex hf
          refine V.callV (q := 74) (ci := 13) (vs := [.int v5]) (st := []) (S2 := [.int v7]) okX13_good1 imX13_good1 seX13_good1 rfl lkX13_58 (tX13_good1 eh4) rfl (ck_is e6) (by decide) rfl (Nat.le_of_ble_eq_true rfl) (Nat.le_of_ble_eq_true rfl) rfl dX13_hand_71 rfl rfl ?_
          obtain ⟨rfl, rfl⟩ := ret_inj hf
          exact V.ret (r := some (.int v7)) trivial dX13_hand_74
        · rw [if_pos c] at hf
          refine V.aload_n (q := 51) rfl dX13_hand_50 rfl rfl ?_
          obtain ⟨b4, eb4, hf⟩ := bd_ex hf
          refine V.getR (q := 54) flX13_338 rfl eb4 dX13_hand_51 rfl ?_
          obtain ⟨b5, eb5, hf⟩ := bd_ex hf
          refine V.getR (q := 57) flX13_313 rfl eb5 dX13_hand_54 rfl ?_
          refine V.iload_n (q := 58) rfl dX13_hand_57 rfl rfl ?_
          obtain ⟨v6, ev6, hf⟩ := bd_ex hf
          refine V.iald (q := 59) ev6 dX13_hand_58 rfl ?_
          refine V.goto (q := 71) dX13_hand_59 (by decide) ?_
          obtain ⟨_, e7, hf⟩ := bd_ex hf
          obtain ⟨v8, h4, eh4, hf⟩ := bd2_ex hf
          refine V.callV (q := 74) (ci := 13) (vs := [.int v6]) (st := []) (S2 := [.int v8]) okX13_good1 imX13_good1 seX13_good1 rfl lkX13_58 (tX13_good1 eh4) rfl (ck_is e7) (by decide) rfl (Nat.le_of_ble_eq_true rfl) (Nat.le_of_ble_eq_true rfl) rfl dX13_hand_71 rfl rfl ?_
          obtain ⟨rfl, rfl⟩ := ret_inj hf
          exact V.ret (r := some (.int v8)) trivial dX13_hand_74
      · rw [if_pos c] at hf
        refine V.aload_n (q := 34) rfl dX13_hand_33 rfl rfl ?_
        obtain ⟨b4, eb4, hf⟩ := bd_ex hf
        refine V.getR (q := 37) flX13_338 rfl eb4 dX13_hand_34 rfl ?_
        obtain ⟨b5, eb5, hf⟩ := bd_ex hf
        refine V.getR (q := 40) flX13_311 rfl eb5 dX13_hand_37 rfl ?_
        refine V.iload_n (q := 41) rfl dX13_hand_40 rfl rfl ?_
        obtain ⟨v6, ev6, hf⟩ := bd_ex hf
        refine V.iald (q := 42) ev6 dX13_hand_41 rfl ?_
        refine V.goto (q := 71) dX13_hand_42 (by decide) ?_
        obtain ⟨_, e7, hf⟩ := bd_ex hf
        obtain ⟨v8, h4, eh4, hf⟩ := bd2_ex hf
        refine V.callV (q := 74) (ci := 13) (vs := [.int v6]) (st := []) (S2 := [.int v8]) okX13_good1 imX13_good1 seX13_good1 rfl lkX13_58 (tX13_good1 eh4) rfl (ck_is e7) (by decide) rfl (Nat.le_of_ble_eq_true rfl) (Nat.le_of_ble_eq_true rfl) rfl dX13_hand_71 rfl rfl ?_
        obtain ⟨rfl, rfl⟩ := ret_inj hf
        exact V.ret (r := some (.int v8)) trivial dX13_hand_74
    · rw [if_pos c] at hf
      refine V.aload_n (q := 23) rfl dX13_hand_22 rfl rfl ?_
      refine V.iconst (q := 24) (v := 1) (by decide) dX13_hand_23 rfl ?_
      obtain ⟨_, e4, hf⟩ := bd_ex hf
      obtain ⟨v5, h4, eh4, hf⟩ := bd2_ex hf
      refine V.callV (q := 27) (ci := 13) (vs := [.int 1]) (st := []) (S2 := [.int v5]) okX13_refused imX13_refused seX13_refused rfl lkX13_54 (tX13_refused eh4) rfl (ck_is e4) (by decide) rfl (Nat.le_of_ble_eq_true rfl) (Nat.le_of_ble_eq_true rfl) rfl dX13_hand_24 rfl rfl ?_
      obtain ⟨rfl, rfl⟩ := ret_inj hf
      exact V.ret (r := some (.int v5)) trivial dX13_hand_27
def fX13_has (h : MH) (a0 : Nat) (x1 : Int32) (x2 : Int32) : Option (Int32 × MH) := bd (pI h a0 13 0 0) fun h1 => bd (ck h1 a0 13) fun _ => bd2 (fX13_isStamp h1 a0 x1) fun v2 h2 => if v2 = 0 then (bd (ck h2 a0 13) fun _ => bd2 (fX13_refused h2 a0 1) fun v4 h3 => some (v4, h3)) else (bd (ck h2 a0 13) fun _ => bd2 (fX13_isPaper h2 a0 x2) fun v4 h3 => if v4 = 0 then (bd (ck h3 a0 13) fun _ => bd2 (fX13_refused h3 a0 1) fun v6 h4 => some (v6, h4)) else (bd (ck h3 a0 13) fun _ => bd2 (fX13_hasBy h3 a0 x1 x2) fun v6 h4 => bd (ck h4 a0 13) fun _ => bd2 (fX13_good1 h4 a0 v6) fun v8 h5 => some (v8, h5)))
set_option maxRecDepth 20000 in
theorem tX13_has {r : Int32} {h' : MH} {h : MH} {a0 : Nat} {x1 : Int32} {x2 : Int32} (hf : fX13_has h a0 x1 x2 = some (r, h')) : VM mX13_has 5 (some (.int r)) h' h [.ref a0, .int x1, .int x2] := by
  show V TT mX13_has 5 _ h' h 0 [.ref a0, .int x1, .int x2] []
  unfold fX13_has at hf
  refine V.aload_n (q := 1) rfl dX13_has_0 rfl rfl ?_
  refine V.iconst (q := 2) (v := 0) (by decide) dX13_has_1 rfl ?_
  obtain ⟨h1, eh1, hf⟩ := bd_ex hf
  refine V.putI (q := 5) (fpX13_48 rfl) rfl eh1 dX13_has_2 rfl ?_
  refine V.aload_n (q := 6) rfl dX13_has_5 rfl rfl ?_
  refine V.iload_n (q := 7) rfl dX13_has_6 rfl rfl ?_
  obtain ⟨_, e1, hf⟩ := bd_ex hf
  obtain ⟨v2, h2, eh2, hf⟩ := bd2_ex hf
  refine V.callV (q := 10) (ci := 13) (vs := [.int x1]) (st := []) (S2 := [.int v2]) okX13_isStamp imX13_isStamp seX13_isStamp rfl lkX13_358 (tX13_isStamp eh2) rfl (ck_is e1) (by decide) rfl (Nat.le_of_ble_eq_true rfl) (Nat.le_of_ble_eq_true rfl) rfl dX13_has_7 rfl rfl ?_
  refine V.if_eq (q := 13) (tgt := 34) dX13_has_10 rfl (by decide) (fun c => ?_) (fun c => ?_)
  · rw [if_pos c] at hf
    refine V.aload_n (q := 35) rfl dX13_has_34 rfl rfl ?_
    refine V.iconst (q := 36) (v := 1) (by decide) dX13_has_35 rfl ?_
    obtain ⟨_, e3, hf⟩ := bd_ex hf
    obtain ⟨v4, h3, eh3, hf⟩ := bd2_ex hf
    refine V.callV (q := 39) (ci := 13) (vs := [.int 1]) (st := []) (S2 := [.int v4]) okX13_refused imX13_refused seX13_refused rfl lkX13_54 (tX13_refused eh3) rfl (ck_is e3) (by decide) rfl (Nat.le_of_ble_eq_true rfl) (Nat.le_of_ble_eq_true rfl) rfl dX13_has_36 rfl rfl ?_
    obtain ⟨rfl, rfl⟩ := ret_inj hf
    exact V.ret (r := some (.int v4)) trivial dX13_has_39
  · rw [if_neg c] at hf
    refine V.aload_n (q := 14) rfl dX13_has_13 rfl rfl ?_
    refine V.iload_n (q := 15) rfl dX13_has_14 rfl rfl ?_
    obtain ⟨_, e3, hf⟩ := bd_ex hf
    obtain ⟨v4, h3, eh3, hf⟩ := bd2_ex hf
    refine V.callV (q := 18) (ci := 13) (vs := [.int x2]) (st := []) (S2 := [.int v4]) okX13_isPaper imX13_isPaper seX13_isPaper rfl lkX13_355 (tX13_isPaper eh3) rfl (ck_is e3) (by decide) rfl (Nat.le_of_ble_eq_true rfl) (Nat.le_of_ble_eq_true rfl) rfl dX13_has_15 rfl rfl ?_
    refine V.if_eq (q := 21) (tgt := 34) dX13_has_18 rfl (by decide) (fun c => ?_) (fun c => ?_)
    · rw [if_pos c] at hf
      refine V.aload_n (q := 35) rfl dX13_has_34 rfl rfl ?_
      refine V.iconst (q := 36) (v := 1) (by decide) dX13_has_35 rfl ?_
      obtain ⟨_, e5, hf⟩ := bd_ex hf
      obtain ⟨v6, h4, eh4, hf⟩ := bd2_ex hf
      refine V.callV (q := 39) (ci := 13) (vs := [.int 1]) (st := []) (S2 := [.int v6]) okX13_refused imX13_refused seX13_refused rfl lkX13_54 (tX13_refused eh4) rfl (ck_is e5) (by decide) rfl (Nat.le_of_ble_eq_true rfl) (Nat.le_of_ble_eq_true rfl) rfl dX13_has_36 rfl rfl ?_
      obtain ⟨rfl, rfl⟩ := ret_inj hf
      exact V.ret (r := some (.int v6)) trivial dX13_has_39
    · rw [if_neg c] at hf
      refine V.aload_n (q := 22) rfl dX13_has_21 rfl rfl ?_
      refine V.aload_n (q := 23) rfl dX13_has_22 rfl rfl ?_
      refine V.iload_n (q := 24) rfl dX13_has_23 rfl rfl ?_
      refine V.iload_n (q := 25) rfl dX13_has_24 rfl rfl ?_
      obtain ⟨_, e5, hf⟩ := bd_ex hf
      obtain ⟨v6, h4, eh4, hf⟩ := bd2_ex hf
      refine V.callV (q := 28) (ci := 13) (vs := [.int x1, .int x2]) (st := [.ref a0]) (S2 := [.int v6, .ref a0]) okX13_hasBy imX13_hasBy seX13_hasBy rfl lkX13_447 (tX13_hasBy eh4) rfl (ck_is e5) (by decide) rfl (Nat.le_of_ble_eq_true rfl) (Nat.le_of_ble_eq_true rfl) rfl dX13_has_25 rfl rfl ?_
      obtain ⟨_, e7, hf⟩ := bd_ex hf
      obtain ⟨v8, h5, eh5, hf⟩ := bd2_ex hf
      refine V.callV (q := 31) (ci := 13) (vs := [.int v6]) (st := []) (S2 := [.int v8]) okX13_good1 imX13_good1 seX13_good1 rfl lkX13_58 (tX13_good1 eh5) rfl (ck_is e7) (by decide) rfl (Nat.le_of_ble_eq_true rfl) (Nat.le_of_ble_eq_true rfl) rfl dX13_has_28 rfl rfl ?_
      refine V.goto (q := 39) dX13_has_31 (by decide) ?_
      obtain ⟨rfl, rfl⟩ := ret_inj hf
      exact V.ret (r := some (.int v8)) trivial dX13_has_39
def bX13_idleRules_65 (k65 : MH → Nat → Int32 → Int32 → Int32 → Option (Int32 × MH)) (h : MH) (a0 : Nat) (x1 : Int32) (x2 : Int32) (x3 : Int32) : Option (Int32 × MH) := bd (ck h a0 13) fun _ => bd2 (fX13_allMarks h a0 ) fun v2 h1 => if v2 ≤ x3 then (bd (ck h1 a0 13) fun _ => bd2 (fX13_good1 h1 a0 x2) fun v4 h2 => some (v4, h2)) else (bd (ck h1 a0 13) fun _ => bd2 (fX13_ruleFor h1 a0 x1 x3) fun v4 h2 => if v4 = (-2) then (bd (some (x3 + 1)) fun v5 => k65 h2 a0 x1 x2 v5) else (bd (some (x2 &&& ((1 <<< (v4 &&& 31)) ^^^ (-1)))) fun v5 => bd (some (x3 + 1)) fun v6 => k65 h2 a0 x1 v5 v6))
set_option maxRecDepth 20000 in
theorem tX13_idleRules_65 {r : Int32} {h' : MH} (k65 : MH → Nat → Int32 → Int32 → Int32 → Option (Int32 × MH)) (hk65 : ∀ (h : MH) (a0 : Nat) (x1 : Int32) (x2 : Int32) (x3 : Int32), k65 h a0 x1 x2 x3 = some (r, h') → V TT mX13_idleRules 2 (some (.int r)) h' h 65 [.ref a0, .int x1, .int x2, .int x3, Jk] [])  {h : MH} {a0 : Nat} {x1 : Int32} {x2 : Int32} {x3 : Int32} (hf : bX13_idleRules_65 k65 h a0 x1 x2 x3 = some (r, h')) : V TT mX13_idleRules 2 (some (.int r)) h' h 65 [.ref a0, .int x1, .int x2, .int x3, Jk] [] := by
  unfold bX13_idleRules_65 at hf
  refine V.iload_n (q := 66) rfl dX13_idleRules_65 rfl rfl ?_
  refine V.aload_n (q := 67) rfl dX13_idleRules_66 rfl rfl ?_
  obtain ⟨_, e1, hf⟩ := bd_ex hf
  obtain ⟨v2, h1, eh1, hf⟩ := bd2_ex hf
  refine V.callV (q := 70) (ci := 13) (vs := []) (st := [.int x3]) (S2 := [.int v2, .int x3]) okX13_allMarks imX13_allMarks seX13_allMarks rfl lkX13_370 (tX13_allMarks eh1) rfl (ck_is e1) (by decide) rfl (Nat.le_of_ble_eq_true rfl) (Nat.le_of_ble_eq_true rfl) rfl dX13_idleRules_67 rfl rfl ?_
  refine V.icmp_ge (q := 73) (tgt := 103) dX13_idleRules_70 rfl (by decide) (fun c => ?_) (fun c => ?_)
  · rw [if_pos c] at hf
    refine V.aload_n (q := 104) rfl dX13_idleRules_103 rfl rfl ?_
    refine V.iload_n (q := 105) rfl dX13_idleRules_104 rfl rfl ?_
    obtain ⟨_, e3, hf⟩ := bd_ex hf
    obtain ⟨v4, h2, eh2, hf⟩ := bd2_ex hf
    refine V.callV (q := 108) (ci := 13) (vs := [.int x2]) (st := []) (S2 := [.int v4]) okX13_good1 imX13_good1 seX13_good1 rfl lkX13_58 (tX13_good1 eh2) rfl (ck_is e3) (by decide) rfl (Nat.le_of_ble_eq_true rfl) (Nat.le_of_ble_eq_true rfl) rfl dX13_idleRules_105 rfl rfl ?_
    obtain ⟨rfl, rfl⟩ := ret_inj hf
    exact V.ret (r := some (.int v4)) trivial dX13_idleRules_108
  · rw [if_neg c] at hf
    refine V.aload_n (q := 74) rfl dX13_idleRules_73 rfl rfl ?_
    refine V.iload_n (q := 75) rfl dX13_idleRules_74 rfl rfl ?_
    refine V.iload_n (q := 76) rfl dX13_idleRules_75 rfl rfl ?_
    obtain ⟨_, e3, hf⟩ := bd_ex hf
    obtain ⟨v4, h2, eh2, hf⟩ := bd2_ex hf
    refine V.callV (q := 79) (ci := 13) (vs := [.int x1, .int x3]) (st := []) (S2 := [.int v4]) okX13_ruleFor imX13_ruleFor seX13_ruleFor rfl lkX13_346 (tX13_ruleFor eh2) rfl (ck_is e3) (by decide) rfl (Nat.le_of_ble_eq_true rfl) (Nat.le_of_ble_eq_true rfl) rfl dX13_idleRules_76 rfl rfl ?_
    refine V.istore (q := 81) (L' := [.ref a0, .int x1, .int x2, .int x3, .int v4]) dX13_idleRules_79 rfl (by decide) rfl rfl ?_
    refine V.iload (q := 83) dX13_idleRules_81 rfl rfl ?_
    refine V.bipush (q := 85) (v := (-2)) (by decide) dX13_idleRules_83 rfl ?_
    refine V.icmp_eq (q := 88) (tgt := 97) dX13_idleRules_85 rfl (by decide) (fun c => ?_) (fun c => ?_)
    · rw [if_pos c] at hf
      obtain ⟨v5, ev5, hf⟩ := bd_ex hf
      refine V.iinc (q := 100) (v := v5) (L' := [.ref a0, .int x1, .int x2, .int v5, .int v4]) dX13_idleRules_97 rfl rfl (Option.some.inj ev5) (by decide) rfl rfl ?_
      refine V.goto (q := 65) dX13_idleRules_100 (by decide) ?_
      refine V.forget (L' := [.ref a0, .int x1, .int x2, .int v5, Jk]) ⟨Or.inr rfl, Or.inr rfl, Or.inr rfl, Or.inr rfl, Or.inl rfl, trivial⟩ ?_
      exact hk65 _ _ _ _ _ hf
    · rw [if_neg c] at hf
      refine V.iload_n (q := 89) rfl dX13_idleRules_88 rfl rfl ?_
      refine V.iconst (q := 90) (v := 1) (by decide) dX13_idleRules_89 rfl ?_
      refine V.iload (q := 92) dX13_idleRules_90 rfl rfl ?_
      refine V.ishl (q := 93) dX13_idleRules_92 rfl ?_
      refine V.iconst (q := 94) (v := (-1)) (by decide) dX13_idleRules_93 rfl ?_
      refine V.ixor (q := 95) dX13_idleRules_94 rfl ?_
      refine V.iand (q := 96) dX13_idleRules_95 rfl ?_
      obtain ⟨v5, ev5, hf⟩ := bd_ex hf
      refine V.topI (Option.some.inj ev5) ?_
      refine V.istore_n (q := 97) (L' := [.ref a0, .int x1, .int v5, .int x3, .int v4]) rfl dX13_idleRules_96 rfl (by decide) rfl rfl ?_
      obtain ⟨v6, ev6, hf⟩ := bd_ex hf
      refine V.iinc (q := 100) (v := v6) (L' := [.ref a0, .int x1, .int v5, .int v6, .int v4]) dX13_idleRules_97 rfl rfl (Option.some.inj ev6) (by decide) rfl rfl ?_
      refine V.goto (q := 65) dX13_idleRules_100 (by decide) ?_
      refine V.forget (L' := [.ref a0, .int x1, .int v5, .int v6, Jk]) ⟨Or.inr rfl, Or.inr rfl, Or.inr rfl, Or.inr rfl, Or.inl rfl, trivial⟩ ?_
      exact hk65 _ _ _ _ _ hf
def fX13_idleRules_65  : Nat → MH → Nat → Int32 → Int32 → Int32 → Option (Int32 × MH)
  | 0 => fun _ _ _ _ _ => none
  | n + 1 => bX13_idleRules_65  (fX13_idleRules_65  n)
theorem tlX13_idleRules_65 {r : Int32} {h' : MH}   : ∀ (n : Nat) (h : MH) (a0 : Nat) (x1 : Int32) (x2 : Int32) (x3 : Int32), fX13_idleRules_65  n h a0 x1 x2 x3 = some (r, h') → V TT mX13_idleRules 2 (some (.int r)) h' h 65 [.ref a0, .int x1, .int x2, .int x3, Jk] [] := by
  intro n
  induction n with
  | zero => intro h a0 x1 x2 x3 hf; exact nomatch (show (none : Option (Int32 × MH)) = some (r, h') from hf)
  | succ n ih => intro h a0 x1 x2 x3 hf; exact tX13_idleRules_65  (fX13_idleRules_65  n) ih hf
def bX13_idleRules_23 (k23 : MH → Nat → Int32 → Int32 → Int32 → Option (Int32 × MH)) (h : MH) (a0 : Nat) (x1 : Int32) (x2 : Int32) (x3 : Int32) : Option (Int32 × MH) := bd (gR h a0 13 3) fun b1 => bd (gI h b1 12 4) fun v2 => if v2 ≤ x3 then (fX13_idleRules_65 FU h a0 x1 x2 0) else (bd (gR h a0 13 3) fun b3 => bd (gR h b3 12 15) fun b4 => bd (lI h b4 x3) fun v5 => if v5 = x1 then (bd (some (x2 ||| (1 <<< (x3 &&& 31)))) fun v6 => bd (some (x3 + 1)) fun v7 => k23 h a0 x1 v6 v7) else (bd (some (x2 ||| 0)) fun v6 => bd (some (x3 + 1)) fun v7 => k23 h a0 x1 v6 v7))
set_option maxRecDepth 20000 in
theorem tX13_idleRules_23 {r : Int32} {h' : MH} (k23 : MH → Nat → Int32 → Int32 → Int32 → Option (Int32 × MH)) (hk23 : ∀ (h : MH) (a0 : Nat) (x1 : Int32) (x2 : Int32) (x3 : Int32), k23 h a0 x1 x2 x3 = some (r, h') → V TT mX13_idleRules 2 (some (.int r)) h' h 23 [.ref a0, .int x1, .int x2, .int x3, Jk] [])  {h : MH} {a0 : Nat} {x1 : Int32} {x2 : Int32} {x3 : Int32} (hf : bX13_idleRules_23 k23 h a0 x1 x2 x3 = some (r, h')) : V TT mX13_idleRules 2 (some (.int r)) h' h 23 [.ref a0, .int x1, .int x2, .int x3, Jk] [] := by
  unfold bX13_idleRules_23 at hf
  refine V.iload_n (q := 24) rfl dX13_idleRules_23 rfl rfl ?_
  refine V.aload_n (q := 25) rfl dX13_idleRules_24 rfl rfl ?_
  obtain ⟨b1, eb1, hf⟩ := bd_ex hf
  refine V.getR (q := 28) flX13_338 rfl eb1 dX13_idleRules_25 rfl ?_
  obtain ⟨v2, ev2, hf⟩ := bd_ex hf
  refine V.getI (q := 31) flX13_280 rfl ev2 dX13_idleRules_28 rfl ?_
  refine V.icmp_ge (q := 34) (tgt := 63) dX13_idleRules_31 rfl (by decide) (fun c => ?_) (fun c => ?_)
  · rw [if_pos c] at hf
    refine V.iconst (q := 64) (v := 0) (by decide) dX13_idleRules_63 rfl ?_
    refine V.istore_n (q := 65) (L' := [.ref a0, .int x1, .int x2, .int 0, Jk]) rfl dX13_idleRules_64 rfl (by decide) rfl rfl ?_
    exact tlX13_idleRules_65  FU _ _ _ _ _ hf
  · rw [if_neg c] at hf
    refine V.iload_n (q := 35) rfl dX13_idleRules_34 rfl rfl ?_
    refine V.aload_n (q := 36) rfl dX13_idleRules_35 rfl rfl ?_
    obtain ⟨b3, eb3, hf⟩ := bd_ex hf
    refine V.getR (q := 39) flX13_338 rfl eb3 dX13_idleRules_36 rfl ?_
    obtain ⟨b4, eb4, hf⟩ := bd_ex hf
    refine V.getR (q := 42) flX13_286 rfl eb4 dX13_idleRules_39 rfl ?_
    refine V.iload_n (q := 43) rfl dX13_idleRules_42 rfl rfl ?_
    obtain ⟨v5, ev5, hf⟩ := bd_ex hf
    refine V.iald (q := 44) ev5 dX13_idleRules_43 rfl ?_
    refine V.iload_n (q := 45) rfl dX13_idleRules_44 rfl rfl ?_
    refine V.icmp_ne (q := 48) (tgt := 54) dX13_idleRules_45 rfl (by decide) (fun c => ?_) (fun c => ?_)
    · rw [if_neg c] at hf
      refine V.iconst (q := 55) (v := 0) (by decide) dX13_idleRules_54 rfl ?_
      refine V.ior (q := 56) dX13_idleRules_55 rfl ?_
      obtain ⟨v6, ev6, hf⟩ := bd_ex hf
      refine V.topI (Option.some.inj ev6) ?_
      refine V.istore_n (q := 57) (L' := [.ref a0, .int x1, .int v6, .int x3, Jk]) rfl dX13_idleRules_56 rfl (by decide) rfl rfl ?_
      obtain ⟨v7, ev7, hf⟩ := bd_ex hf
      refine V.iinc (q := 60) (v := v7) (L' := [.ref a0, .int x1, .int v6, .int v7, Jk]) dX13_idleRules_57 rfl rfl (Option.some.inj ev7) (by decide) rfl rfl ?_
      refine V.goto (q := 23) dX13_idleRules_60 (by decide) ?_
      exact hk23 _ _ _ _ _ hf
    · rw [if_pos c] at hf
      refine V.iconst (q := 49) (v := 1) (by decide) dX13_idleRules_48 rfl ?_
      refine V.iload_n (q := 50) rfl dX13_idleRules_49 rfl rfl ?_
      refine V.ishl (q := 51) dX13_idleRules_50 rfl ?_
      refine V.goto (q := 55) dX13_idleRules_51 (by decide) ?_
      refine V.ior (q := 56) dX13_idleRules_55 rfl ?_
      obtain ⟨v6, ev6, hf⟩ := bd_ex hf
      refine V.topI (Option.some.inj ev6) ?_
      refine V.istore_n (q := 57) (L' := [.ref a0, .int x1, .int v6, .int x3, Jk]) rfl dX13_idleRules_56 rfl (by decide) rfl rfl ?_
      obtain ⟨v7, ev7, hf⟩ := bd_ex hf
      refine V.iinc (q := 60) (v := v7) (L' := [.ref a0, .int x1, .int v6, .int v7, Jk]) dX13_idleRules_57 rfl rfl (Option.some.inj ev7) (by decide) rfl rfl ?_
      refine V.goto (q := 23) dX13_idleRules_60 (by decide) ?_
      exact hk23 _ _ _ _ _ hf
def fX13_idleRules_23  : Nat → MH → Nat → Int32 → Int32 → Int32 → Option (Int32 × MH)
  | 0 => fun _ _ _ _ _ => none
  | n + 1 => bX13_idleRules_23  (fX13_idleRules_23  n)
theorem tlX13_idleRules_23 {r : Int32} {h' : MH}   : ∀ (n : Nat) (h : MH) (a0 : Nat) (x1 : Int32) (x2 : Int32) (x3 : Int32), fX13_idleRules_23  n h a0 x1 x2 x3 = some (r, h') → V TT mX13_idleRules 2 (some (.int r)) h' h 23 [.ref a0, .int x1, .int x2, .int x3, Jk] [] := by
  intro n
  induction n with
  | zero => intro h a0 x1 x2 x3 hf; exact nomatch (show (none : Option (Int32 × MH)) = some (r, h') from hf)
  | succ n ih => intro h a0 x1 x2 x3 hf; exact tX13_idleRules_23  (fX13_idleRules_23  n) ih hf
def fX13_idleRules (h : MH) (a0 : Nat) (x1 : Int32) : Option (Int32 × MH) := bd (pI h a0 13 0 0) fun h1 => bd (ck h1 a0 13) fun _ => bd2 (fX13_isStamp h1 a0 x1) fun v2 h2 => if v2 = 0 then (bd (ck h2 a0 13) fun _ => bd2 (fX13_refused h2 a0 1) fun v4 h3 => some (v4, h3)) else (fX13_idleRules_23 FU h2 a0 x1 0 0)
set_option maxRecDepth 20000 in
theorem tX13_idleRules {r : Int32} {h' : MH} {h : MH} {a0 : Nat} {x1 : Int32} (hf : fX13_idleRules h a0 x1 = some (r, h')) : VM mX13_idleRules 2 (some (.int r)) h' h [.ref a0, .int x1] := by
  show V TT mX13_idleRules 2 _ h' h 0 [.ref a0, .int x1, Jk, Jk, Jk] []
  unfold fX13_idleRules at hf
  refine V.aload_n (q := 1) rfl dX13_idleRules_0 rfl rfl ?_
  refine V.iconst (q := 2) (v := 0) (by decide) dX13_idleRules_1 rfl ?_
  obtain ⟨h1, eh1, hf⟩ := bd_ex hf
  refine V.putI (q := 5) (fpX13_48 rfl) rfl eh1 dX13_idleRules_2 rfl ?_
  refine V.aload_n (q := 6) rfl dX13_idleRules_5 rfl rfl ?_
  refine V.iload_n (q := 7) rfl dX13_idleRules_6 rfl rfl ?_
  obtain ⟨_, e1, hf⟩ := bd_ex hf
  obtain ⟨v2, h2, eh2, hf⟩ := bd2_ex hf
  refine V.callV (q := 10) (ci := 13) (vs := [.int x1]) (st := []) (S2 := [.int v2]) okX13_isStamp imX13_isStamp seX13_isStamp rfl lkX13_358 (tX13_isStamp eh2) rfl (ck_is e1) (by decide) rfl (Nat.le_of_ble_eq_true rfl) (Nat.le_of_ble_eq_true rfl) rfl dX13_idleRules_7 rfl rfl ?_
  refine V.if_ne (q := 13) (tgt := 19) dX13_idleRules_10 rfl (by decide) (fun c => ?_) (fun c => ?_)
  · rw [if_neg c] at hf
    refine V.iconst (q := 20) (v := 0) (by decide) dX13_idleRules_19 rfl ?_
    refine V.istore_n (q := 21) (L' := [.ref a0, .int x1, .int 0, Jk, Jk]) rfl dX13_idleRules_20 rfl (by decide) rfl rfl ?_
    refine V.iconst (q := 22) (v := 0) (by decide) dX13_idleRules_21 rfl ?_
    refine V.istore_n (q := 23) (L' := [.ref a0, .int x1, .int 0, .int 0, Jk]) rfl dX13_idleRules_22 rfl (by decide) rfl rfl ?_
    exact tlX13_idleRules_23  FU _ _ _ _ _ hf
  · rw [if_pos c] at hf
    refine V.aload_n (q := 14) rfl dX13_idleRules_13 rfl rfl ?_
    refine V.iconst (q := 15) (v := 1) (by decide) dX13_idleRules_14 rfl ?_
    obtain ⟨_, e3, hf⟩ := bd_ex hf
    obtain ⟨v4, h3, eh3, hf⟩ := bd2_ex hf
    refine V.callV (q := 18) (ci := 13) (vs := [.int 1]) (st := []) (S2 := [.int v4]) okX13_refused imX13_refused seX13_refused rfl lkX13_54 (tX13_refused eh3) rfl (ck_is e3) (by decide) rfl (Nat.le_of_ble_eq_true rfl) (Nat.le_of_ble_eq_true rfl) rfl dX13_idleRules_15 rfl rfl ?_
    obtain ⟨rfl, rfl⟩ := ret_inj hf
    exact V.ret (r := some (.int v4)) trivial dX13_idleRules_18
def bX13_image_34 (k34 : MH → Nat → Int32 → Option (Int32 × MH)) (h : MH) (a0 : Nat) (x1 : Int32) : Option (Int32 × MH) := if 31 ≤ x1 then (bd (gI h a0 13 19) fun v1 => bd (pI h a0 13 19 (v1 + 1)) fun h1 => bd (gI h1 a0 13 19) fun v2 => bd (ck h1 a0 13) fun _ => bd2 (fX13_good1 h1 a0 (v2 - 1)) fun v4 h2 => some (v4, h2)) else (bd (gR h a0 13 17) fun b1 => bd (gI h a0 13 19) fun v2 => bd (gR h a0 13 15) fun b3 => bd (lI h b3 x1) fun v4 => bd (tI h b1 ((31 * v2) + x1) v4) fun h1 => bd (some (x1 + 1)) fun v5 => k34 h1 a0 v5)
set_option maxRecDepth 20000 in
theorem tX13_image_34 {r : Int32} {h' : MH} (k34 : MH → Nat → Int32 → Option (Int32 × MH)) (hk34 : ∀ (h : MH) (a0 : Nat) (x1 : Int32), k34 h a0 x1 = some (r, h') → V TT mX13_image 1 (some (.int r)) h' h 34 [.ref a0, .int x1] [])  {h : MH} {a0 : Nat} {x1 : Int32} (hf : bX13_image_34 k34 h a0 x1 = some (r, h')) : V TT mX13_image 1 (some (.int r)) h' h 34 [.ref a0, .int x1] [] := by
  unfold bX13_image_34 at hf
  refine V.iload_n (q := 35) rfl dX13_image_34 rfl rfl ?_
  refine V.bipush (q := 37) (v := 31) (by decide) dX13_image_35 rfl ?_
  refine V.icmp_ge (q := 40) (tgt := 66) dX13_image_37 rfl (by decide) (fun c => ?_) (fun c => ?_)
  · rw [if_pos c] at hf
    refine V.aload_n (q := 67) rfl dX13_image_66 rfl rfl ?_
    refine V.dupR (q := 68) dX13_image_67 rfl ?_
    obtain ⟨v1, ev1, hf⟩ := bd_ex hf
    refine V.getI (q := 71) flX13_343 rfl ev1 dX13_image_68 rfl ?_
    refine V.iconst (q := 72) (v := 1) (by decide) dX13_image_71 rfl ?_
    refine V.iadd (q := 73) dX13_image_72 rfl ?_
    obtain ⟨h1, eh1, hf⟩ := bd_ex hf
    refine V.putI (q := 76) (fpX13_343 rfl) rfl eh1 dX13_image_73 rfl ?_
    refine V.aload_n (q := 77) rfl dX13_image_76 rfl rfl ?_
    refine V.aload_n (q := 78) rfl dX13_image_77 rfl rfl ?_
    obtain ⟨v2, ev2, hf⟩ := bd_ex hf
    refine V.getI (q := 81) flX13_343 rfl ev2 dX13_image_78 rfl ?_
    refine V.iconst (q := 82) (v := 1) (by decide) dX13_image_81 rfl ?_
    refine V.isub (q := 83) dX13_image_82 rfl ?_
    obtain ⟨_, e3, hf⟩ := bd_ex hf
    obtain ⟨v4, h2, eh2, hf⟩ := bd2_ex hf
    refine V.callV (q := 86) (ci := 13) (vs := [.int (v2 - 1)]) (st := []) (S2 := [.int v4]) okX13_good1 imX13_good1 seX13_good1 rfl lkX13_58 (tX13_good1 eh2) rfl (ck_is e3) (by decide) rfl (Nat.le_of_ble_eq_true rfl) (Nat.le_of_ble_eq_true rfl) rfl dX13_image_83 rfl rfl ?_
    obtain ⟨rfl, rfl⟩ := ret_inj hf
    exact V.ret (r := some (.int v4)) trivial dX13_image_86
  · rw [if_neg c] at hf
    refine V.aload_n (q := 41) rfl dX13_image_40 rfl rfl ?_
    obtain ⟨b1, eb1, hf⟩ := bd_ex hf
    refine V.getR (q := 44) flX13_24 rfl eb1 dX13_image_41 rfl ?_
    refine V.bipush (q := 46) (v := 31) (by decide) dX13_image_44 rfl ?_
    refine V.aload_n (q := 47) rfl dX13_image_46 rfl rfl ?_
    obtain ⟨v2, ev2, hf⟩ := bd_ex hf
    refine V.getI (q := 50) flX13_343 rfl ev2 dX13_image_47 rfl ?_
    refine V.imul (q := 51) dX13_image_50 rfl ?_
    refine V.iload_n (q := 52) rfl dX13_image_51 rfl rfl ?_
    refine V.iadd (q := 53) dX13_image_52 rfl ?_
    refine V.aload_n (q := 54) rfl dX13_image_53 rfl rfl ?_
    obtain ⟨b3, eb3, hf⟩ := bd_ex hf
    refine V.getR (q := 57) flX13_17 rfl eb3 dX13_image_54 rfl ?_
    refine V.iload_n (q := 58) rfl dX13_image_57 rfl rfl ?_
    obtain ⟨v4, ev4, hf⟩ := bd_ex hf
    refine V.iald (q := 59) ev4 dX13_image_58 rfl ?_
    obtain ⟨h1, eh1, hf⟩ := bd_ex hf
    refine V.iast (q := 60) eh1 dX13_image_59 rfl ?_
    obtain ⟨v5, ev5, hf⟩ := bd_ex hf
    refine V.iinc (q := 63) (v := v5) (L' := [.ref a0, .int v5]) dX13_image_60 rfl rfl (Option.some.inj ev5) (by decide) rfl rfl ?_
    refine V.goto (q := 34) dX13_image_63 (by decide) ?_
    exact hk34 _ _ _ hf
def fX13_image_34  : Nat → MH → Nat → Int32 → Option (Int32 × MH)
  | 0 => fun _ _ _ => none
  | n + 1 => bX13_image_34  (fX13_image_34  n)
theorem tlX13_image_34 {r : Int32} {h' : MH}   : ∀ (n : Nat) (h : MH) (a0 : Nat) (x1 : Int32), fX13_image_34  n h a0 x1 = some (r, h') → V TT mX13_image 1 (some (.int r)) h' h 34 [.ref a0, .int x1] [] := by
  intro n
  induction n with
  | zero => intro h a0 x1 hf; exact nomatch (show (none : Option (Int32 × MH)) = some (r, h') from hf)
  | succ n ih => intro h a0 x1 hf; exact tX13_image_34  (fX13_image_34  n) ih hf
def fX13_image (h : MH) (a0 : Nat) : Option (Int32 × MH) := bd (pI h a0 13 0 0) fun h1 => bd (gZ h1 a0 13 3) fun z1 => if z1 = true then (bd (ck h1 a0 13) fun _ => bd2 (fX13_refused h1 a0 1) fun v6 h3 => some (v6, h3)) else (bd (gI h1 a0 13 19) fun v2 => if v2 = 3 then (bd (ck h1 a0 13) fun _ => bd2 (fX13_refused h1 a0 3) fun v4 h2 => some (v4, h2)) else (fX13_image_34 FU h1 a0 0))
set_option maxRecDepth 20000 in
theorem tX13_image {r : Int32} {h' : MH} {h : MH} {a0 : Nat} (hf : fX13_image h a0 = some (r, h')) : VM mX13_image 1 (some (.int r)) h' h [.ref a0] := by
  show V TT mX13_image 1 _ h' h 0 [.ref a0, Jk] []
  unfold fX13_image at hf
  refine V.aload_n (q := 1) rfl dX13_image_0 rfl rfl ?_
  refine V.iconst (q := 2) (v := 0) (by decide) dX13_image_1 rfl ?_
  obtain ⟨h1, eh1, hf⟩ := bd_ex hf
  refine V.putI (q := 5) (fpX13_48 rfl) rfl eh1 dX13_image_2 rfl ?_
  refine V.aload_n (q := 6) rfl dX13_image_5 rfl rfl ?_
  obtain ⟨z1, ez1, hf⟩ := bd_ex hf
  refine V.getZN (q := 9) (q2 := 12) (tgt := 18) flX13_338 rfl ez1 dX13_image_6 rfl dX13_image_9 rfl (by decide) (fun c => ?_) (fun c => ?_)
  · rw [if_neg c] at hf
    refine V.aload_n (q := 19) rfl dX13_image_18 rfl rfl ?_
    obtain ⟨v2, ev2, hf⟩ := bd_ex hf
    refine V.getI (q := 22) flX13_343 rfl ev2 dX13_image_19 rfl ?_
    refine V.iconst (q := 23) (v := 3) (by decide) dX13_image_22 rfl ?_
    refine V.icmp_ne (q := 26) (tgt := 32) dX13_image_23 rfl (by decide) (fun c => ?_) (fun c => ?_)
    · rw [if_neg c] at hf
      refine V.iconst (q := 33) (v := 0) (by decide) dX13_image_32 rfl ?_
      refine V.istore_n (q := 34) (L' := [.ref a0, .int 0]) rfl dX13_image_33 rfl (by decide) rfl rfl ?_
      exact tlX13_image_34  FU _ _ _ hf
    · rw [if_pos c] at hf
      refine V.aload_n (q := 27) rfl dX13_image_26 rfl rfl ?_
      refine V.iconst (q := 28) (v := 3) (by decide) dX13_image_27 rfl ?_
      obtain ⟨_, e3, hf⟩ := bd_ex hf
      obtain ⟨v4, h2, eh2, hf⟩ := bd2_ex hf
      refine V.callV (q := 31) (ci := 13) (vs := [.int 3]) (st := []) (S2 := [.int v4]) okX13_refused imX13_refused seX13_refused rfl lkX13_54 (tX13_refused eh2) rfl (ck_is e3) (by decide) rfl (Nat.le_of_ble_eq_true rfl) (Nat.le_of_ble_eq_true rfl) rfl dX13_image_28 rfl rfl ?_
      obtain ⟨rfl, rfl⟩ := ret_inj hf
      exact V.ret (r := some (.int v4)) trivial dX13_image_31
  · rw [if_pos c] at hf
    refine V.aload_n (q := 13) rfl dX13_image_12 rfl rfl ?_
    refine V.iconst (q := 14) (v := 1) (by decide) dX13_image_13 rfl ?_
    obtain ⟨_, e5, hf⟩ := bd_ex hf
    obtain ⟨v6, h3, eh3, hf⟩ := bd2_ex hf
    refine V.callV (q := 17) (ci := 13) (vs := [.int 1]) (st := []) (S2 := [.int v6]) okX13_refused imX13_refused seX13_refused rfl lkX13_54 (tX13_refused eh3) rfl (ck_is e5) (by decide) rfl (Nat.le_of_ble_eq_true rfl) (Nat.le_of_ble_eq_true rfl) rfl dX13_image_14 rfl rfl ?_
    obtain ⟨rfl, rfl⟩ := ret_inj hf
    exact V.ret (r := some (.int v6)) trivial dX13_image_17
def fX13_init (h : MH) (a0 : Nat) : Option (MH) := bd (pI h a0 13 2 (-1)) fun h1 => bd2 (nO2 h1 14 900) fun b1 h2 => bd (pR h2 a0 13 5 b1) fun h3 => bd2 (nO2 h3 15 31) fun b2 h4 => bd (pR h4 a0 13 15 b2) fun h5 => bd2 (nO2 h5 15 496) fun b3 h6 => bd (pR h6 a0 13 16 b3) fun h7 => bd2 (nO2 h7 15 93) fun b4 h8 => bd (pR h8 a0 13 17 b4) fun h9 => bd2 (nO2 h9 15 5) fun b5 h10 => bd (pR h10 a0 13 20 b5) fun h11 => bd2 (nO2 h11 15 5) fun b6 h12 => bd (pR h12 a0 13 21 b6) fun h13 => bd2 (nO2 h13 15 4) fun b7 h14 => bd (pR h14 a0 13 22 b7) fun h15 => bd2 (nO2 h15 15 3) fun b8 h16 => bd (pR h16 a0 13 23 b8) fun h17 => bd2 (nO2 h17 15 4) fun b9 h18 => bd (pR h18 a0 13 24 b9) fun h19 => bd2 (nO2 h19 15 3) fun b10 h20 => bd (pR h20 a0 13 28 b10) fun h21 => bd2 (nO2 h21 15 5) fun b11 h22 => bd (pR h22 a0 13 29 b11) fun h23 => some h23
set_option maxRecDepth 20000 in
theorem tX13_init {h' : MH} {h : MH} {a0 : Nat} (hf : fX13_init h a0 = some h') : VM mX13_init 1 none h' h [.ref a0] := by
  show V TT mX13_init 1 _ h' h 0 [.ref a0] []
  unfold fX13_init at hf
  refine V.aload_n (q := 1) rfl dX13_init_0 rfl rfl ?_
  refine V.objInit (q := 4) oiX13_3 (by decide) (Nat.le_of_ble_eq_true rfl) dX13_init_1 rfl ?_
  refine V.aload_n (q := 5) rfl dX13_init_4 rfl rfl ?_
  refine V.iconst (q := 6) (v := (-1)) (by decide) dX13_init_5 rfl ?_
  obtain ⟨h1, eh1, hf⟩ := bd_ex hf
  refine V.putI (q := 9) (fpX13_9 rfl) rfl eh1 dX13_init_6 rfl ?_
  refine V.aload_n (q := 10) rfl dX13_init_9 rfl rfl ?_
  refine V.sipush (q := 13) (v := 900) (by decide) dX13_init_10 rfl ?_
  obtain ⟨b1, h2, eh2, hf⟩ := bd2_ex hf
  obtain ⟨rfl, rfl⟩ := ret_inj eh2
  refine V.newB (q := 15) (N := 900) (by decide) (by decide) (by decide) dX13_init_13 rfl ?_
  generalize hqh2 : nC h1 14 900 = h2 at hf ⊢
  generalize hph2 : h1.2.2.2.length = b1 at hf ⊢
  obtain ⟨h3, eh3, hf⟩ := bd_ex hf
  refine V.putR (q := 18) (fqX13_13 rfl rfl) rfl eh3 dX13_init_15 rfl ?_
  refine V.aload_n (q := 19) rfl dX13_init_18 rfl rfl ?_
  refine V.bipush (q := 21) (v := 31) (by decide) dX13_init_19 rfl ?_
  obtain ⟨b2, h4, eh4, hf⟩ := bd2_ex hf
  obtain ⟨rfl, rfl⟩ := ret_inj eh4
  refine V.newI (q := 23) (N := 31) (by decide) (by decide) (by decide) dX13_init_21 rfl ?_
  generalize hqh4 : nC h3 15 31 = h4 at hf ⊢
  generalize hph4 : h3.2.2.2.length = b2 at hf ⊢
  obtain ⟨h5, eh5, hf⟩ := bd_ex hf
  refine V.putR (q := 26) (fqX13_17 rfl rfl) rfl eh5 dX13_init_23 rfl ?_
  refine V.aload_n (q := 27) rfl dX13_init_26 rfl rfl ?_
  refine V.sipush (q := 30) (v := 496) (by decide) dX13_init_27 rfl ?_
  obtain ⟨b3, h6, eh6, hf⟩ := bd2_ex hf
  obtain ⟨rfl, rfl⟩ := ret_inj eh6
  refine V.newI (q := 32) (N := 496) (by decide) (by decide) (by decide) dX13_init_30 rfl ?_
  generalize hqh6 : nC h5 15 496 = h6 at hf ⊢
  generalize hph6 : h5.2.2.2.length = b3 at hf ⊢
  obtain ⟨h7, eh7, hf⟩ := bd_ex hf
  refine V.putR (q := 35) (fqX13_21 rfl rfl) rfl eh7 dX13_init_32 rfl ?_
  refine V.aload_n (q := 36) rfl dX13_init_35 rfl rfl ?_
  refine V.bipush (q := 38) (v := 93) (by decide) dX13_init_36 rfl ?_
  obtain ⟨b4, h8, eh8, hf⟩ := bd2_ex hf
  obtain ⟨rfl, rfl⟩ := ret_inj eh8
  refine V.newI (q := 40) (N := 93) (by decide) (by decide) (by decide) dX13_init_38 rfl ?_
  generalize hqh8 : nC h7 15 93 = h8 at hf ⊢
  generalize hph8 : h7.2.2.2.length = b4 at hf ⊢
  obtain ⟨h9, eh9, hf⟩ := bd_ex hf
  refine V.putR (q := 43) (fqX13_24 rfl rfl) rfl eh9 dX13_init_40 rfl ?_
  refine V.aload_n (q := 44) rfl dX13_init_43 rfl rfl ?_
  refine V.iconst (q := 45) (v := 5) (by decide) dX13_init_44 rfl ?_
  obtain ⟨b5, h10, eh10, hf⟩ := bd2_ex hf
  obtain ⟨rfl, rfl⟩ := ret_inj eh10
  refine V.newI (q := 47) (N := 5) (by decide) (by decide) (by decide) dX13_init_45 rfl ?_
  generalize hqh10 : nC h9 15 5 = h10 at hf ⊢
  generalize hph10 : h9.2.2.2.length = b5 at hf ⊢
  obtain ⟨h11, eh11, hf⟩ := bd_ex hf
  refine V.putR (q := 50) (fqX13_27 rfl rfl) rfl eh11 dX13_init_47 rfl ?_
  refine V.aload_n (q := 51) rfl dX13_init_50 rfl rfl ?_
  refine V.iconst (q := 52) (v := 5) (by decide) dX13_init_51 rfl ?_
  obtain ⟨b6, h12, eh12, hf⟩ := bd2_ex hf
  obtain ⟨rfl, rfl⟩ := ret_inj eh12
  refine V.newI (q := 54) (N := 5) (by decide) (by decide) (by decide) dX13_init_52 rfl ?_
  generalize hqh12 : nC h11 15 5 = h12 at hf ⊢
  generalize hph12 : h11.2.2.2.length = b6 at hf ⊢
  obtain ⟨h13, eh13, hf⟩ := bd_ex hf
  refine V.putR (q := 57) (fqX13_30 rfl rfl) rfl eh13 dX13_init_54 rfl ?_
  refine V.aload_n (q := 58) rfl dX13_init_57 rfl rfl ?_
  refine V.iconst (q := 59) (v := 4) (by decide) dX13_init_58 rfl ?_
  obtain ⟨b7, h14, eh14, hf⟩ := bd2_ex hf
  obtain ⟨rfl, rfl⟩ := ret_inj eh14
  refine V.newI (q := 61) (N := 4) (by decide) (by decide) (by decide) dX13_init_59 rfl ?_
  generalize hqh14 : nC h13 15 4 = h14 at hf ⊢
  generalize hph14 : h13.2.2.2.length = b7 at hf ⊢
  obtain ⟨h15, eh15, hf⟩ := bd_ex hf
  refine V.putR (q := 64) (fqX13_33 rfl rfl) rfl eh15 dX13_init_61 rfl ?_
  refine V.aload_n (q := 65) rfl dX13_init_64 rfl rfl ?_
  refine V.iconst (q := 66) (v := 3) (by decide) dX13_init_65 rfl ?_
  obtain ⟨b8, h16, eh16, hf⟩ := bd2_ex hf
  obtain ⟨rfl, rfl⟩ := ret_inj eh16
  refine V.newI (q := 68) (N := 3) (by decide) (by decide) (by decide) dX13_init_66 rfl ?_
  generalize hqh16 : nC h15 15 3 = h16 at hf ⊢
  generalize hph16 : h15.2.2.2.length = b8 at hf ⊢
  obtain ⟨h17, eh17, hf⟩ := bd_ex hf
  refine V.putR (q := 71) (fqX13_36 rfl rfl) rfl eh17 dX13_init_68 rfl ?_
  refine V.aload_n (q := 72) rfl dX13_init_71 rfl rfl ?_
  refine V.iconst (q := 73) (v := 4) (by decide) dX13_init_72 rfl ?_
  obtain ⟨b9, h18, eh18, hf⟩ := bd2_ex hf
  obtain ⟨rfl, rfl⟩ := ret_inj eh18
  refine V.newI (q := 75) (N := 4) (by decide) (by decide) (by decide) dX13_init_73 rfl ?_
  generalize hqh18 : nC h17 15 4 = h18 at hf ⊢
  generalize hph18 : h17.2.2.2.length = b9 at hf ⊢
  obtain ⟨h19, eh19, hf⟩ := bd_ex hf
  refine V.putR (q := 78) (fqX13_39 rfl rfl) rfl eh19 dX13_init_75 rfl ?_
  refine V.aload_n (q := 79) rfl dX13_init_78 rfl rfl ?_
  refine V.iconst (q := 80) (v := 3) (by decide) dX13_init_79 rfl ?_
  obtain ⟨b10, h20, eh20, hf⟩ := bd2_ex hf
  obtain ⟨rfl, rfl⟩ := ret_inj eh20
  refine V.newI (q := 82) (N := 3) (by decide) (by decide) (by decide) dX13_init_80 rfl ?_
  generalize hqh20 : nC h19 15 3 = h20 at hf ⊢
  generalize hph20 : h19.2.2.2.length = b10 at hf ⊢
  obtain ⟨h21, eh21, hf⟩ := bd_ex hf
  refine V.putR (q := 85) (fqX13_42 rfl rfl) rfl eh21 dX13_init_82 rfl ?_
  refine V.aload_n (q := 86) rfl dX13_init_85 rfl rfl ?_
  refine V.iconst (q := 87) (v := 5) (by decide) dX13_init_86 rfl ?_
  obtain ⟨b11, h22, eh22, hf⟩ := bd2_ex hf
  obtain ⟨rfl, rfl⟩ := ret_inj eh22
  refine V.newI (q := 89) (N := 5) (by decide) (by decide) (by decide) dX13_init_87 rfl ?_
  generalize hqh22 : nC h21 15 5 = h22 at hf ⊢
  generalize hph22 : h21.2.2.2.length = b11 at hf ⊢
  obtain ⟨h23, eh23, hf⟩ := bd_ex hf
  refine V.putR (q := 92) (fqX13_45 rfl rfl) rfl eh23 dX13_init_89 rfl ?_
  cases hf
  exact V.ret (r := none) trivial dX13_init_92
