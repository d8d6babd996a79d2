/-! ===== READING: what lines keep ===== -/
theorem upP_e (P : PT) (t i : Nat) (v : Int32) : upP P t i v t i = v := if_pos ⟨rfl, rfl⟩
theorem upP_n {P : PT} {t i i' : Nat} {v : Int32} (z : ¬ i' = i) : upP P t i v t i' = P t i' := if_neg (fun y => z y.2)
theorem upN_e {α : Type} (f : Nat → α) (i : Nat) (v : α) : upN f i v i = v := if_pos rfl
theorem upN_n {α : Type} {f : Nat → α} {i k : Nat} {v : α} (z : ¬ k = i) : upN f i v k = f k := if_neg z
/-- wants told -/
def wn (P : PT) : Nat → Nat
  | 0 => 0
  | k + 1 => wn P k + (if P 1 k = -2 then 0 else 1)
theorem wn_le (P : PT) : ∀ k, wn P k ≤ k
  | 0 => Nat.le_refl _
  | k + 1 => by
    have := wn_le P k
    unfold wn
    split
    · omega
    · omega
theorem wn_c {P P' : PT} : ∀ k, (∀ i, i < k → P' 1 i = P 1 i) → wn P' k = wn P k
  | 0, _ => rfl
  | k + 1, h => by
    unfold wn
    rw [wn_c k (fun i hi => h i (by omega)), h k (by omega)]
theorem wn_u {P : PT} {j : Nat} {v : Int32} (h1 : P 1 j = -2) (h2 : ¬ v = -2) : ∀ k, j < k → wn (upP P 1 j v) k = wn P k + 1
  | 0, h => by omega
  | k + 1, h => by
    unfold wn
    by_cases z : j = k
    · subst z
      rw [upP_e, if_neg h2, if_pos h1, wn_c j (fun i hi => upP_n (by omega))]
    · rw [wn_u h1 h2 k (by omega), upP_n (fun y => z y.symm)]
      omega
def WCi (c : CT) : Prop := c 0 ≤ 100 ∧ c 1 ≤ 5 ∧ c 2 ≤ 5 ∧ c 3 ≤ 4 ∧ c 4 ≤ 10 ∧ c 5 ≤ 3 ∧ c 7 ≤ 4 ∧ c 8 ≤ 1
def NMS (c : CT) (l : NT) : Prop := ∀ (i : Nat) (e : Nat × Nat × Nat), l[i]? = some e → e.1 < 1099511627776 ∧ ((e.2.1 = 1 ∧ e.2.2 < c 1) ∨ (e.2.1 = 2 ∧ e.2.2 < c 2) ∨ (e.2.1 = 3 ∧ e.2.2 < c 3) ∨ (e.2.1 = 5 ∧ e.2.2 < c 5))
def NI (c : CT) (N : Nat → Int32) : Prop := (∀ k, k < c 4 → VD (N (18 + k))) ∧ (∀ s, s < 4 → ∃ j, j ≤ 9 ∧ N (10 + s) = Int32.ofNat j) ∧ (∀ i, i < 4 → N (14 + i) = 0) ∧ (∀ i, i < 3 → N (28 + i) = 0) ∧ ∀ i, i < 5 → N (5 + i) = -2
def WI (D : DD) : Prop := WCi D.1 ∧ D.2.2.2.length = D.1 1 + D.1 2 + D.1 3 + D.1 5 ∧ NMS D.1 D.2.2.2 ∧ (D.1 8 = 0 → ∀ t, t < 8 → D.1 t = 0) ∧ WP D.2.1 D.1 ∧ NI D.1 D.2.2.1 ∧ D.1 6 = wn D.2.1 (D.1 2)
theorem WI.wd {D : DD} (V : WI D) : WD D := by
  obtain ⟨⟨a0, a1, a2, a3, a4, a5, a7, a8⟩, b, c, _⟩ := V
  refine ⟨by omega, fun i e hi => ?_⟩
  obtain ⟨c1, c2⟩ := c i e hi
  exact ⟨c1, by omega, by omega⟩
theorem NMS.ad {c c' : CT} {l : NT} (M : NMS c l) (hc : c 1 ≤ c' 1 ∧ c 2 ≤ c' 2 ∧ c 3 ≤ c' 3 ∧ c 5 ≤ c' 5) {w s n : Nat} (hw : w < 1099511627776) (hs : (s = 1 ∧ n < c' 1) ∨ (s = 2 ∧ n < c' 2) ∨ (s = 3 ∧ n < c' 3) ∨ (s = 5 ∧ n < c' 5)) : NMS c' (l ++ [(w, s, n)]) := fun i e hi => by
  by_cases zi : i < l.length
  · rw [List.getElem?_append_left zi] at hi
    obtain ⟨m1, m2⟩ := M i e hi
    exact ⟨m1, by omega⟩
  · rw [List.getElem?_append_right (by omega)] at hi
    have zi2 : i - l.length = 0 := by
      have := (List.getElem?_eq_some_iff.mp hi).1
      simp only [List.length_cons, List.length_nil] at this
      omega
    rw [zi2] at hi
    have hy : e = (w, s, n) := (Option.some.inj hi).symm
    rw [hy]; exact ⟨hw, hs⟩
theorem NMS.mo {c c' : CT} {l : NT} (M : NMS c l) (hc : c 1 ≤ c' 1 ∧ c 2 ≤ c' 2 ∧ c 3 ≤ c' 3 ∧ c 5 ≤ c' 5) : NMS c' l := fun i e hi => by
  obtain ⟨m1, m2⟩ := M i e hi
  exact ⟨m1, by omega⟩
theorem bS_i {α β : Type} {x : RS α} {f : α → RS β} {r : β} (e : bS x f = .inr r) : ∃ a, x = .inr a ∧ f a = .inr r := by
  cases x with
  | inl y => cases e
  | inr a => exact ⟨a, rfl, e⟩
section PRB
variable {B : Nat → Int32} {L q : Nat} {D : DD}
theorem tT (hb : ∀ k, bR (B k)) (hq : q ≤ L) : q ≤ tTo B L q ∧ tTo B L q ≤ L := by
  have := tFr_le (B := B) hq
  have := tTo_le (B := B) hq hb
  omega
theorem i_Fl (hb : ∀ k, bR (B k)) (hq : q ≤ L) {w r : Nat} (e : pFl B L w q = .inr r) : q ≤ r ∧ r ≤ L := by
  unfold pFl at e
  split at e
  · cases e; exact tT hb hq
  · cases e
theorem i_Wh (hb : ∀ k, bR (B k)) (hq : q ≤ L) {mx : Nat} {r : Nat × Nat} (e : pWh B L mx q = .inr r) : r.1 ≤ mx ∧ q ≤ r.2 ∧ r.2 ≤ L := by
  unfold pWh at e
  split at e
  · split at e
    · rename_i z
      cases e; exact ⟨z, tT hb hq⟩
    · cases e
  · cases e
theorem i_Ch (hb : ∀ k, bR (B k)) (hq : q ≤ L) {l : List Nat} {r : Nat × Nat} (e : pCh B L l q = .inr r) : r.1 < l.length ∧ q ≤ r.2 ∧ r.2 ≤ L := by
  unfold pCh at e
  cases z : ix l (tWd B L q) with
  | none => rw [z] at e; cases e
  | some i => rw [z] at e; cases e; exact ⟨(ix_lt _ _ _ z).1, tT hb hq⟩
theorem i_New (hb : ∀ k, bR (B k)) (hq : q ≤ L) {l : NT} {r : Nat × Nat} (e : pNew B L l q = .inr r) : r.1 < 1099511627776 ∧ q ≤ r.2 ∧ r.2 ≤ L := by
  unfold pNew at e
  split at e
  · cases z : fd l (tWd B L q) with
    | some y => rw [z] at e; cases e
    | none => rw [z] at e; cases e; exact ⟨tWd_lt hb hq, tT hb hq⟩
  · cases e
theorem fd_m : ∀ (l : NT) (w : Nat) (e : Nat × Nat × Nat), fd l w = some e → ∃ i : Nat, l[i]? = some e
  | [], w, e, h => by cases h
  | a :: l, w, e, h => by
    unfold fd at h
    split at h
    · cases h; exact ⟨0, rfl⟩
    · obtain ⟨i, hi⟩ := fd_m l w e h
      exact ⟨i + 1, hi⟩
theorem i_Old {l : NT} {s j : Nat} (e : pOld B L l s q = .inr j) : ∃ (i w : Nat), l[i]? = some (w, s, j) := by
  unfold pOld at e
  split at e
  · cases z : fd l (tWd B L q) with
    | none => unfold lk at e; rw [z] at e; cases e
    | some y =>
      unfold lk at e; rw [z] at e
      by_cases z2 : y.2.1 = s
      · have e' : (match (if y.2.1 = s then some y.2.2 else none) with
          | some j => (Sum.inr j : RS Nat)
          | none => .inl (2, tFr B L q)) = .inr j := e
        rw [if_pos z2] at e'
        have e2 : y.2.2 = j := by cases e'; rfl
        obtain ⟨i, hi⟩ := fd_m _ _ _ z
        exact ⟨i, y.1, by rw [hi, ← z2, ← e2]⟩
      · have e' : (match (if y.2.1 = s then some y.2.2 else none) with
          | some j => (Sum.inr j : RS Nat)
          | none => .inl (2, tFr B L q)) = .inr j := e
        rw [if_neg z2] at e'
        cases e'
  · cases e
theorem i_OldW (V : WI D) {s j : Nat} (e : pOld B L D.2.2.2 s q = .inr j) : (s = 1 ∧ j < D.1 1) ∨ (s = 2 ∧ j < D.1 2) ∨ (s = 3 ∧ j < D.1 3) ∨ (s = 5 ∧ j < D.1 5) := by
  obtain ⟨i, w, hi⟩ := i_Old e
  exact (V.2.2.1 i _ hi).2
theorem i_Mk (hb : ∀ k, bR (B k)) {l : NT} : ∀ (m b q : Nat) (r : Nat × Nat), q ≤ L → pMk B L l m b q = .inr r → q ≤ r.2 ∧ r.2 ≤ L
  | 0, b, q, r, hq, e => by cases e; exact ⟨Nat.le_refl _, hq⟩
  | m + 1, b, q, r, hq, e => by
    unfold pMk at e
    have t1 := tT (B := B) hb hq
    have t2 := tT (B := B) hb t1.2
    split at e
    · cases z : pOld B L l 1 (tTo B L q) with
      | inl y => rw [z] at e; cases e
      | inr j =>
        rw [z] at e
        have e' : (if b.testBit j = true then .inl (3, tFr B L (tTo B L q)) else pMk B L l m (b ||| 1 <<< j) (tTo B L (tTo B L q))) = (.inr r : RS (Nat × Nat)) := e
        split at e'
        · cases e'
        · have := i_Mk hb m _ _ r t2.2 e'
          omega
    · cases e; exact ⟨Nat.le_refl _, hq⟩
theorem VD3 {i : Nat} (h : i < 3) : VD (Int32.ofNat i) := by
  rcases (show i = 0 ∨ i = 1 ∨ i = 2 by omega) with rfl | rfl | rfl
  · exact Or.inl rfl
  · exact Or.inr (Or.inl rfl)
  · exact Or.inr (Or.inr rfl)
theorem VDn {x : Int32} (h : VD x) : ¬ x = -2 := by
  rcases h with rfl | rfl | rfl <;> decide
theorem i_lOf (hb : ∀ k, bR (B k)) (hq : q ≤ L) (V : WI D) {r : DD × Nat} (e : lOf B L D q = .inr r) : WI r.1 ∧ q ≤ r.2 ∧ r.2 ≤ L := by
  unfold lOf at e
  obtain ⟨q1, e1, e⟩ := bS_i e
  obtain ⟨v, e2, e⟩ := bS_i e
  have x1 := i_Fl hb hq e1
  have x2 := i_Wh hb x1.2 e2
  cases e
  obtain ⟨⟨a0, a1, a2, a3, a4, a5, a7, a8⟩, b, c, d, w, n, k⟩ := V
  exact ⟨⟨⟨x2.1, a1, a2, a3, a4, a5, a7, Nat.le_refl 1⟩, b, c, fun z => absurd z (show ¬ (1 : Nat) = 0 by decide), w, n, k⟩, by omega, by omega⟩
theorem len_ad (l : NT) (y : Nat × Nat × Nat) : (l ++ [y]).length = l.length + 1 := by rw [List.length_append]; rfl
theorem i_lMa (hb : ∀ k, bR (B k)) (hq : q ≤ L) (V : WI D) (hf : ¬ 5 ≤ D.1 1) (h8 : ¬ D.1 8 = 0) {r : DD × Nat} (e : lMa B L D q = .inr r) : WI r.1 ∧ q ≤ r.2 ∧ r.2 ≤ L := by
  unfold lMa at e
  obtain ⟨v, e1, e⟩ := bS_i e
  have x1 := i_New hb hq e1
  cases e
  obtain ⟨⟨a0, a1, a2, a3, a4, a5, a7, a8⟩, b, c, d, ⟨w1, w2, w3, w4⟩, n, k⟩ := V
  refine ⟨⟨⟨a0, ?_, a2, a3, a4, a5, a7, a8⟩, ?_, ?_, fun z => absurd z h8, ⟨w1, w2, ?_, w4⟩, n, k⟩, x1.2⟩
  · show D.1 1 + 1 ≤ 5; omega
  · show (D.2.2.2 ++ [(v.1, 1, D.1 1)]).length = (D.1 1 + 1) + D.1 2 + D.1 3 + D.1 5
    rw [len_ad]; omega
  · refine NMS.ad (c' := upN D.1 1 (D.1 1 + 1)) c ⟨?_, Nat.le_refl _, Nat.le_refl _, Nat.le_refl _⟩ x1.1 (Or.inl ⟨rfl, ?_⟩)
    · show D.1 1 ≤ D.1 1 + 1; omega
    · show D.1 1 < D.1 1 + 1; omega
  · intro i hi
    obtain ⟨j, hj, ej⟩ := w3 i hi
    exact ⟨j, Nat.lt_succ_of_lt hj, ej⟩
theorem i_lPa (hb : ∀ k, bR (B k)) (hq : q ≤ L) (V : WI D) (hf : ¬ 5 ≤ D.1 2) (h8 : ¬ D.1 8 = 0) {r : DD × Nat} (e : lPa B L D q = .inr r) : WI r.1 ∧ q ≤ r.2 ∧ r.2 ≤ L := by
  unfold lPa at e
  obtain ⟨v1, e1, e⟩ := bS_i e
  obtain ⟨q2, e2, e⟩ := bS_i e
  obtain ⟨v3, e3, e⟩ := bS_i e
  obtain ⟨v4, e4, e⟩ := bS_i e
  have x1 := i_New hb hq e1
  have x2 := i_Fl hb x1.2.2 e2
  have x3 := i_Wh hb x2.2 e3
  have x4 := i_Mk hb _ _ _ _ x3.2.2 e4
  cases e
  obtain ⟨⟨a0, a1, a2, a3, a4, a5, a7, a8⟩, b, c, d, ⟨w1, w2, w3, w4, w5, w6, w7, w8, w9⟩, ⟨n1, n2, n3, n4, n5⟩, k⟩ := V
  refine ⟨⟨⟨a0, a1, ?_, a3, a4, a5, a7, a8⟩, ?_, ?_, fun z => absurd z h8, ⟨w1, w2, w3, fun i hi => ?_, fun i hi => ?_, w6, fun i hi => ?_, w8, w9⟩, ⟨fun i hi => ?_, fun i hi => ?_, fun i hi => ?_, fun i hi => ?_, fun i hi => ?_⟩, ?_⟩, by omega, by omega⟩
  · show D.1 2 + 1 ≤ 5; omega
  · show (D.2.2.2 ++ [(v1.1, 2, D.1 2)]).length = D.1 1 + (D.1 2 + 1) + D.1 3 + D.1 5
    rw [len_ad]; omega
  · refine NMS.ad (c' := upN D.1 2 (D.1 2 + 1)) c ⟨Nat.le_refl _, ?_, Nat.le_refl _, Nat.le_refl _⟩ x1.1 (Or.inr (Or.inl ⟨rfl, ?_⟩))
    · show D.1 2 ≤ D.1 2 + 1; omega
    · show D.1 2 < D.1 2 + 1; omega
  · have hi' : i < D.1 2 + 1 := hi
    by_cases z : i = D.1 2
    · rw [z]; exact Or.inl (upP_e _ _ _ _)
    · rcases w4 i (by omega) with w | w
      · exact Or.inl ((upP_n z).trans w)
      · refine Or.inr ?_
        show VD (upP (upP D.2.1 0 (D.1 2) (Int32.ofNat v3.1)) 1 (D.1 2) (-2) 1 i)
        rw [upP_n z]; exact w
  · have hi' : i < D.1 2 + 1 := hi
    by_cases z : i = D.1 2
    · exact ⟨v3.1, x3.1, by rw [z]; exact upP_e D.2.1 0 (D.1 2) _⟩
    · obtain ⟨j, hj, ej⟩ := w5 i (by omega)
      exact ⟨j, hj, (upP_n (P := D.2.1) (t := 0) z).trans ej⟩
  · obtain ⟨j, hj, ej⟩ := w7 i hi
    exact ⟨j, Nat.lt_succ_of_lt hj, ej⟩
  · show VD (upN D.2.2.1 (D.1 2) (Int32.ofNat v4.1) (18 + i))
    rw [upN_n (by omega)]; exact n1 i hi
  · show ∃ j, j ≤ 9 ∧ upN D.2.2.1 (D.1 2) (Int32.ofNat v4.1) (10 + i) = _
    rw [upN_n (by omega)]; exact n2 i hi
  · show upN D.2.2.1 (D.1 2) (Int32.ofNat v4.1) (14 + i) = _
    rw [upN_n (by omega)]; exact n3 i hi
  · show upN D.2.2.1 (D.1 2) (Int32.ofNat v4.1) (28 + i) = _
    rw [upN_n (by omega)]; exact n4 i hi
  · show upN D.2.2.1 (D.1 2) (Int32.ofNat v4.1) (5 + i) = _
    rw [upN_n (by omega)]; exact n5 i hi
  · show D.1 6 = wn (upP (upP D.2.1 0 (D.1 2) (Int32.ofNat v3.1)) 1 (D.1 2) (-2)) (D.1 2 + 1)
    unfold wn
    rw [upP_e, if_pos rfl, k, Nat.add_zero]
    symm; apply wn_c; intro i hi
    exact upP_n (P := upP D.2.1 0 (D.1 2) (Int32.ofNat v3.1)) (i := D.1 2) (i' := i) (by omega)
theorem i_lSt (hb : ∀ k, bR (B k)) (hq : q ≤ L) (V : WI D) (hf : ¬ 4 ≤ D.1 3) (h8 : ¬ D.1 8 = 0) {r : DD × Nat} (e : lSt B L D q = .inr r) : WI r.1 ∧ q ≤ r.2 ∧ r.2 ≤ L := by
  unfold lSt at e
  obtain ⟨v1, e1, e⟩ := bS_i e
  obtain ⟨q2, e2, e⟩ := bS_i e
  obtain ⟨v3, e3, e⟩ := bS_i e
  obtain ⟨q4, e4, e⟩ := bS_i e
  obtain ⟨v5, e5, e⟩ := bS_i e
  obtain ⟨v6, e6, e⟩ := bS_i e
  have x1 := i_New hb hq e1
  have x2 := i_Fl hb x1.2.2 e2
  have x3 := i_Wh hb x2.2 e3
  have x4 := i_Fl hb x3.2.2 e4
  have x5 := i_Ch hb x4.2 e5
  have x6 := i_Mk hb _ _ _ _ x5.2.2 e6
  cases e
  obtain ⟨⟨a0, a1, a2, a3, a4, a5, a7, a8⟩, b, c, d, ⟨w1, w2, w3, w4⟩, ⟨n1, n2, n3, n4, n5⟩, k⟩ := V
  refine ⟨⟨⟨a0, a1, a2, ?_, a4, a5, a7, a8⟩, ?_, ?_, fun z => absurd z h8, ⟨fun i hi => ?_, w2, w3, w4⟩, ⟨fun i hi => ?_, fun i hi => ?_, fun i hi => ?_, fun i hi => ?_, fun i hi => ?_⟩, ?_⟩, by omega, by omega⟩
  · show D.1 3 + 1 ≤ 4; omega
  · show (D.2.2.2 ++ [(v1.1, 3, D.1 3)]).length = D.1 1 + D.1 2 + (D.1 3 + 1) + D.1 5
    rw [len_ad]; omega
  · refine NMS.ad (c' := upN D.1 3 (D.1 3 + 1)) c ⟨Nat.le_refl _, Nat.le_refl _, ?_, Nat.le_refl _⟩ x1.1 (Or.inr (Or.inr (Or.inl ⟨rfl, ?_⟩)))
    · show D.1 3 ≤ D.1 3 + 1; omega
    · show D.1 3 < D.1 3 + 1; omega
  · have hi' : i < D.1 3 + 1 := hi
    show VD (upP D.2.1 2 (D.1 3) (Int32.ofNat v5.1) 2 i)
    by_cases z : i = D.1 3
    · rw [z, upP_e]; exact VD3 x5.1
    · rw [upP_n z]; exact w1 i (by omega)
  · show VD (upN D.2.2.1 (10 + D.1 3) (Int32.ofNat v3.1) (18 + i))
    rw [upN_n (by omega)]; exact n1 i hi
  · show ∃ j, j ≤ 9 ∧ upN D.2.2.1 (10 + D.1 3) (Int32.ofNat v3.1) (10 + i) = _
    by_cases z : i = D.1 3
    · exact ⟨v3.1, x3.1, by rw [z, upN_e]⟩
    · rw [upN_n (by omega)]; exact n2 i hi
  · show upN D.2.2.1 (10 + D.1 3) (Int32.ofNat v3.1) (14 + i) = _
    rw [upN_n (by omega)]; exact n3 i hi
  · show upN D.2.2.1 (10 + D.1 3) (Int32.ofNat v3.1) (28 + i) = _
    rw [upN_n (by omega)]; exact n4 i hi
  · show upN D.2.2.1 (10 + D.1 3) (Int32.ofNat v3.1) (5 + i) = _
    rw [upN_n (by omega)]; exact n5 i hi
  · show D.1 6 = wn (upP (upP D.2.1 2 (D.1 3) (Int32.ofNat v5.1)) 3 (D.1 3) (Int32.ofNat v6.1)) (D.1 2)
    rw [k]; symm; apply wn_c; intro i hi; rfl
theorem i_lRu (hb : ∀ k, bR (B k)) (hq : q ≤ L) (V : WI D) (hf : ¬ 10 ≤ D.1 4) (h8 : ¬ D.1 8 = 0) {r : DD × Nat} (e : lRu B L D q = .inr r) : WI r.1 ∧ q ≤ r.2 ∧ r.2 ≤ L := by
  have V0 := V
  unfold lRu at e
  obtain ⟨v1, e1, e⟩ := bS_i e
  obtain ⟨v2, e2, e⟩ := bS_i e
  obtain ⟨v3, e3, e⟩ := bS_i e
  have x0 := tT (B := B) hb hq
  have x1 : (nOt B L (tTo B L q)).1 ≤ 1 ∧ tTo B L q ≤ (nOt B L (tTo B L q)).2 ∧ (nOt B L (tTo B L q)).2 ≤ L := by
    have := tT (B := B) hb x0.2
    unfold nOt
    split
    · exact ⟨Nat.le_refl 1, this⟩
    · exact ⟨Nat.zero_le 1, Nat.le_refl _, x0.2⟩
  have x2 := tT (B := B) hb x1.2.2
  have x3 := i_Ch hb x2.2 e3
  have y2 := i_OldW V0 e2
  generalize nOt B L (tTo B L q) = no at *
  cases e
  obtain ⟨⟨a0, a1, a2, a3, a4, a5, a7, a8⟩, b, c, d, ⟨w1, w2, w3, w4⟩, ⟨n1, n2, n3, n4, n5⟩, k⟩ := V
  refine ⟨⟨⟨a0, a1, a2, a3, ?_, a5, a7, a8⟩, b, c, fun z => absurd z h8, ⟨w1, fun i hi => ?_, fun i hi => ?_, w4⟩, ⟨fun i hi => ?_, fun i hi => ?_, fun i hi => ?_, fun i hi => ?_, fun i hi => ?_⟩, ?_⟩, by omega, by omega⟩
  · show D.1 4 + 1 ≤ 10; omega
  · have hi' : i < D.1 4 + 1 := hi
    show upP (upP D.2.1 4 (D.1 4) (Int32.ofNat v1)) 6 (D.1 4) (Int32.ofNat no.1) 6 i = 0 ∨ upP (upP D.2.1 4 (D.1 4) (Int32.ofNat v1)) 6 (D.1 4) (Int32.ofNat no.1) 6 i = 1
    by_cases z : i = D.1 4
    · rw [z, upP_e]
      rcases (show no.1 = 0 ∨ no.1 = 1 by omega) with zz | zz
      · rw [zz]; exact Or.inl rfl
      · rw [zz]; exact Or.inr rfl
    · rw [upP_n z]; exact w2 i (by omega)
  · have hi' : i < D.1 4 + 1 := hi
    by_cases z : i = D.1 4
    · exact ⟨v2, show v2 < D.1 1 by omega, by rw [z]; exact upP_e _ 5 (D.1 4) _⟩
    · obtain ⟨j, hj, ej⟩ := w3 i (by omega)
      exact ⟨j, hj, (upP_n (t := 5) z).trans ej⟩
  · have hi' : i < D.1 4 + 1 := hi
    show VD (upN D.2.2.1 (18 + D.1 4) (Int32.ofNat v3.1) (18 + i))
    by_cases z : i = D.1 4
    · rw [z, upN_e]; exact VD3 x3.1
    · rw [upN_n (by omega)]; exact n1 i (by omega)
  · show ∃ j, j ≤ 9 ∧ upN D.2.2.1 (18 + D.1 4) (Int32.ofNat v3.1) (10 + i) = _
    rw [upN_n (by omega)]; exact n2 i hi
  · show upN D.2.2.1 (18 + D.1 4) (Int32.ofNat v3.1) (14 + i) = _
    rw [upN_n (by omega)]; exact n3 i hi
  · show upN D.2.2.1 (18 + D.1 4) (Int32.ofNat v3.1) (28 + i) = _
    rw [upN_n (by omega)]; exact n4 i hi
  · show upN D.2.2.1 (18 + D.1 4) (Int32.ofNat v3.1) (5 + i) = _
    rw [upN_n (by omega)]; exact n5 i hi
  · show D.1 6 = wn (upP (upP (upP D.2.1 4 (D.1 4) (Int32.ofNat v1)) 6 (D.1 4) (Int32.ofNat no.1)) 5 (D.1 4) (Int32.ofNat v2)) (D.1 2)
    rw [k]; symm; apply wn_c; intro i hi; rfl
theorem i_lHa (hb : ∀ k, bR (B k)) (hq : q ≤ L) (V : WI D) (hf : ¬ 3 ≤ D.1 5) (h8 : ¬ D.1 8 = 0) {r : DD × Nat} (e : lHa B L D q = .inr r) : WI r.1 ∧ q ≤ r.2 ∧ r.2 ≤ L := by
  unfold lHa at e
  obtain ⟨v1, e1, e⟩ := bS_i e
  obtain ⟨v2, e2, e⟩ := bS_i e
  obtain ⟨q3, e3, e⟩ := bS_i e
  obtain ⟨v4, e4, e⟩ := bS_i e
  have x1 := i_New hb hq e1
  have x2 := i_Ch hb x1.2.2 e2
  have x3 := i_Fl hb x2.2.2 e3
  have x4 := i_Wh hb x3.2 e4
  cases e
  obtain ⟨⟨a0, a1, a2, a3, a4, a5, a7, a8⟩, b, c, d, ⟨w1, w2, w3, w4, w5, w6, w7, w8, w9⟩, n, k⟩ := V
  refine ⟨⟨⟨a0, a1, a2, a3, a4, ?_, a7, a8⟩, ?_, ?_, fun z => absurd z h8, ⟨w1, w2, w3, w4, w5, fun i hi => ?_, w7, fun i hi => ?_, w9⟩, n, ?_⟩, by omega, by omega⟩
  · show D.1 5 + 1 ≤ 3; omega
  · show (D.2.2.2 ++ [(v1.1, 5, D.1 5)]).length = D.1 1 + D.1 2 + D.1 3 + (D.1 5 + 1)
    rw [len_ad]; omega
  · refine NMS.ad (c' := upN D.1 5 (D.1 5 + 1)) c ⟨Nat.le_refl _, Nat.le_refl _, Nat.le_refl _, ?_⟩ x1.1 (Or.inr (Or.inr (Or.inr ⟨rfl, ?_⟩)))
    · show D.1 5 ≤ D.1 5 + 1; omega
    · show D.1 5 < D.1 5 + 1; omega
  · have hi' : i < D.1 5 + 1 := hi
    by_cases z : i = D.1 5
    · exact ⟨v4.1, x4.1, by rw [z]; exact upP_e _ 8 (D.1 5) _⟩
    · obtain ⟨j, hj, ej⟩ := w6 i (by omega)
      exact ⟨j, hj, (upP_n (t := 8) z).trans ej⟩
  · obtain ⟨j, hj, ej⟩ := w8 i hi
    exact ⟨j, Nat.lt_succ_of_lt hj, ej⟩
  · show D.1 6 = wn (upP (upP D.2.1 7 (D.1 5) (Int32.ofNat v2.1)) 8 (D.1 5) (Int32.ofNat v4.1)) (D.1 2)
    rw [k]; symm; apply wn_c; intro i hi; rfl
theorem i_lWa (hb : ∀ k, bR (B k)) (hq : q ≤ L) (V : WI D) (h8 : ¬ D.1 8 = 0) {r : DD × Nat} (e : lWa B L D q = .inr r) : WI r.1 ∧ q ≤ r.2 ∧ r.2 ≤ L := by
  have V0 := V
  unfold lWa at e
  obtain ⟨v1, e1, e⟩ := bS_i e
  have x0 := tT (B := B) hb hq
  have y1 := i_OldW V0 e1
  split at e
  · rename_i z0
    obtain ⟨v2, e2, e⟩ := bS_i e
    have x2 := i_Ch hb x0.2 e2
    cases e
    obtain ⟨⟨a0, a1, a2, a3, a4, a5, a7, a8⟩, b, c, d, ⟨w1, w2, w3, w4, w5⟩, n, k⟩ := V
    refine ⟨⟨⟨a0, a1, a2, a3, a4, a5, a7, a8⟩, b, c, fun z => absurd z h8, ⟨w1, w2, w3, fun i hi => ?_, w5⟩, n, ?_⟩, by omega, by omega⟩
    · show upP D.2.1 1 v1 (Int32.ofNat v2.1) 1 i = -2 ∨ VD (upP D.2.1 1 v1 (Int32.ofNat v2.1) 1 i)
      by_cases z : i = v1
      · rw [z, upP_e]; exact Or.inr (VD3 x2.1)
      · rw [upP_n z]; exact w4 i hi
    · show D.1 6 + 1 = wn (upP D.2.1 1 v1 (Int32.ofNat v2.1)) (D.1 2)
      rw [wn_u z0 (VDn (VD3 x2.1)) (D.1 2) (by omega), k]
  · cases e
theorem i_lPr (hb : ∀ k, bR (B k)) (hq : q ≤ L) (V : WI D) (hf : ¬ 4 ≤ D.1 7) (h8 : ¬ D.1 8 = 0) {r : DD × Nat} (e : lPr B L D q = .inr r) : WI r.1 ∧ q ≤ r.2 ∧ r.2 ≤ L := by
  have V0 := V
  unfold lPr at e
  obtain ⟨v1, e1, e⟩ := bS_i e
  obtain ⟨v2, e2, e⟩ := bS_i e
  obtain ⟨v3, e3, e⟩ := bS_i e
  have x0 := tT (B := B) hb hq
  have x1 := tT (B := B) hb x0.2
  have x3 := i_Ch hb x1.2 e3
  have y1 := i_OldW V0 e1
  have y2 := i_OldW V0 e2
  cases e
  obtain ⟨⟨a0, a1, a2, a3, a4, a5, a7, a8⟩, b, c, d, ⟨w1, w2, w3, w4, w5, w6, w7, w8, w9⟩, n, k⟩ := V
  refine ⟨⟨⟨a0, a1, a2, a3, a4, a5, ?_, a8⟩, b, c, fun z => absurd z h8, ⟨w1, w2, w3, w4, w5, w6, fun i hi => ?_, fun i hi => ?_, fun i hi => ?_⟩, n, ?_⟩, by omega, by omega⟩
  · show D.1 7 + 1 ≤ 4; omega
  · have hi' : i < D.1 7 + 1 := hi
    by_cases z : i = D.1 7
    · exact ⟨v1, show v1 < D.1 2 by omega, by rw [z]; exact upP_e _ 9 (D.1 7) _⟩
    · obtain ⟨j, hj, ej⟩ := w7 i (by omega)
      exact ⟨j, hj, (upP_n (t := 9) z).trans ej⟩
  · have hi' : i < D.1 7 + 1 := hi
    by_cases z : i = D.1 7
    · exact ⟨v2, show v2 < D.1 5 by omega, by rw [z]; exact upP_e _ 10 (D.1 7) _⟩
    · obtain ⟨j, hj, ej⟩ := w8 i (by omega)
      exact ⟨j, hj, (upP_n (t := 10) z).trans ej⟩
  · have hi' : i < D.1 7 + 1 := hi
    show VD (upP (upP (upP D.2.1 9 (D.1 7) (Int32.ofNat v1)) 10 (D.1 7) (Int32.ofNat v2)) 11 (D.1 7) (Int32.ofNat v3.1) 11 i)
    by_cases z : i = D.1 7
    · rw [z, upP_e]; exact VD3 x3.1
    · rw [upP_n z]; exact w9 i (by omega)
  · show D.1 6 = wn (upP (upP (upP D.2.1 9 (D.1 7) (Int32.ofNat v1)) 10 (D.1 7) (Int32.ofNat v2)) 11 (D.1 7) (Int32.ofNat v3.1)) (D.1 2)
    rw [k]; symm; apply wn_c; intro i hi; rfl
end PRB
