def bL_law_1930 (Ls : Nat) (xs : Nat → Int32) (k23 : MH → Nat → Nat → Nat → Int32 → Option (Int32 × MH)) (h : MH) (a1 : Nat) (a2 : Nat) (a3 : Nat) (x4 : Int32) : Option (Int32 × MH) := bd (ck h a1 11) fun _ => bd2 (fX11_trouble h a1 ) fun v2 h1 => bd (ck h1 a2 13) fun _ => bd2 (fX13_trouble h1 a2 ) fun v4 h2 => if v2 = v4 then (bd (some (x4 + 6)) fun v5 => k23 h2 a1 a2 a3 v5) else (some (0, h2))
set_option maxRecDepth 20000 in
theorem tL_law_1930 {Ls : Nat} {xs : Nat → Int32} {r : Int32} {h' : MH} (k23 : MH → Nat → Nat → Nat → Int32 → Option (Int32 × MH)) (hk23 : ∀ (h : MH) (a1 : Nat) (a2 : Nat) (a3 : Nat) (x4 : Int32), k23 h a1 a2 a3 x4 = some (r, h') → V (PL Ls xs) mL_law 18 (some (.int r)) h' h 23 [.retAddr 1000, .ref a1, .ref a2, .ref a3, .int x4, Jk, Jk] [])  {h : MH} {a1 : Nat} {a2 : Nat} {a3 : Nat} {x4 : Int32} (hf : bL_law_1930 Ls xs k23 h a1 a2 a3 x4 = some (r, h')) : V (PL Ls xs) mL_law 18 (some (.int r)) h' h 1930 [.retAddr 1000, .ref a1, .ref a2, .ref a3, .int x4, Jk, Jk] [] := by
  unfold bL_law_1930 at hf
  refine V.aload_n (q := 1931) rfl dL_law_1930 rfl rfl ?_
  obtain ⟨_, e1, hf⟩ := bd_ex hf
  obtain ⟨v2, h1, eh1, hf⟩ := bd2_ex hf
  refine V.callV (q := 1934) (ci := 11) (vs := []) (st := []) (S2 := [.int v2]) okX11_trouble imX11_trouble seX11_trouble rfl lkL_240 (tX11_trouble eh1) rfl (ck_is e1) (by decide) rfl (Nat.le_of_ble_eq_true rfl) (Nat.le_of_ble_eq_true rfl) rfl dL_law_1931 rfl rfl ?_
  refine V.aload_n (q := 1935) rfl dL_law_1934 rfl rfl ?_
  obtain ⟨_, e3, hf⟩ := bd_ex hf
  obtain ⟨v4, h2, eh2, hf⟩ := bd2_ex hf
  refine V.callV (q := 1938) (ci := 13) (vs := []) (st := [.int v2]) (S2 := [.int v4, .int v2]) okX13_trouble imX13_trouble seX13_trouble rfl lkL_243 (tX13_trouble eh2) rfl (ck_is e3) (by decide) rfl (Nat.le_of_ble_eq_true rfl) (Nat.le_of_ble_eq_true rfl) rfl dL_law_1935 rfl rfl ?_
  refine V.icmp_eq (q := 1941) (tgt := 1943) dL_law_1938 rfl (by decide) (fun c => ?_) (fun c => ?_)
  · rw [if_pos c] at hf
    obtain ⟨v5, ev5, hf⟩ := bd_ex hf
    refine V.iinc (q := 1946) (v := v5) (L' := [.retAddr 1000, .ref a1, .ref a2, .ref a3, .int v5, Jk, Jk]) dL_law_1943 rfl rfl (Option.some.inj ev5) (by decide) rfl rfl ?_
    refine V.goto (q := 23) dL_law_1946 (by decide) ?_
    exact hk23 _ _ _ _ _ hf
  · rw [if_neg c] at hf
    refine V.iconst (q := 1942) (v := 0) (by decide) dL_law_1941 rfl ?_
    obtain ⟨rfl, rfl⟩ := ret_inj hf
    exact V.ret (r := some (.int 0)) (Or.inl rfl) dL_law_1942
def bL_law_1905 (Ls : Nat) (xs : Nat → Int32) (k23 : MH → Nat → Nat → Nat → Int32 → Option (Int32 × MH)) (h : MH) (a1 : Nat) (a2 : Nat) (a3 : Nat) (x4 : Int32) : Option (Int32 × MH) := bd (sld Ls xs (x4 + 1)) fun v1 => bd (ck h a1 11) fun _ => bd2 (fX11_size h a1 v1) fun v3 h1 => bd (sld Ls xs (x4 + 1)) fun v4 => bd (ck h1 a2 13) fun _ => bd2 (fX13_size h1 a2 v4) fun v6 h2 => if v3 = v6 then (bd (some (x4 + 6)) fun v7 => k23 h2 a1 a2 a3 v7) else (some (0, h2))
set_option maxRecDepth 20000 in
theorem tL_law_1905 {Ls : Nat} {xs : Nat → Int32} {r : Int32} {h' : MH} (k23 : MH → Nat → Nat → Nat → Int32 → Option (Int32 × MH)) (hk23 : ∀ (h : MH) (a1 : Nat) (a2 : Nat) (a3 : Nat) (x4 : Int32), k23 h a1 a2 a3 x4 = some (r, h') → V (PL Ls xs) mL_law 18 (some (.int r)) h' h 23 [.retAddr 1000, .ref a1, .ref a2, .ref a3, .int x4, Jk, Jk] [])  {h : MH} {a1 : Nat} {a2 : Nat} {a3 : Nat} {x4 : Int32} (hf : bL_law_1905 Ls xs k23 h a1 a2 a3 x4 = some (r, h')) : V (PL Ls xs) mL_law 18 (some (.int r)) h' h 1905 [.retAddr 1000, .ref a1, .ref a2, .ref a3, .int x4, Jk, Jk] [] := by
  unfold bL_law_1905 at hf
  refine V.aload_n (q := 1906) rfl dL_law_1905 rfl rfl ?_
  refine V.aloadT_n (q := 1907) rfl (by decide) tk_1000 dL_law_1906 rfl rfl ?_
  refine V.iload (q := 1909) dL_law_1907 rfl rfl ?_
  refine V.iconst (q := 1910) (v := 1) (by decide) dL_law_1909 rfl ?_
  refine V.iadd (q := 1911) dL_law_1910 rfl ?_
  obtain ⟨v1, ev1, hf⟩ := bd_ex hf
  refine V.sld (q := 1912) PL_sc ev1 dL_law_1911 rfl ?_
  obtain ⟨_, e2, hf⟩ := bd_ex hf
  obtain ⟨v3, h1, eh1, hf⟩ := bd2_ex hf
  refine V.callV (q := 1915) (ci := 11) (vs := [.int v1]) (st := []) (S2 := [.int v3]) okX11_size imX11_size seX11_size rfl lkL_236 (tX11_size eh1) rfl (ck_is e2) (by decide) rfl (Nat.le_of_ble_eq_true rfl) (Nat.le_of_ble_eq_true rfl) rfl dL_law_1912 rfl rfl ?_
  refine V.aload_n (q := 1916) rfl dL_law_1915 rfl rfl ?_
  refine V.aloadT_n (q := 1917) rfl (by decide) tk_1000 dL_law_1916 rfl rfl ?_
  refine V.iload (q := 1919) dL_law_1917 rfl rfl ?_
  refine V.iconst (q := 1920) (v := 1) (by decide) dL_law_1919 rfl ?_
  refine V.iadd (q := 1921) dL_law_1920 rfl ?_
  obtain ⟨v4, ev4, hf⟩ := bd_ex hf
  refine V.sld (q := 1922) PL_sc ev4 dL_law_1921 rfl ?_
  obtain ⟨_, e5, hf⟩ := bd_ex hf
  obtain ⟨v6, h2, eh2, hf⟩ := bd2_ex hf
  refine V.callV (q := 1925) (ci := 13) (vs := [.int v4]) (st := [.int v3]) (S2 := [.int v6, .int v3]) okX13_size imX13_size seX13_size rfl lkL_239 (tX13_size eh2) rfl (ck_is e5) (by decide) rfl (Nat.le_of_ble_eq_true rfl) (Nat.le_of_ble_eq_true rfl) rfl dL_law_1922 rfl rfl ?_
  refine V.icmp_eq (q := 1928) (tgt := 1943) dL_law_1925 rfl (by decide) (fun c => ?_) (fun c => ?_)
  · rw [if_pos c] at hf
    obtain ⟨v7, ev7, hf⟩ := bd_ex hf
    refine V.iinc (q := 1946) (v := v7) (L' := [.retAddr 1000, .ref a1, .ref a2, .ref a3, .int v7, Jk, Jk]) dL_law_1943 rfl rfl (Option.some.inj ev7) (by decide) rfl rfl ?_
    refine V.goto (q := 23) dL_law_1946 (by decide) ?_
    exact hk23 _ _ _ _ _ hf
  · rw [if_neg c] at hf
    refine V.iconst (q := 1929) (v := 0) (by decide) dL_law_1928 rfl ?_
    obtain ⟨rfl, rfl⟩ := ret_inj hf
    exact V.ret (r := some (.int 0)) (Or.inl rfl) dL_law_1929
def bL_law_1849 (Ls : Nat) (xs : Nat → Int32) (k23 : MH → Nat → Nat → Nat → Int32 → Option (Int32 × MH)) (h : MH) (a1 : Nat) (a2 : Nat) (a3 : Nat) (x4 : Int32) : Option (Int32 × MH) := bd (sld Ls xs (x4 + 1)) fun v1 => bd2 (fL_led h a1 v1 a3) fun v2 h1 => bd (sld Ls xs (x4 + 1)) fun v3 => bd (ck h1 a2 13) fun _ => bd2 (fX13_led h1 a2 v3) fun v5 h2 => bd (ck h2 a2 13) fun _ => bd2 (fX13_thrown h2 a2 ) fun v7 h3 => if v7 = v2 then (if v2 = 0 then (bd (lJ h3 a3 0) fun w8 => if (lg_cmp w8 (Int32.toInt64 v5)) = 0 then (bd (some (x4 + 6)) fun v9 => k23 h3 a1 a2 a3 v9) else (some (0, h3))) else (bd (some (x4 + 6)) fun v8 => k23 h3 a1 a2 a3 v8)) else (some (0, h3))
set_option maxRecDepth 20000 in
theorem tL_law_1849 {Ls : Nat} {xs : Nat → Int32} {r : Int32} {h' : MH} (k23 : MH → Nat → Nat → Nat → Int32 → Option (Int32 × MH)) (hk23 : ∀ (h : MH) (a1 : Nat) (a2 : Nat) (a3 : Nat) (x4 : Int32), k23 h a1 a2 a3 x4 = some (r, h') → V (PL Ls xs) mL_law 18 (some (.int r)) h' h 23 [.retAddr 1000, .ref a1, .ref a2, .ref a3, .int x4, Jk, Jk] [])  {h : MH} {a1 : Nat} {a2 : Nat} {a3 : Nat} {x4 : Int32} (hf : bL_law_1849 Ls xs k23 h a1 a2 a3 x4 = some (r, h')) : V (PL Ls xs) mL_law 18 (some (.int r)) h' h 1849 [.retAddr 1000, .ref a1, .ref a2, .ref a3, .int x4, Jk, Jk] [] := by
  unfold bL_law_1849 at hf
  refine V.aload_n (q := 1850) rfl dL_law_1849 rfl rfl ?_
  refine V.aloadT_n (q := 1851) rfl (by decide) tk_1000 dL_law_1850 rfl rfl ?_
  refine V.iload (q := 1853) dL_law_1851 rfl rfl ?_
  refine V.iconst (q := 1854) (v := 1) (by decide) dL_law_1853 rfl ?_
  refine V.iadd (q := 1855) dL_law_1854 rfl ?_
  obtain ⟨v1, ev1, hf⟩ := bd_ex hf
  refine V.sld (q := 1856) PL_sc ev1 dL_law_1855 rfl ?_
  refine V.aload_n (q := 1857) rfl dL_law_1856 rfl rfl ?_
  obtain ⟨v2, h1, eh1, hf⟩ := bd2_ex hf
  refine V.callLed (q := 1860) (st := []) (S2 := [.int v2]) PL_st rfl eh1 (by decide) rfl (Nat.le_of_ble_eq_true rfl) dL_law_1857 rfl rfl ?_
  refine V.istore (q := 1862) (L' := [.retAddr 1000, .ref a1, .ref a2, .ref a3, .int x4, .int v2, Jk]) dL_law_1860 rfl (by decide) rfl rfl ?_
  refine V.aload_n (q := 1863) rfl dL_law_1862 rfl rfl ?_
  refine V.aloadT_n (q := 1864) rfl (by decide) tk_1000 dL_law_1863 rfl rfl ?_
  refine V.iload (q := 1866) dL_law_1864 rfl rfl ?_
  refine V.iconst (q := 1867) (v := 1) (by decide) dL_law_1866 rfl ?_
  refine V.iadd (q := 1868) dL_law_1867 rfl ?_
  obtain ⟨v3, ev3, hf⟩ := bd_ex hf
  refine V.sld (q := 1869) PL_sc ev3 dL_law_1868 rfl ?_
  obtain ⟨_, e4, hf⟩ := bd_ex hf
  obtain ⟨v5, h2, eh2, hf⟩ := bd2_ex hf
  refine V.callV (q := 1872) (ci := 13) (vs := [.int v3]) (st := []) (S2 := [.int v5]) okX13_led imX13_led seX13_led rfl lkL_232 (tX13_led eh2) rfl (ck_is e4) (by decide) rfl (Nat.le_of_ble_eq_true rfl) (Nat.le_of_ble_eq_true rfl) rfl dL_law_1869 rfl rfl ?_
  refine V.istore (q := 1874) (L' := [.retAddr 1000, .ref a1, .ref a2, .ref a3, .int x4, .int v2, .int v5]) dL_law_1872 rfl (by decide) rfl rfl ?_
  refine V.aload_n (q := 1875) rfl dL_law_1874 rfl rfl ?_
  obtain ⟨_, e6, hf⟩ := bd_ex hf
  obtain ⟨v7, h3, eh3, hf⟩ := bd2_ex hf
  refine V.callV (q := 1878) (ci := 13) (vs := []) (st := []) (S2 := [.int v7]) okX13_thrown imX13_thrown seX13_thrown rfl lkL_233 (tX13_thrown eh3) rfl (ck_is e6) (by decide) rfl (Nat.le_of_ble_eq_true rfl) (Nat.le_of_ble_eq_true rfl) rfl dL_law_1875 rfl rfl ?_
  refine V.iload (q := 1880) dL_law_1878 rfl rfl ?_
  refine V.icmp_eq (q := 1883) (tgt := 1885) dL_law_1880 rfl (by decide) (fun c => ?_) (fun c => ?_)
  · rw [if_pos c] at hf
    refine V.iload (q := 1887) dL_law_1885 rfl rfl ?_
    refine V.if_ne (q := 1890) (tgt := 1902) dL_law_1887 rfl (by decide) (fun c => ?_) (fun c => ?_)
    · rw [if_neg c] at hf
      refine V.goto (q := 1943) dL_law_1902 (by decide) ?_
      obtain ⟨v8, ev8, hf⟩ := bd_ex hf
      refine V.iinc (q := 1946) (v := v8) (L' := [.retAddr 1000, .ref a1, .ref a2, .ref a3, .int v8, .int v2, .int v5]) dL_law_1943 rfl rfl (Option.some.inj ev8) (by decide) rfl rfl ?_
      refine V.goto (q := 23) dL_law_1946 (by decide) ?_
      refine V.forget (L' := [.retAddr 1000, .ref a1, .ref a2, .ref a3, .int v8, Jk, Jk]) ⟨Or.inr rfl, Or.inr rfl, Or.inr rfl, Or.inr rfl, Or.inr rfl, Or.inl rfl, Or.inl rfl, trivial⟩ ?_
      exact hk23 _ _ _ _ _ hf
    · rw [if_pos c] at hf
      refine V.aload_n (q := 1891) rfl dL_law_1890 rfl rfl ?_
      refine V.iconst (q := 1892) (v := 0) (by decide) dL_law_1891 rfl ?_
      obtain ⟨w8, ew8, hf⟩ := bd_ex hf
      refine V.lald (q := 1893) ew8 dL_law_1892 rfl ?_
      refine V.iload (q := 1895) dL_law_1893 rfl rfl ?_
      refine V.i2l (q := 1896) dL_law_1895 rfl ?_
      refine V.lcmp (q := 1897) dL_law_1896 rfl ?_
      refine V.if_eq (q := 1900) (tgt := 1902) dL_law_1897 rfl (by decide) (fun c => ?_) (fun c => ?_)
      · rw [if_pos c] at hf
        refine V.goto (q := 1943) dL_law_1902 (by decide) ?_
        obtain ⟨v9, ev9, hf⟩ := bd_ex hf
        refine V.iinc (q := 1946) (v := v9) (L' := [.retAddr 1000, .ref a1, .ref a2, .ref a3, .int v9, .int v2, .int v5]) dL_law_1943 rfl rfl (Option.some.inj ev9) (by decide) rfl rfl ?_
        refine V.goto (q := 23) dL_law_1946 (by decide) ?_
        refine V.forget (L' := [.retAddr 1000, .ref a1, .ref a2, .ref a3, .int v9, Jk, Jk]) ⟨Or.inr rfl, Or.inr rfl, Or.inr rfl, Or.inr rfl, Or.inr rfl, Or.inl rfl, Or.inl rfl, trivial⟩ ?_
        exact hk23 _ _ _ _ _ hf
      · rw [if_neg c] at hf
        refine V.iconst (q := 1901) (v := 0) (by decide) dL_law_1900 rfl ?_
        obtain ⟨rfl, rfl⟩ := ret_inj hf
        exact V.ret (r := some (.int 0)) (Or.inl rfl) dL_law_1901
  · rw [if_neg c] at hf
    refine V.iconst (q := 1884) (v := 0) (by decide) dL_law_1883 rfl ?_
    obtain ⟨rfl, rfl⟩ := ret_inj hf
    exact V.ret (r := some (.int 0)) (Or.inl rfl) dL_law_1884
def bL_law_1824 (Ls : Nat) (xs : Nat → Int32) (k23 : MH → Nat → Nat → Nat → Int32 → Option (Int32 × MH)) (h : MH) (a1 : Nat) (a2 : Nat) (a3 : Nat) (x4 : Int32) : Option (Int32 × MH) := bd (sld Ls xs (x4 + 1)) fun v1 => bd (ck h a1 11) fun _ => bd2 (fX11_back h a1 v1) fun v3 h1 => bd (sld Ls xs (x4 + 1)) fun v4 => bd (ck h1 a2 13) fun _ => bd2 (fX13_back h1 a2 v4) fun v6 h2 => if v3 = v6 then (bd (some (x4 + 6)) fun v7 => k23 h2 a1 a2 a3 v7) else (some (0, h2))
set_option maxRecDepth 20000 in
theorem tL_law_1824 {Ls : Nat} {xs : Nat → Int32} {r : Int32} {h' : MH} (k23 : MH → Nat → Nat → Nat → Int32 → Option (Int32 × MH)) (hk23 : ∀ (h : MH) (a1 : Nat) (a2 : Nat) (a3 : Nat) (x4 : Int32), k23 h a1 a2 a3 x4 = some (r, h') → V (PL Ls xs) mL_law 18 (some (.int r)) h' h 23 [.retAddr 1000, .ref a1, .ref a2, .ref a3, .int x4, Jk, Jk] [])  {h : MH} {a1 : Nat} {a2 : Nat} {a3 : Nat} {x4 : Int32} (hf : bL_law_1824 Ls xs k23 h a1 a2 a3 x4 = some (r, h')) : V (PL Ls xs) mL_law 18 (some (.int r)) h' h 1824 [.retAddr 1000, .ref a1, .ref a2, .ref a3, .int x4, Jk, Jk] [] := by
  unfold bL_law_1824 at hf
  refine V.aload_n (q := 1825) rfl dL_law_1824 rfl rfl ?_
  refine V.aloadT_n (q := 1826) rfl (by decide) tk_1000 dL_law_1825 rfl rfl ?_
  refine V.iload (q := 1828) dL_law_1826 rfl rfl ?_
  refine V.iconst (q := 1829) (v := 1) (by decide) dL_law_1828 rfl ?_
  refine V.iadd (q := 1830) dL_law_1829 rfl ?_
  obtain ⟨v1, ev1, hf⟩ := bd_ex hf
  refine V.sld (q := 1831) PL_sc ev1 dL_law_1830 rfl ?_
  obtain ⟨_, e2, hf⟩ := bd_ex hf
  obtain ⟨v3, h1, eh1, hf⟩ := bd2_ex hf
  refine V.callV (q := 1834) (ci := 11) (vs := [.int v1]) (st := []) (S2 := [.int v3]) okX11_back imX11_back seX11_back rfl lkL_222 (tX11_back eh1) rfl (ck_is e2) (by decide) rfl (Nat.le_of_ble_eq_true rfl) (Nat.le_of_ble_eq_true rfl) rfl dL_law_1831 rfl rfl ?_
  refine V.aload_n (q := 1835) rfl dL_law_1834 rfl rfl ?_
  refine V.aloadT_n (q := 1836) rfl (by decide) tk_1000 dL_law_1835 rfl rfl ?_
  refine V.iload (q := 1838) dL_law_1836 rfl rfl ?_
  refine V.iconst (q := 1839) (v := 1) (by decide) dL_law_1838 rfl ?_
  refine V.iadd (q := 1840) dL_law_1839 rfl ?_
  obtain ⟨v4, ev4, hf⟩ := bd_ex hf
  refine V.sld (q := 1841) PL_sc ev4 dL_law_1840 rfl ?_
  obtain ⟨_, e5, hf⟩ := bd_ex hf
  obtain ⟨v6, h2, eh2, hf⟩ := bd2_ex hf
  refine V.callV (q := 1844) (ci := 13) (vs := [.int v4]) (st := [.int v3]) (S2 := [.int v6, .int v3]) okX13_back imX13_back seX13_back rfl lkL_226 (tX13_back eh2) rfl (ck_is e5) (by decide) rfl (Nat.le_of_ble_eq_true rfl) (Nat.le_of_ble_eq_true rfl) rfl dL_law_1841 rfl rfl ?_
  refine V.icmp_eq (q := 1847) (tgt := 1943) dL_law_1844 rfl (by decide) (fun c => ?_) (fun c => ?_)
  · rw [if_pos c] at hf
    obtain ⟨v7, ev7, hf⟩ := bd_ex hf
    refine V.iinc (q := 1946) (v := v7) (L' := [.retAddr 1000, .ref a1, .ref a2, .ref a3, .int v7, Jk, Jk]) dL_law_1943 rfl rfl (Option.some.inj ev7) (by decide) rfl rfl ?_
    refine V.goto (q := 23) dL_law_1946 (by decide) ?_
    exact hk23 _ _ _ _ _ hf
  · rw [if_neg c] at hf
    refine V.iconst (q := 1848) (v := 0) (by decide) dL_law_1847 rfl ?_
    obtain ⟨rfl, rfl⟩ := ret_inj hf
    exact V.ret (r := some (.int 0)) (Or.inl rfl) dL_law_1848
def bL_law_1811 (Ls : Nat) (xs : Nat → Int32) (k23 : MH → Nat → Nat → Nat → Int32 → Option (Int32 × MH)) (h : MH) (a1 : Nat) (a2 : Nat) (a3 : Nat) (x4 : Int32) : Option (Int32 × MH) := bd (ck h a1 11) fun _ => bd2 (fX11_image h a1 ) fun v2 h1 => bd (ck h1 a2 13) fun _ => bd2 (fX13_image h1 a2 ) fun v4 h2 => if v2 = v4 then (bd (some (x4 + 6)) fun v5 => k23 h2 a1 a2 a3 v5) else (some (0, h2))
set_option maxRecDepth 20000 in
theorem tL_law_1811 {Ls : Nat} {xs : Nat → Int32} {r : Int32} {h' : MH} (k23 : MH → Nat → Nat → Nat → Int32 → Option (Int32 × MH)) (hk23 : ∀ (h : MH) (a1 : Nat) (a2 : Nat) (a3 : Nat) (x4 : Int32), k23 h a1 a2 a3 x4 = some (r, h') → V (PL Ls xs) mL_law 18 (some (.int r)) h' h 23 [.retAddr 1000, .ref a1, .ref a2, .ref a3, .int x4, Jk, Jk] [])  {h : MH} {a1 : Nat} {a2 : Nat} {a3 : Nat} {x4 : Int32} (hf : bL_law_1811 Ls xs k23 h a1 a2 a3 x4 = some (r, h')) : V (PL Ls xs) mL_law 18 (some (.int r)) h' h 1811 [.retAddr 1000, .ref a1, .ref a2, .ref a3, .int x4, Jk, Jk] [] := by
  unfold bL_law_1811 at hf
  refine V.aload_n (q := 1812) rfl dL_law_1811 rfl rfl ?_
  obtain ⟨_, e1, hf⟩ := bd_ex hf
  obtain ⟨v2, h1, eh1, hf⟩ := bd2_ex hf
  refine V.callV (q := 1815) (ci := 11) (vs := []) (st := []) (S2 := [.int v2]) okX11_image imX11_image seX11_image rfl lkL_218 (tX11_image eh1) rfl (ck_is e1) (by decide) rfl (Nat.le_of_ble_eq_true rfl) (Nat.le_of_ble_eq_true rfl) rfl dL_law_1812 rfl rfl ?_
  refine V.aload_n (q := 1816) rfl dL_law_1815 rfl rfl ?_
  obtain ⟨_, e3, hf⟩ := bd_ex hf
  obtain ⟨v4, h2, eh2, hf⟩ := bd2_ex hf
  refine V.callV (q := 1819) (ci := 13) (vs := []) (st := [.int v2]) (S2 := [.int v4, .int v2]) okX13_image imX13_image seX13_image rfl lkL_221 (tX13_image eh2) rfl (ck_is e3) (by decide) rfl (Nat.le_of_ble_eq_true rfl) (Nat.le_of_ble_eq_true rfl) rfl dL_law_1816 rfl rfl ?_
  refine V.icmp_eq (q := 1822) (tgt := 1943) dL_law_1819 rfl (by decide) (fun c => ?_) (fun c => ?_)
  · rw [if_pos c] at hf
    obtain ⟨v5, ev5, hf⟩ := bd_ex hf
    refine V.iinc (q := 1946) (v := v5) (L' := [.retAddr 1000, .ref a1, .ref a2, .ref a3, .int v5, Jk, Jk]) dL_law_1943 rfl rfl (Option.some.inj ev5) (by decide) rfl rfl ?_
    refine V.goto (q := 23) dL_law_1946 (by decide) ?_
    exact hk23 _ _ _ _ _ hf
  · rw [if_neg c] at hf
    refine V.iconst (q := 1823) (v := 0) (by decide) dL_law_1822 rfl ?_
    obtain ⟨rfl, rfl⟩ := ret_inj hf
    exact V.ret (r := some (.int 0)) (Or.inl rfl) dL_law_1823
def bL_law_1798 (Ls : Nat) (xs : Nat → Int32) (k23 : MH → Nat → Nat → Nat → Int32 → Option (Int32 × MH)) (h : MH) (a1 : Nat) (a2 : Nat) (a3 : Nat) (x4 : Int32) : Option (Int32 × MH) := bd (ck h a1 11) fun _ => bd2 (fX11_undo h a1 ) fun v2 h1 => bd (ck h1 a2 13) fun _ => bd2 (fX13_undo h1 a2 ) fun v4 h2 => if v2 = v4 then (bd (some (x4 + 6)) fun v5 => k23 h2 a1 a2 a3 v5) else (some (0, h2))
set_option maxRecDepth 20000 in
theorem tL_law_1798 {Ls : Nat} {xs : Nat → Int32} {r : Int32} {h' : MH} (k23 : MH → Nat → Nat → Nat → Int32 → Option (Int32 × MH)) (hk23 : ∀ (h : MH) (a1 : Nat) (a2 : Nat) (a3 : Nat) (x4 : Int32), k23 h a1 a2 a3 x4 = some (r, h') → V (PL Ls xs) mL_law 18 (some (.int r)) h' h 23 [.retAddr 1000, .ref a1, .ref a2, .ref a3, .int x4, Jk, Jk] [])  {h : MH} {a1 : Nat} {a2 : Nat} {a3 : Nat} {x4 : Int32} (hf : bL_law_1798 Ls xs k23 h a1 a2 a3 x4 = some (r, h')) : V (PL Ls xs) mL_law 18 (some (.int r)) h' h 1798 [.retAddr 1000, .ref a1, .ref a2, .ref a3, .int x4, Jk, Jk] [] := by
  unfold bL_law_1798 at hf
  refine V.aload_n (q := 1799) rfl dL_law_1798 rfl rfl ?_
  obtain ⟨_, e1, hf⟩ := bd_ex hf
  obtain ⟨v2, h1, eh1, hf⟩ := bd2_ex hf
  refine V.callV (q := 1802) (ci := 11) (vs := []) (st := []) (S2 := [.int v2]) okX11_undo imX11_undo seX11_undo rfl lkL_213 (tX11_undo eh1) rfl (ck_is e1) (by decide) rfl (Nat.le_of_ble_eq_true rfl) (Nat.le_of_ble_eq_true rfl) rfl dL_law_1799 rfl rfl ?_
  refine V.aload_n (q := 1803) rfl dL_law_1802 rfl rfl ?_
  obtain ⟨_, e3, hf⟩ := bd_ex hf
  obtain ⟨v4, h2, eh2, hf⟩ := bd2_ex hf
  refine V.callV (q := 1806) (ci := 13) (vs := []) (st := [.int v2]) (S2 := [.int v4, .int v2]) okX13_undo imX13_undo seX13_undo rfl lkL_217 (tX13_undo eh2) rfl (ck_is e3) (by decide) rfl (Nat.le_of_ble_eq_true rfl) (Nat.le_of_ble_eq_true rfl) rfl dL_law_1803 rfl rfl ?_
  refine V.icmp_eq (q := 1809) (tgt := 1943) dL_law_1806 rfl (by decide) (fun c => ?_) (fun c => ?_)
  · rw [if_pos c] at hf
    obtain ⟨v5, ev5, hf⟩ := bd_ex hf
    refine V.iinc (q := 1946) (v := v5) (L' := [.retAddr 1000, .ref a1, .ref a2, .ref a3, .int v5, Jk, Jk]) dL_law_1943 rfl rfl (Option.some.inj ev5) (by decide) rfl rfl ?_
    refine V.goto (q := 23) dL_law_1946 (by decide) ?_
    exact hk23 _ _ _ _ _ hf
  · rw [if_neg c] at hf
    refine V.iconst (q := 1810) (v := 0) (by decide) dL_law_1809 rfl ?_
    obtain ⟨rfl, rfl⟩ := ret_inj hf
    exact V.ret (r := some (.int 0)) (Or.inl rfl) dL_law_1810
def bL_law_1761 (Ls : Nat) (xs : Nat → Int32) (k23 : MH → Nat → Nat → Nat → Int32 → Option (Int32 × MH)) (h : MH) (a1 : Nat) (a2 : Nat) (a3 : Nat) (x4 : Int32) : Option (Int32 × MH) := bd (sld Ls xs (x4 + 1)) fun v1 => bd (sld Ls xs (x4 + 2)) fun v2 => bd (ck h a1 11) fun _ => bd2 (fX11_fill h a1 v1 v2) fun v4 h1 => bd (sld Ls xs (x4 + 1)) fun v5 => bd (sld Ls xs (x4 + 2)) fun v6 => bd (ck h1 a2 13) fun _ => bd2 (fX13_fill h1 a2 v5 v6) fun v8 h2 => if v4 = v8 then (bd (some (x4 + 6)) fun v9 => k23 h2 a1 a2 a3 v9) else (some (0, h2))
set_option maxRecDepth 20000 in
theorem tL_law_1761 {Ls : Nat} {xs : Nat → Int32} {r : Int32} {h' : MH} (k23 : MH → Nat → Nat → Nat → Int32 → Option (Int32 × MH)) (hk23 : ∀ (h : MH) (a1 : Nat) (a2 : Nat) (a3 : Nat) (x4 : Int32), k23 h a1 a2 a3 x4 = some (r, h') → V (PL Ls xs) mL_law 18 (some (.int r)) h' h 23 [.retAddr 1000, .ref a1, .ref a2, .ref a3, .int x4, Jk, Jk] [])  {h : MH} {a1 : Nat} {a2 : Nat} {a3 : Nat} {x4 : Int32} (hf : bL_law_1761 Ls xs k23 h a1 a2 a3 x4 = some (r, h')) : V (PL Ls xs) mL_law 18 (some (.int r)) h' h 1761 [.retAddr 1000, .ref a1, .ref a2, .ref a3, .int x4, Jk, Jk] [] := by
  unfold bL_law_1761 at hf
  refine V.aload_n (q := 1762) rfl dL_law_1761 rfl rfl ?_
  refine V.aloadT_n (q := 1763) rfl (by decide) tk_1000 dL_law_1762 rfl rfl ?_
  refine V.iload (q := 1765) dL_law_1763 rfl rfl ?_
  refine V.iconst (q := 1766) (v := 1) (by decide) dL_law_1765 rfl ?_
  refine V.iadd (q := 1767) dL_law_1766 rfl ?_
  obtain ⟨v1, ev1, hf⟩ := bd_ex hf
  refine V.sld (q := 1768) PL_sc ev1 dL_law_1767 rfl ?_
  refine V.aloadT_n (q := 1769) rfl (by decide) tk_1000 dL_law_1768 rfl rfl ?_
  refine V.iload (q := 1771) dL_law_1769 rfl rfl ?_
  refine V.iconst (q := 1772) (v := 2) (by decide) dL_law_1771 rfl ?_
  refine V.iadd (q := 1773) dL_law_1772 rfl ?_
  obtain ⟨v2, ev2, hf⟩ := bd_ex hf
  refine V.sld (q := 1774) PL_sc ev2 dL_law_1773 rfl ?_
  obtain ⟨_, e3, hf⟩ := bd_ex hf
  obtain ⟨v4, h1, eh1, hf⟩ := bd2_ex hf
  refine V.callV (q := 1777) (ci := 11) (vs := [.int v1, .int v2]) (st := []) (S2 := [.int v4]) okX11_fill imX11_fill seX11_fill rfl lkL_209 (tX11_fill eh1) rfl (ck_is e3) (by decide) rfl (Nat.le_of_ble_eq_true rfl) (Nat.le_of_ble_eq_true rfl) rfl dL_law_1774 rfl rfl ?_
  refine V.aload_n (q := 1778) rfl dL_law_1777 rfl rfl ?_
  refine V.aloadT_n (q := 1779) rfl (by decide) tk_1000 dL_law_1778 rfl rfl ?_
  refine V.iload (q := 1781) dL_law_1779 rfl rfl ?_
  refine V.iconst (q := 1782) (v := 1) (by decide) dL_law_1781 rfl ?_
  refine V.iadd (q := 1783) dL_law_1782 rfl ?_
  obtain ⟨v5, ev5, hf⟩ := bd_ex hf
  refine V.sld (q := 1784) PL_sc ev5 dL_law_1783 rfl ?_
  refine V.aloadT_n (q := 1785) rfl (by decide) tk_1000 dL_law_1784 rfl rfl ?_
  refine V.iload (q := 1787) dL_law_1785 rfl rfl ?_
  refine V.iconst (q := 1788) (v := 2) (by decide) dL_law_1787 rfl ?_
  refine V.iadd (q := 1789) dL_law_1788 rfl ?_
  obtain ⟨v6, ev6, hf⟩ := bd_ex hf
  refine V.sld (q := 1790) PL_sc ev6 dL_law_1789 rfl ?_
  obtain ⟨_, e7, hf⟩ := bd_ex hf
  obtain ⟨v8, h2, eh2, hf⟩ := bd2_ex hf
  refine V.callV (q := 1793) (ci := 13) (vs := [.int v5, .int v6]) (st := [.int v4]) (S2 := [.int v8, .int v4]) okX13_fill imX13_fill seX13_fill rfl lkL_212 (tX13_fill eh2) rfl (ck_is e7) (by decide) rfl (Nat.le_of_ble_eq_true rfl) (Nat.le_of_ble_eq_true rfl) rfl dL_law_1790 rfl rfl ?_
  refine V.icmp_eq (q := 1796) (tgt := 1943) dL_law_1793 rfl (by decide) (fun c => ?_) (fun c => ?_)
  · rw [if_pos c] at hf
    obtain ⟨v9, ev9, hf⟩ := bd_ex hf
    refine V.iinc (q := 1946) (v := v9) (L' := [.retAddr 1000, .ref a1, .ref a2, .ref a3, .int v9, Jk, Jk]) dL_law_1943 rfl rfl (Option.some.inj ev9) (by decide) rfl rfl ?_
    refine V.goto (q := 23) dL_law_1946 (by decide) ?_
    exact hk23 _ _ _ _ _ hf
  · rw [if_neg c] at hf
    refine V.iconst (q := 1797) (v := 0) (by decide) dL_law_1796 rfl ?_
    obtain ⟨rfl, rfl⟩ := ret_inj hf
    exact V.ret (r := some (.int 0)) (Or.inl rfl) dL_law_1797
def bL_law_1753 (Ls : Nat) (xs : Nat → Int32) (k23 : MH → Nat → Nat → Nat → Int32 → Option (Int32 × MH)) (h : MH) (a1 : Nat) (a2 : Nat) (a3 : Nat) (x4 : Int32) (xs0 : Int32) (xs1 : Int32) (xs2 : Int32) (as3 : Nat) (xs4 : Int32) : Option (Int32 × MH) := bd (ck h as3 13) fun _ => bd2 (fX13_mark h as3 xs2 xs1 xs0) fun v2 h1 => if xs4 = v2 then (bd (some (x4 + 6)) fun v3 => k23 h1 a1 a2 a3 v3) else (some (0, h1))
set_option maxRecDepth 20000 in
theorem tL_law_1753 {Ls : Nat} {xs : Nat → Int32} {r : Int32} {h' : MH} (k23 : MH → Nat → Nat → Nat → Int32 → Option (Int32 × MH)) (hk23 : ∀ (h : MH) (a1 : Nat) (a2 : Nat) (a3 : Nat) (x4 : Int32), k23 h a1 a2 a3 x4 = some (r, h') → V (PL Ls xs) mL_law 18 (some (.int r)) h' h 23 [.retAddr 1000, .ref a1, .ref a2, .ref a3, .int x4, Jk, Jk] [])  {h : MH} {a1 : Nat} {a2 : Nat} {a3 : Nat} {x4 : Int32} {xs0 : Int32} {xs1 : Int32} {xs2 : Int32} {as3 : Nat} {xs4 : Int32} (hf : bL_law_1753 Ls xs k23 h a1 a2 a3 x4 xs0 xs1 xs2 as3 xs4 = some (r, h')) : V (PL Ls xs) mL_law 18 (some (.int r)) h' h 1753 [.retAddr 1000, .ref a1, .ref a2, .ref a3, .int x4, Jk, Jk] [.int xs0, .int xs1, .int xs2, .ref as3, .int xs4] := by
  unfold bL_law_1753 at hf
  obtain ⟨_, e1, hf⟩ := bd_ex hf
  obtain ⟨v2, h1, eh1, hf⟩ := bd2_ex hf
  refine V.callV (q := 1756) (ci := 13) (vs := [.int xs2, .int xs1, .int xs0]) (st := [.int xs4]) (S2 := [.int v2, .int xs4]) okX13_mark imX13_mark seX13_mark rfl lkL_208 (tX13_mark eh1) rfl (ck_is e1) (by decide) rfl (Nat.le_of_ble_eq_true rfl) (Nat.le_of_ble_eq_true rfl) rfl dL_law_1753 rfl rfl ?_
  refine V.icmp_eq (q := 1759) (tgt := 1943) dL_law_1756 rfl (by decide) (fun c => ?_) (fun c => ?_)
  · rw [if_pos c] at hf
    obtain ⟨v3, ev3, hf⟩ := bd_ex hf
    refine V.iinc (q := 1946) (v := v3) (L' := [.retAddr 1000, .ref a1, .ref a2, .ref a3, .int v3, Jk, Jk]) dL_law_1943 rfl rfl (Option.some.inj ev3) (by decide) rfl rfl ?_
    refine V.goto (q := 23) dL_law_1946 (by decide) ?_
    exact hk23 _ _ _ _ _ hf
  · rw [if_neg c] at hf
    refine V.iconst (q := 1760) (v := 0) (by decide) dL_law_1759 rfl ?_
    obtain ⟨rfl, rfl⟩ := ret_inj hf
    exact V.ret (r := some (.int 0)) (Or.inl rfl) dL_law_1760
def bL_law_1723 (Ls : Nat) (xs : Nat → Int32) (k23 : MH → Nat → Nat → Nat → Int32 → Option (Int32 × MH)) (h : MH) (a1 : Nat) (a2 : Nat) (a3 : Nat) (x4 : Int32) (xs0 : Int32) (xs1 : Int32) (xs2 : Int32) (as3 : Nat) : Option (Int32 × MH) := bd (ck h as3 11) fun _ => bd2 (fX11_mark h as3 xs2 xs1 xs0) fun v2 h1 => bd (sld Ls xs (x4 + 1)) fun v3 => bd (sld Ls xs (x4 + 2)) fun v4 => bd (sld Ls xs (x4 + 3)) fun v5 => if v5 = 0 then (bL_law_1753 Ls xs k23 h1 a1 a2 a3 x4 0 v4 v3 a2 v2) else (bL_law_1753 Ls xs k23 h1 a1 a2 a3 x4 1 v4 v3 a2 v2)
set_option maxRecDepth 20000 in
theorem tL_law_1723 {Ls : Nat} {xs : Nat → Int32} {r : Int32} {h' : MH} (k23 : MH → Nat → Nat → Nat → Int32 → Option (Int32 × MH)) (hk23 : ∀ (h : MH) (a1 : Nat) (a2 : Nat) (a3 : Nat) (x4 : Int32), k23 h a1 a2 a3 x4 = some (r, h') → V (PL Ls xs) mL_law 18 (some (.int r)) h' h 23 [.retAddr 1000, .ref a1, .ref a2, .ref a3, .int x4, Jk, Jk] [])  {h : MH} {a1 : Nat} {a2 : Nat} {a3 : Nat} {x4 : Int32} {xs0 : Int32} {xs1 : Int32} {xs2 : Int32} {as3 : Nat} (hf : bL_law_1723 Ls xs k23 h a1 a2 a3 x4 xs0 xs1 xs2 as3 = some (r, h')) : V (PL Ls xs) mL_law 18 (some (.int r)) h' h 1723 [.retAddr 1000, .ref a1, .ref a2, .ref a3, .int x4, Jk, Jk] [.int xs0, .int xs1, .int xs2, .ref as3] := by
  unfold bL_law_1723 at hf
  obtain ⟨_, e1, hf⟩ := bd_ex hf
  obtain ⟨v2, h1, eh1, hf⟩ := bd2_ex hf
  refine V.callV (q := 1726) (ci := 11) (vs := [.int xs2, .int xs1, .int xs0]) (st := []) (S2 := [.int v2]) okX11_mark imX11_mark seX11_mark rfl lkL_204 (tX11_mark eh1) rfl (ck_is e1) (by decide) rfl (Nat.le_of_ble_eq_true rfl) (Nat.le_of_ble_eq_true rfl) rfl dL_law_1723 rfl rfl ?_
  refine V.aload_n (q := 1727) rfl dL_law_1726 rfl rfl ?_
  refine V.aloadT_n (q := 1728) rfl (by decide) tk_1000 dL_law_1727 rfl rfl ?_
  refine V.iload (q := 1730) dL_law_1728 rfl rfl ?_
  refine V.iconst (q := 1731) (v := 1) (by decide) dL_law_1730 rfl ?_
  refine V.iadd (q := 1732) dL_law_1731 rfl ?_
  obtain ⟨v3, ev3, hf⟩ := bd_ex hf
  refine V.sld (q := 1733) PL_sc ev3 dL_law_1732 rfl ?_
  refine V.aloadT_n (q := 1734) rfl (by decide) tk_1000 dL_law_1733 rfl rfl ?_
  refine V.iload (q := 1736) dL_law_1734 rfl rfl ?_
  refine V.iconst (q := 1737) (v := 2) (by decide) dL_law_1736 rfl ?_
  refine V.iadd (q := 1738) dL_law_1737 rfl ?_
  obtain ⟨v4, ev4, hf⟩ := bd_ex hf
  refine V.sld (q := 1739) PL_sc ev4 dL_law_1738 rfl ?_
  refine V.aloadT_n (q := 1740) rfl (by decide) tk_1000 dL_law_1739 rfl rfl ?_
  refine V.iload (q := 1742) dL_law_1740 rfl rfl ?_
  refine V.iconst (q := 1743) (v := 3) (by decide) dL_law_1742 rfl ?_
  refine V.iadd (q := 1744) dL_law_1743 rfl ?_
  obtain ⟨v5, ev5, hf⟩ := bd_ex hf
  refine V.sld (q := 1745) PL_sc ev5 dL_law_1744 rfl ?_
  refine V.if_eq (q := 1748) (tgt := 1752) dL_law_1745 rfl (by decide) (fun c => ?_) (fun c => ?_)
  · rw [if_pos c] at hf
    refine V.iconst (q := 1753) (v := 0) (by decide) dL_law_1752 rfl ?_
    exact tL_law_1753 k23 hk23 hf
  · rw [if_neg c] at hf
    refine V.iconst (q := 1749) (v := 1) (by decide) dL_law_1748 rfl ?_
    refine V.goto (q := 1753) dL_law_1749 (by decide) ?_
    exact tL_law_1753 k23 hk23 hf
def bL_law_1696 (Ls : Nat) (xs : Nat → Int32) (k23 : MH → Nat → Nat → Nat → Int32 → Option (Int32 × MH)) (h : MH) (a1 : Nat) (a2 : Nat) (a3 : Nat) (x4 : Int32) : Option (Int32 × MH) := bd (sld Ls xs (x4 + 1)) fun v1 => bd (sld Ls xs (x4 + 2)) fun v2 => bd (sld Ls xs (x4 + 3)) fun v3 => if v3 = 0 then (bL_law_1723 Ls xs k23 h a1 a2 a3 x4 0 v2 v1 a1) else (bL_law_1723 Ls xs k23 h a1 a2 a3 x4 1 v2 v1 a1)
set_option maxRecDepth 20000 in
theorem tL_law_1696 {Ls : Nat} {xs : Nat → Int32} {r : Int32} {h' : MH} (k23 : MH → Nat → Nat → Nat → Int32 → Option (Int32 × MH)) (hk23 : ∀ (h : MH) (a1 : Nat) (a2 : Nat) (a3 : Nat) (x4 : Int32), k23 h a1 a2 a3 x4 = some (r, h') → V (PL Ls xs) mL_law 18 (some (.int r)) h' h 23 [.retAddr 1000, .ref a1, .ref a2, .ref a3, .int x4, Jk, Jk] [])  {h : MH} {a1 : Nat} {a2 : Nat} {a3 : Nat} {x4 : Int32} (hf : bL_law_1696 Ls xs k23 h a1 a2 a3 x4 = some (r, h')) : V (PL Ls xs) mL_law 18 (some (.int r)) h' h 1696 [.retAddr 1000, .ref a1, .ref a2, .ref a3, .int x4, Jk, Jk] [] := by
  unfold bL_law_1696 at hf
  refine V.aload_n (q := 1697) rfl dL_law_1696 rfl rfl ?_
  refine V.aloadT_n (q := 1698) rfl (by decide) tk_1000 dL_law_1697 rfl rfl ?_
  refine V.iload (q := 1700) dL_law_1698 rfl rfl ?_
  refine V.iconst (q := 1701) (v := 1) (by decide) dL_law_1700 rfl ?_
  refine V.iadd (q := 1702) dL_law_1701 rfl ?_
  obtain ⟨v1, ev1, hf⟩ := bd_ex hf
  refine V.sld (q := 1703) PL_sc ev1 dL_law_1702 rfl ?_
  refine V.aloadT_n (q := 1704) rfl (by decide) tk_1000 dL_law_1703 rfl rfl ?_
  refine V.iload (q := 1706) dL_law_1704 rfl rfl ?_
  refine V.iconst (q := 1707) (v := 2) (by decide) dL_law_1706 rfl ?_
  refine V.iadd (q := 1708) dL_law_1707 rfl ?_
  obtain ⟨v2, ev2, hf⟩ := bd_ex hf
  refine V.sld (q := 1709) PL_sc ev2 dL_law_1708 rfl ?_
  refine V.aloadT_n (q := 1710) rfl (by decide) tk_1000 dL_law_1709 rfl rfl ?_
  refine V.iload (q := 1712) dL_law_1710 rfl rfl ?_
  refine V.iconst (q := 1713) (v := 3) (by decide) dL_law_1712 rfl ?_
  refine V.iadd (q := 1714) dL_law_1713 rfl ?_
  obtain ⟨v3, ev3, hf⟩ := bd_ex hf
  refine V.sld (q := 1715) PL_sc ev3 dL_law_1714 rfl ?_
  refine V.if_eq (q := 1718) (tgt := 1722) dL_law_1715 rfl (by decide) (fun c => ?_) (fun c => ?_)
  · rw [if_pos c] at hf
    refine V.iconst (q := 1723) (v := 0) (by decide) dL_law_1722 rfl ?_
    exact tL_law_1723 k23 hk23 hf
  · rw [if_neg c] at hf
    refine V.iconst (q := 1719) (v := 1) (by decide) dL_law_1718 rfl ?_
    refine V.goto (q := 1723) dL_law_1719 (by decide) ?_
    exact tL_law_1723 k23 hk23 hf
def bL_law_1659 (Ls : Nat) (xs : Nat → Int32) (k23 : MH → Nat → Nat → Nat → Int32 → Option (Int32 × MH)) (h : MH) (a1 : Nat) (a2 : Nat) (a3 : Nat) (x4 : Int32) : Option (Int32 × MH) := bd (sld Ls xs (x4 + 1)) fun v1 => bd (sld Ls xs (x4 + 2)) fun v2 => bd (ck h a1 11) fun _ => bd2 (fX11_carve h a1 v1 v2) fun v4 h1 => bd (sld Ls xs (x4 + 1)) fun v5 => bd (sld Ls xs (x4 + 2)) fun v6 => bd (ck h1 a2 13) fun _ => bd2 (fX13_carve h1 a2 v5 v6) fun v8 h2 => if v4 = v8 then (bd (some (x4 + 6)) fun v9 => k23 h2 a1 a2 a3 v9) else (some (0, h2))
set_option maxRecDepth 20000 in
theorem tL_law_1659 {Ls : Nat} {xs : Nat → Int32} {r : Int32} {h' : MH} (k23 : MH → Nat → Nat → Nat → Int32 → Option (Int32 × MH)) (hk23 : ∀ (h : MH) (a1 : Nat) (a2 : Nat) (a3 : Nat) (x4 : Int32), k23 h a1 a2 a3 x4 = some (r, h') → V (PL Ls xs) mL_law 18 (some (.int r)) h' h 23 [.retAddr 1000, .ref a1, .ref a2, .ref a3, .int x4, Jk, Jk] [])  {h : MH} {a1 : Nat} {a2 : Nat} {a3 : Nat} {x4 : Int32} (hf : bL_law_1659 Ls xs k23 h a1 a2 a3 x4 = some (r, h')) : V (PL Ls xs) mL_law 18 (some (.int r)) h' h 1659 [.retAddr 1000, .ref a1, .ref a2, .ref a3, .int x4, Jk, Jk] [] := by
  unfold bL_law_1659 at hf
  refine V.aload_n (q := 1660) rfl dL_law_1659 rfl rfl ?_
  refine V.aloadT_n (q := 1661) rfl (by decide) tk_1000 dL_law_1660 rfl rfl ?_
  refine V.iload (q := 1663) dL_law_1661 rfl rfl ?_
  refine V.iconst (q := 1664) (v := 1) (by decide) dL_law_1663 rfl ?_
  refine V.iadd (q := 1665) dL_law_1664 rfl ?_
  obtain ⟨v1, ev1, hf⟩ := bd_ex hf
  refine V.sld (q := 1666) PL_sc ev1 dL_law_1665 rfl ?_
  refine V.aloadT_n (q := 1667) rfl (by decide) tk_1000 dL_law_1666 rfl rfl ?_
  refine V.iload (q := 1669) dL_law_1667 rfl rfl ?_
  refine V.iconst (q := 1670) (v := 2) (by decide) dL_law_1669 rfl ?_
  refine V.iadd (q := 1671) dL_law_1670 rfl ?_
  obtain ⟨v2, ev2, hf⟩ := bd_ex hf
  refine V.sld (q := 1672) PL_sc ev2 dL_law_1671 rfl ?_
  obtain ⟨_, e3, hf⟩ := bd_ex hf
  obtain ⟨v4, h1, eh1, hf⟩ := bd2_ex hf
  refine V.callV (q := 1675) (ci := 11) (vs := [.int v1, .int v2]) (st := []) (S2 := [.int v4]) okX11_carve imX11_carve seX11_carve rfl lkL_199 (tX11_carve eh1) rfl (ck_is e3) (by decide) rfl (Nat.le_of_ble_eq_true rfl) (Nat.le_of_ble_eq_true rfl) rfl dL_law_1672 rfl rfl ?_
  refine V.aload_n (q := 1676) rfl dL_law_1675 rfl rfl ?_
  refine V.aloadT_n (q := 1677) rfl (by decide) tk_1000 dL_law_1676 rfl rfl ?_
  refine V.iload (q := 1679) dL_law_1677 rfl rfl ?_
  refine V.iconst (q := 1680) (v := 1) (by decide) dL_law_1679 rfl ?_
  refine V.iadd (q := 1681) dL_law_1680 rfl ?_
  obtain ⟨v5, ev5, hf⟩ := bd_ex hf
  refine V.sld (q := 1682) PL_sc ev5 dL_law_1681 rfl ?_
  refine V.aloadT_n (q := 1683) rfl (by decide) tk_1000 dL_law_1682 rfl rfl ?_
  refine V.iload (q := 1685) dL_law_1683 rfl rfl ?_
  refine V.iconst (q := 1686) (v := 2) (by decide) dL_law_1685 rfl ?_
  refine V.iadd (q := 1687) dL_law_1686 rfl ?_
  obtain ⟨v6, ev6, hf⟩ := bd_ex hf
  refine V.sld (q := 1688) PL_sc ev6 dL_law_1687 rfl ?_
  obtain ⟨_, e7, hf⟩ := bd_ex hf
  obtain ⟨v8, h2, eh2, hf⟩ := bd2_ex hf
  refine V.callV (q := 1691) (ci := 13) (vs := [.int v5, .int v6]) (st := [.int v4]) (S2 := [.int v8, .int v4]) okX13_carve imX13_carve seX13_carve rfl lkL_203 (tX13_carve eh2) rfl (ck_is e7) (by decide) rfl (Nat.le_of_ble_eq_true rfl) (Nat.le_of_ble_eq_true rfl) rfl dL_law_1688 rfl rfl ?_
  refine V.icmp_eq (q := 1694) (tgt := 1943) dL_law_1691 rfl (by decide) (fun c => ?_) (fun c => ?_)
  · rw [if_pos c] at hf
    obtain ⟨v9, ev9, hf⟩ := bd_ex hf
    refine V.iinc (q := 1946) (v := v9) (L' := [.retAddr 1000, .ref a1, .ref a2, .ref a3, .int v9, Jk, Jk]) dL_law_1943 rfl rfl (Option.some.inj ev9) (by decide) rfl rfl ?_
    refine V.goto (q := 23) dL_law_1946 (by decide) ?_
    exact hk23 _ _ _ _ _ hf
  · rw [if_neg c] at hf
    refine V.iconst (q := 1695) (v := 0) (by decide) dL_law_1694 rfl ?_
    obtain ⟨rfl, rfl⟩ := ret_inj hf
    exact V.ret (r := some (.int 0)) (Or.inl rfl) dL_law_1695
def bL_law_1610 (Ls : Nat) (xs : Nat → Int32) (k23 : MH → Nat → Nat → Nat → Int32 → Option (Int32 × MH)) (h : MH) (a1 : Nat) (a2 : Nat) (a3 : Nat) (x4 : Int32) : Option (Int32 × MH) := bd (sld Ls xs (x4 + 1)) fun v1 => bd (sld Ls xs (x4 + 2)) fun v2 => bd (sld Ls xs (x4 + 3)) fun v3 => bd (ck h a1 11) fun _ => bd2 (fX11_press h a1 v1 v2 v3) fun v5 h1 => bd (sld Ls xs (x4 + 1)) fun v6 => bd (sld Ls xs (x4 + 2)) fun v7 => bd (sld Ls xs (x4 + 3)) fun v8 => bd (ck h1 a2 13) fun _ => bd2 (fX13_press h1 a2 v6 v7 v8) fun v10 h2 => if v5 = v10 then (bd (some (x4 + 6)) fun v11 => k23 h2 a1 a2 a3 v11) else (some (0, h2))
set_option maxRecDepth 20000 in
theorem tL_law_1610 {Ls : Nat} {xs : Nat → Int32} {r : Int32} {h' : MH} (k23 : MH → Nat → Nat → Nat → Int32 → Option (Int32 × MH)) (hk23 : ∀ (h : MH) (a1 : Nat) (a2 : Nat) (a3 : Nat) (x4 : Int32), k23 h a1 a2 a3 x4 = some (r, h') → V (PL Ls xs) mL_law 18 (some (.int r)) h' h 23 [.retAddr 1000, .ref a1, .ref a2, .ref a3, .int x4, Jk, Jk] [])  {h : MH} {a1 : Nat} {a2 : Nat} {a3 : Nat} {x4 : Int32} (hf : bL_law_1610 Ls xs k23 h a1 a2 a3 x4 = some (r, h')) : V (PL Ls xs) mL_law 18 (some (.int r)) h' h 1610 [.retAddr 1000, .ref a1, .ref a2, .ref a3, .int x4, Jk, Jk] [] := by
  unfold bL_law_1610 at hf
  refine V.aload_n (q := 1611) rfl dL_law_1610 rfl rfl ?_
  refine V.aloadT_n (q := 1612) rfl (by decide) tk_1000 dL_law_1611 rfl rfl ?_
  refine V.iload (q := 1614) dL_law_1612 rfl rfl ?_
  refine V.iconst (q := 1615) (v := 1) (by decide) dL_law_1614 rfl ?_
  refine V.iadd (q := 1616) dL_law_1615 rfl ?_
  obtain ⟨v1, ev1, hf⟩ := bd_ex hf
  refine V.sld (q := 1617) PL_sc ev1 dL_law_1616 rfl ?_
  refine V.aloadT_n (q := 1618) rfl (by decide) tk_1000 dL_law_1617 rfl rfl ?_
  refine V.iload (q := 1620) dL_law_1618 rfl rfl ?_
  refine V.iconst (q := 1621) (v := 2) (by decide) dL_law_1620 rfl ?_
  refine V.iadd (q := 1622) dL_law_1621 rfl ?_
  obtain ⟨v2, ev2, hf⟩ := bd_ex hf
  refine V.sld (q := 1623) PL_sc ev2 dL_law_1622 rfl ?_
  refine V.aloadT_n (q := 1624) rfl (by decide) tk_1000 dL_law_1623 rfl rfl ?_
  refine V.iload (q := 1626) dL_law_1624 rfl rfl ?_
  refine V.iconst (q := 1627) (v := 3) (by decide) dL_law_1626 rfl ?_
  refine V.iadd (q := 1628) dL_law_1627 rfl ?_
  obtain ⟨v3, ev3, hf⟩ := bd_ex hf
  refine V.sld (q := 1629) PL_sc ev3 dL_law_1628 rfl ?_
  obtain ⟨_, e4, hf⟩ := bd_ex hf
  obtain ⟨v5, h1, eh1, hf⟩ := bd2_ex hf
  refine V.callV (q := 1632) (ci := 11) (vs := [.int v1, .int v2, .int v3]) (st := []) (S2 := [.int v5]) okX11_press imX11_press seX11_press rfl lkL_195 (tX11_press eh1) rfl (ck_is e4) (by decide) rfl (Nat.le_of_ble_eq_true rfl) (Nat.le_of_ble_eq_true rfl) rfl dL_law_1629 rfl rfl ?_
  refine V.aload_n (q := 1633) rfl dL_law_1632 rfl rfl ?_
  refine V.aloadT_n (q := 1634) rfl (by decide) tk_1000 dL_law_1633 rfl rfl ?_
  refine V.iload (q := 1636) dL_law_1634 rfl rfl ?_
  refine V.iconst (q := 1637) (v := 1) (by decide) dL_law_1636 rfl ?_
  refine V.iadd (q := 1638) dL_law_1637 rfl ?_
  obtain ⟨v6, ev6, hf⟩ := bd_ex hf
  refine V.sld (q := 1639) PL_sc ev6 dL_law_1638 rfl ?_
  refine V.aloadT_n (q := 1640) rfl (by decide) tk_1000 dL_law_1639 rfl rfl ?_
  refine V.iload (q := 1642) dL_law_1640 rfl rfl ?_
  refine V.iconst (q := 1643) (v := 2) (by decide) dL_law_1642 rfl ?_
  refine V.iadd (q := 1644) dL_law_1643 rfl ?_
  obtain ⟨v7, ev7, hf⟩ := bd_ex hf
  refine V.sld (q := 1645) PL_sc ev7 dL_law_1644 rfl ?_
  refine V.aloadT_n (q := 1646) rfl (by decide) tk_1000 dL_law_1645 rfl rfl ?_
  refine V.iload (q := 1648) dL_law_1646 rfl rfl ?_
  refine V.iconst (q := 1649) (v := 3) (by decide) dL_law_1648 rfl ?_
  refine V.iadd (q := 1650) dL_law_1649 rfl ?_
  obtain ⟨v8, ev8, hf⟩ := bd_ex hf
  refine V.sld (q := 1651) PL_sc ev8 dL_law_1650 rfl ?_
  obtain ⟨_, e9, hf⟩ := bd_ex hf
  obtain ⟨v10, h2, eh2, hf⟩ := bd2_ex hf
  refine V.callV (q := 1654) (ci := 13) (vs := [.int v6, .int v7, .int v8]) (st := [.int v5]) (S2 := [.int v10, .int v5]) okX13_press imX13_press seX13_press rfl lkL_198 (tX13_press eh2) rfl (ck_is e9) (by decide) rfl (Nat.le_of_ble_eq_true rfl) (Nat.le_of_ble_eq_true rfl) rfl dL_law_1651 rfl rfl ?_
  refine V.icmp_eq (q := 1657) (tgt := 1943) dL_law_1654 rfl (by decide) (fun c => ?_) (fun c => ?_)
  · rw [if_pos c] at hf
    obtain ⟨v11, ev11, hf⟩ := bd_ex hf
    refine V.iinc (q := 1946) (v := v11) (L' := [.retAddr 1000, .ref a1, .ref a2, .ref a3, .int v11, Jk, Jk]) dL_law_1943 rfl rfl (Option.some.inj ev11) (by decide) rfl rfl ?_
    refine V.goto (q := 23) dL_law_1946 (by decide) ?_
    exact hk23 _ _ _ _ _ hf
  · rw [if_neg c] at hf
    refine V.iconst (q := 1658) (v := 0) (by decide) dL_law_1657 rfl ?_
    obtain ⟨rfl, rfl⟩ := ret_inj hf
    exact V.ret (r := some (.int 0)) (Or.inl rfl) dL_law_1658
def bL_law_1561 (Ls : Nat) (xs : Nat → Int32) (k23 : MH → Nat → Nat → Nat → Int32 → Option (Int32 × MH)) (h : MH) (a1 : Nat) (a2 : Nat) (a3 : Nat) (x4 : Int32) : Option (Int32 × MH) := bd (sld Ls xs (x4 + 1)) fun v1 => bd (sld Ls xs (x4 + 2)) fun v2 => bd (sld Ls xs (x4 + 3)) fun v3 => bd (ck h a1 11) fun _ => bd2 (fX11_printed h a1 v1 v2 v3) fun v5 h1 => bd (sld Ls xs (x4 + 1)) fun v6 => bd (sld Ls xs (x4 + 2)) fun v7 => bd (sld Ls xs (x4 + 3)) fun v8 => bd (ck h1 a2 13) fun _ => bd2 (fX13_printed h1 a2 v6 v7 v8) fun v10 h2 => if v5 = v10 then (bd (some (x4 + 6)) fun v11 => k23 h2 a1 a2 a3 v11) else (some (0, h2))
set_option maxRecDepth 20000 in
theorem tL_law_1561 {Ls : Nat} {xs : Nat → Int32} {r : Int32} {h' : MH} (k23 : MH → Nat → Nat → Nat → Int32 → Option (Int32 × MH)) (hk23 : ∀ (h : MH) (a1 : Nat) (a2 : Nat) (a3 : Nat) (x4 : Int32), k23 h a1 a2 a3 x4 = some (r, h') → V (PL Ls xs) mL_law 18 (some (.int r)) h' h 23 [.retAddr 1000, .ref a1, .ref a2, .ref a3, .int x4, Jk, Jk] [])  {h : MH} {a1 : Nat} {a2 : Nat} {a3 : Nat} {x4 : Int32} (hf : bL_law_1561 Ls xs k23 h a1 a2 a3 x4 = some (r, h')) : V (PL Ls xs) mL_law 18 (some (.int r)) h' h 1561 [.retAddr 1000, .ref a1, .ref a2, .ref a3, .int x4, Jk, Jk] [] := by
  unfold bL_law_1561 at hf
  refine V.aload_n (q := 1562) rfl dL_law_1561 rfl rfl ?_
  refine V.aloadT_n (q := 1563) rfl (by decide) tk_1000 dL_law_1562 rfl rfl ?_
  refine V.iload (q := 1565) dL_law_1563 rfl rfl ?_
  refine V.iconst (q := 1566) (v := 1) (by decide) dL_law_1565 rfl ?_
  refine V.iadd (q := 1567) dL_law_1566 rfl ?_
  obtain ⟨v1, ev1, hf⟩ := bd_ex hf
  refine V.sld (q := 1568) PL_sc ev1 dL_law_1567 rfl ?_
  refine V.aloadT_n (q := 1569) rfl (by decide) tk_1000 dL_law_1568 rfl rfl ?_
  refine V.iload (q := 1571) dL_law_1569 rfl rfl ?_
  refine V.iconst (q := 1572) (v := 2) (by decide) dL_law_1571 rfl ?_
  refine V.iadd (q := 1573) dL_law_1572 rfl ?_
  obtain ⟨v2, ev2, hf⟩ := bd_ex hf
  refine V.sld (q := 1574) PL_sc ev2 dL_law_1573 rfl ?_
  refine V.aloadT_n (q := 1575) rfl (by decide) tk_1000 dL_law_1574 rfl rfl ?_
  refine V.iload (q := 1577) dL_law_1575 rfl rfl ?_
  refine V.iconst (q := 1578) (v := 3) (by decide) dL_law_1577 rfl ?_
  refine V.iadd (q := 1579) dL_law_1578 rfl ?_
  obtain ⟨v3, ev3, hf⟩ := bd_ex hf
  refine V.sld (q := 1580) PL_sc ev3 dL_law_1579 rfl ?_
  obtain ⟨_, e4, hf⟩ := bd_ex hf
  obtain ⟨v5, h1, eh1, hf⟩ := bd2_ex hf
  refine V.callV (q := 1583) (ci := 11) (vs := [.int v1, .int v2, .int v3]) (st := []) (S2 := [.int v5]) okX11_printed imX11_printed seX11_printed rfl lkL_191 (tX11_printed eh1) rfl (ck_is e4) (by decide) rfl (Nat.le_of_ble_eq_true rfl) (Nat.le_of_ble_eq_true rfl) rfl dL_law_1580 rfl rfl ?_
  refine V.aload_n (q := 1584) rfl dL_law_1583 rfl rfl ?_
  refine V.aloadT_n (q := 1585) rfl (by decide) tk_1000 dL_law_1584 rfl rfl ?_
  refine V.iload (q := 1587) dL_law_1585 rfl rfl ?_
  refine V.iconst (q := 1588) (v := 1) (by decide) dL_law_1587 rfl ?_
  refine V.iadd (q := 1589) dL_law_1588 rfl ?_
  obtain ⟨v6, ev6, hf⟩ := bd_ex hf
  refine V.sld (q := 1590) PL_sc ev6 dL_law_1589 rfl ?_
  refine V.aloadT_n (q := 1591) rfl (by decide) tk_1000 dL_law_1590 rfl rfl ?_
  refine V.iload (q := 1593) dL_law_1591 rfl rfl ?_
  refine V.iconst (q := 1594) (v := 2) (by decide) dL_law_1593 rfl ?_
  refine V.iadd (q := 1595) dL_law_1594 rfl ?_
  obtain ⟨v7, ev7, hf⟩ := bd_ex hf
  refine V.sld (q := 1596) PL_sc ev7 dL_law_1595 rfl ?_
  refine V.aloadT_n (q := 1597) rfl (by decide) tk_1000 dL_law_1596 rfl rfl ?_
  refine V.iload (q := 1599) dL_law_1597 rfl rfl ?_
  refine V.iconst (q := 1600) (v := 3) (by decide) dL_law_1599 rfl ?_
  refine V.iadd (q := 1601) dL_law_1600 rfl ?_
  obtain ⟨v8, ev8, hf⟩ := bd_ex hf
  refine V.sld (q := 1602) PL_sc ev8 dL_law_1601 rfl ?_
  obtain ⟨_, e9, hf⟩ := bd_ex hf
  obtain ⟨v10, h2, eh2, hf⟩ := bd2_ex hf
  refine V.callV (q := 1605) (ci := 13) (vs := [.int v6, .int v7, .int v8]) (st := [.int v5]) (S2 := [.int v10, .int v5]) okX13_printed imX13_printed seX13_printed rfl lkL_194 (tX13_printed eh2) rfl (ck_is e9) (by decide) rfl (Nat.le_of_ble_eq_true rfl) (Nat.le_of_ble_eq_true rfl) rfl dL_law_1602 rfl rfl ?_
  refine V.icmp_eq (q := 1608) (tgt := 1943) dL_law_1605 rfl (by decide) (fun c => ?_) (fun c => ?_)
  · rw [if_pos c] at hf
    obtain ⟨v11, ev11, hf⟩ := bd_ex hf
    refine V.iinc (q := 1946) (v := v11) (L' := [.retAddr 1000, .ref a1, .ref a2, .ref a3, .int v11, Jk, Jk]) dL_law_1943 rfl rfl (Option.some.inj ev11) (by decide) rfl rfl ?_
    refine V.goto (q := 23) dL_law_1946 (by decide) ?_
    exact hk23 _ _ _ _ _ hf
  · rw [if_neg c] at hf
    refine V.iconst (q := 1609) (v := 0) (by decide) dL_law_1608 rfl ?_
    obtain ⟨rfl, rfl⟩ := ret_inj hf
    exact V.ret (r := some (.int 0)) (Or.inl rfl) dL_law_1609
def bL_law_1524 (Ls : Nat) (xs : Nat → Int32) (k23 : MH → Nat → Nat → Nat → Int32 → Option (Int32 × MH)) (h : MH) (a1 : Nat) (a2 : Nat) (a3 : Nat) (x4 : Int32) : Option (Int32 × MH) := bd (sld Ls xs (x4 + 1)) fun v1 => bd (sld Ls xs (x4 + 2)) fun v2 => bd (ck h a1 11) fun _ => bd2 (fX11_birds h a1 v1 v2) fun v4 h1 => bd (sld Ls xs (x4 + 1)) fun v5 => bd (sld Ls xs (x4 + 2)) fun v6 => bd (ck h1 a2 13) fun _ => bd2 (fX13_birds h1 a2 v5 v6) fun v8 h2 => if v4 = v8 then (bd (some (x4 + 6)) fun v9 => k23 h2 a1 a2 a3 v9) else (some (0, h2))
set_option maxRecDepth 20000 in
theorem tL_law_1524 {Ls : Nat} {xs : Nat → Int32} {r : Int32} {h' : MH} (k23 : MH → Nat → Nat → Nat → Int32 → Option (Int32 × MH)) (hk23 : ∀ (h : MH) (a1 : Nat) (a2 : Nat) (a3 : Nat) (x4 : Int32), k23 h a1 a2 a3 x4 = some (r, h') → V (PL Ls xs) mL_law 18 (some (.int r)) h' h 23 [.retAddr 1000, .ref a1, .ref a2, .ref a3, .int x4, Jk, Jk] [])  {h : MH} {a1 : Nat} {a2 : Nat} {a3 : Nat} {x4 : Int32} (hf : bL_law_1524 Ls xs k23 h a1 a2 a3 x4 = some (r, h')) : V (PL Ls xs) mL_law 18 (some (.int r)) h' h 1524 [.retAddr 1000, .ref a1, .ref a2, .ref a3, .int x4, Jk, Jk] [] := by
  unfold bL_law_1524 at hf
  refine V.aload_n (q := 1525) rfl dL_law_1524 rfl rfl ?_
  refine V.aloadT_n (q := 1526) rfl (by decide) tk_1000 dL_law_1525 rfl rfl ?_
  refine V.iload (q := 1528) dL_law_1526 rfl rfl ?_
  refine V.iconst (q := 1529) (v := 1) (by decide) dL_law_1528 rfl ?_
  refine V.iadd (q := 1530) dL_law_1529 rfl ?_
  obtain ⟨v1, ev1, hf⟩ := bd_ex hf
  refine V.sld (q := 1531) PL_sc ev1 dL_law_1530 rfl ?_
  refine V.aloadT_n (q := 1532) rfl (by decide) tk_1000 dL_law_1531 rfl rfl ?_
  refine V.iload (q := 1534) dL_law_1532 rfl rfl ?_
  refine V.iconst (q := 1535) (v := 2) (by decide) dL_law_1534 rfl ?_
  refine V.iadd (q := 1536) dL_law_1535 rfl ?_
  obtain ⟨v2, ev2, hf⟩ := bd_ex hf
  refine V.sld (q := 1537) PL_sc ev2 dL_law_1536 rfl ?_
  obtain ⟨_, e3, hf⟩ := bd_ex hf
  obtain ⟨v4, h1, eh1, hf⟩ := bd2_ex hf
  refine V.callV (q := 1540) (ci := 11) (vs := [.int v1, .int v2]) (st := []) (S2 := [.int v4]) okX11_birds imX11_birds seX11_birds rfl lkL_187 (tX11_birds eh1) rfl (ck_is e3) (by decide) rfl (Nat.le_of_ble_eq_true rfl) (Nat.le_of_ble_eq_true rfl) rfl dL_law_1537 rfl rfl ?_
  refine V.aload_n (q := 1541) rfl dL_law_1540 rfl rfl ?_
  refine V.aloadT_n (q := 1542) rfl (by decide) tk_1000 dL_law_1541 rfl rfl ?_
  refine V.iload (q := 1544) dL_law_1542 rfl rfl ?_
  refine V.iconst (q := 1545) (v := 1) (by decide) dL_law_1544 rfl ?_
  refine V.iadd (q := 1546) dL_law_1545 rfl ?_
  obtain ⟨v5, ev5, hf⟩ := bd_ex hf
  refine V.sld (q := 1547) PL_sc ev5 dL_law_1546 rfl ?_
  refine V.aloadT_n (q := 1548) rfl (by decide) tk_1000 dL_law_1547 rfl rfl ?_
  refine V.iload (q := 1550) dL_law_1548 rfl rfl ?_
  refine V.iconst (q := 1551) (v := 2) (by decide) dL_law_1550 rfl ?_
  refine V.iadd (q := 1552) dL_law_1551 rfl ?_
  obtain ⟨v6, ev6, hf⟩ := bd_ex hf
  refine V.sld (q := 1553) PL_sc ev6 dL_law_1552 rfl ?_
  obtain ⟨_, e7, hf⟩ := bd_ex hf
  obtain ⟨v8, h2, eh2, hf⟩ := bd2_ex hf
  refine V.callV (q := 1556) (ci := 13) (vs := [.int v5, .int v6]) (st := [.int v4]) (S2 := [.int v8, .int v4]) okX13_birds imX13_birds seX13_birds rfl lkL_190 (tX13_birds eh2) rfl (ck_is e7) (by decide) rfl (Nat.le_of_ble_eq_true rfl) (Nat.le_of_ble_eq_true rfl) rfl dL_law_1553 rfl rfl ?_
  refine V.icmp_eq (q := 1559) (tgt := 1943) dL_law_1556 rfl (by decide) (fun c => ?_) (fun c => ?_)
  · rw [if_pos c] at hf
    obtain ⟨v9, ev9, hf⟩ := bd_ex hf
    refine V.iinc (q := 1946) (v := v9) (L' := [.retAddr 1000, .ref a1, .ref a2, .ref a3, .int v9, Jk, Jk]) dL_law_1943 rfl rfl (Option.some.inj ev9) (by decide) rfl rfl ?_
    refine V.goto (q := 23) dL_law_1946 (by decide) ?_
    exact hk23 _ _ _ _ _ hf
  · rw [if_neg c] at hf
    refine V.iconst (q := 1560) (v := 0) (by decide) dL_law_1559 rfl ?_
    obtain ⟨rfl, rfl⟩ := ret_inj hf
    exact V.ret (r := some (.int 0)) (Or.inl rfl) dL_law_1560
def bL_law_1475 (Ls : Nat) (xs : Nat → Int32) (k23 : MH → Nat → Nat → Nat → Int32 → Option (Int32 × MH)) (h : MH) (a1 : Nat) (a2 : Nat) (a3 : Nat) (x4 : Int32) : Option (Int32 × MH) := bd (sld Ls xs (x4 + 1)) fun v1 => bd (sld Ls xs (x4 + 2)) fun v2 => bd (sld Ls xs (x4 + 3)) fun v3 => bd (ck h a1 11) fun _ => bd2 (fX11_presses h a1 v1 v2 v3) fun v5 h1 => bd (sld Ls xs (x4 + 1)) fun v6 => bd (sld Ls xs (x4 + 2)) fun v7 => bd (sld Ls xs (x4 + 3)) fun v8 => bd (ck h1 a2 13) fun _ => bd2 (fX13_presses h1 a2 v6 v7 v8) fun v10 h2 => if v5 = v10 then (bd (some (x4 + 6)) fun v11 => k23 h2 a1 a2 a3 v11) else (some (0, h2))
set_option maxRecDepth 20000 in
theorem tL_law_1475 {Ls : Nat} {xs : Nat → Int32} {r : Int32} {h' : MH} (k23 : MH → Nat → Nat → Nat → Int32 → Option (Int32 × MH)) (hk23 : ∀ (h : MH) (a1 : Nat) (a2 : Nat) (a3 : Nat) (x4 : Int32), k23 h a1 a2 a3 x4 = some (r, h') → V (PL Ls xs) mL_law 18 (some (.int r)) h' h 23 [.retAddr 1000, .ref a1, .ref a2, .ref a3, .int x4, Jk, Jk] [])  {h : MH} {a1 : Nat} {a2 : Nat} {a3 : Nat} {x4 : Int32} (hf : bL_law_1475 Ls xs k23 h a1 a2 a3 x4 = some (r, h')) : V (PL Ls xs) mL_law 18 (some (.int r)) h' h 1475 [.retAddr 1000, .ref a1, .ref a2, .ref a3, .int x4, Jk, Jk] [] := by
  unfold bL_law_1475 at hf
  refine V.aload_n (q := 1476) rfl dL_law_1475 rfl rfl ?_
  refine V.aloadT_n (q := 1477) rfl (by decide) tk_1000 dL_law_1476 rfl rfl ?_
  refine V.iload (q := 1479) dL_law_1477 rfl rfl ?_
  refine V.iconst (q := 1480) (v := 1) (by decide) dL_law_1479 rfl ?_
  refine V.iadd (q := 1481) dL_law_1480 rfl ?_
  obtain ⟨v1, ev1, hf⟩ := bd_ex hf
  refine V.sld (q := 1482) PL_sc ev1 dL_law_1481 rfl ?_
  refine V.aloadT_n (q := 1483) rfl (by decide) tk_1000 dL_law_1482 rfl rfl ?_
  refine V.iload (q := 1485) dL_law_1483 rfl rfl ?_
  refine V.iconst (q := 1486) (v := 2) (by decide) dL_law_1485 rfl ?_
  refine V.iadd (q := 1487) dL_law_1486 rfl ?_
  obtain ⟨v2, ev2, hf⟩ := bd_ex hf
  refine V.sld (q := 1488) PL_sc ev2 dL_law_1487 rfl ?_
  refine V.aloadT_n (q := 1489) rfl (by decide) tk_1000 dL_law_1488 rfl rfl ?_
  refine V.iload (q := 1491) dL_law_1489 rfl rfl ?_
  refine V.iconst (q := 1492) (v := 3) (by decide) dL_law_1491 rfl ?_
  refine V.iadd (q := 1493) dL_law_1492 rfl ?_
  obtain ⟨v3, ev3, hf⟩ := bd_ex hf
  refine V.sld (q := 1494) PL_sc ev3 dL_law_1493 rfl ?_
  obtain ⟨_, e4, hf⟩ := bd_ex hf
  obtain ⟨v5, h1, eh1, hf⟩ := bd2_ex hf
  refine V.callV (q := 1497) (ci := 11) (vs := [.int v1, .int v2, .int v3]) (st := []) (S2 := [.int v5]) okX11_presses imX11_presses seX11_presses rfl lkL_183 (tX11_presses eh1) rfl (ck_is e4) (by decide) rfl (Nat.le_of_ble_eq_true rfl) (Nat.le_of_ble_eq_true rfl) rfl dL_law_1494 rfl rfl ?_
  refine V.aload_n (q := 1498) rfl dL_law_1497 rfl rfl ?_
  refine V.aloadT_n (q := 1499) rfl (by decide) tk_1000 dL_law_1498 rfl rfl ?_
  refine V.iload (q := 1501) dL_law_1499 rfl rfl ?_
  refine V.iconst (q := 1502) (v := 1) (by decide) dL_law_1501 rfl ?_
  refine V.iadd (q := 1503) dL_law_1502 rfl ?_
  obtain ⟨v6, ev6, hf⟩ := bd_ex hf
  refine V.sld (q := 1504) PL_sc ev6 dL_law_1503 rfl ?_
  refine V.aloadT_n (q := 1505) rfl (by decide) tk_1000 dL_law_1504 rfl rfl ?_
  refine V.iload (q := 1507) dL_law_1505 rfl rfl ?_
  refine V.iconst (q := 1508) (v := 2) (by decide) dL_law_1507 rfl ?_
  refine V.iadd (q := 1509) dL_law_1508 rfl ?_
  obtain ⟨v7, ev7, hf⟩ := bd_ex hf
  refine V.sld (q := 1510) PL_sc ev7 dL_law_1509 rfl ?_
  refine V.aloadT_n (q := 1511) rfl (by decide) tk_1000 dL_law_1510 rfl rfl ?_
  refine V.iload (q := 1513) dL_law_1511 rfl rfl ?_
  refine V.iconst (q := 1514) (v := 3) (by decide) dL_law_1513 rfl ?_
  refine V.iadd (q := 1515) dL_law_1514 rfl ?_
  obtain ⟨v8, ev8, hf⟩ := bd_ex hf
  refine V.sld (q := 1516) PL_sc ev8 dL_law_1515 rfl ?_
  obtain ⟨_, e9, hf⟩ := bd_ex hf
  obtain ⟨v10, h2, eh2, hf⟩ := bd2_ex hf
  refine V.callV (q := 1519) (ci := 13) (vs := [.int v6, .int v7, .int v8]) (st := [.int v5]) (S2 := [.int v10, .int v5]) okX13_presses imX13_presses seX13_presses rfl lkL_186 (tX13_presses eh2) rfl (ck_is e9) (by decide) rfl (Nat.le_of_ble_eq_true rfl) (Nat.le_of_ble_eq_true rfl) rfl dL_law_1516 rfl rfl ?_
  refine V.icmp_eq (q := 1522) (tgt := 1943) dL_law_1519 rfl (by decide) (fun c => ?_) (fun c => ?_)
  · rw [if_pos c] at hf
    obtain ⟨v11, ev11, hf⟩ := bd_ex hf
    refine V.iinc (q := 1946) (v := v11) (L' := [.retAddr 1000, .ref a1, .ref a2, .ref a3, .int v11, Jk, Jk]) dL_law_1943 rfl rfl (Option.some.inj ev11) (by decide) rfl rfl ?_
    refine V.goto (q := 23) dL_law_1946 (by decide) ?_
    exact hk23 _ _ _ _ _ hf
  · rw [if_neg c] at hf
    refine V.iconst (q := 1523) (v := 0) (by decide) dL_law_1522 rfl ?_
    obtain ⟨rfl, rfl⟩ := ret_inj hf
    exact V.ret (r := some (.int 0)) (Or.inl rfl) dL_law_1523
def bL_law_1466 (Ls : Nat) (xs : Nat → Int32) (k23 : MH → Nat → Nat → Nat → Int32 → Option (Int32 × MH)) (h : MH) (a1 : Nat) (a2 : Nat) (a3 : Nat) (x4 : Int32) (xs0 : Int32) (xs1 : Int32) (xs2 : Int32) (as3 : Nat) (ys4 : Int64) : Option (Int32 × MH) := bd (ck h as3 13) fun _ => bd2 (fX13_mean h as3 xs2 xs1 xs0) fun w2 h1 => if (lg_cmp ys4 w2) = 0 then (bd (some (x4 + 6)) fun v3 => k23 h1 a1 a2 a3 v3) else (some (0, h1))
set_option maxRecDepth 20000 in
theorem tL_law_1466 {Ls : Nat} {xs : Nat → Int32} {r : Int32} {h' : MH} (k23 : MH → Nat → Nat → Nat → Int32 → Option (Int32 × MH)) (hk23 : ∀ (h : MH) (a1 : Nat) (a2 : Nat) (a3 : Nat) (x4 : Int32), k23 h a1 a2 a3 x4 = some (r, h') → V (PL Ls xs) mL_law 18 (some (.int r)) h' h 23 [.retAddr 1000, .ref a1, .ref a2, .ref a3, .int x4, Jk, Jk] [])  {h : MH} {a1 : Nat} {a2 : Nat} {a3 : Nat} {x4 : Int32} {xs0 : Int32} {xs1 : Int32} {xs2 : Int32} {as3 : Nat} {ys4 : Int64} (hf : bL_law_1466 Ls xs k23 h a1 a2 a3 x4 xs0 xs1 xs2 as3 ys4 = some (r, h')) : V (PL Ls xs) mL_law 18 (some (.int r)) h' h 1466 [.retAddr 1000, .ref a1, .ref a2, .ref a3, .int x4, Jk, Jk] [.int xs0, .int xs1, .int xs2, .ref as3, .long ys4] := by
  unfold bL_law_1466 at hf
  obtain ⟨_, e1, hf⟩ := bd_ex hf
  obtain ⟨w2, h1, eh1, hf⟩ := bd2_ex hf
  refine V.callV (q := 1469) (ci := 13) (vs := [.int xs2, .int xs1, .int xs0]) (st := [.long ys4]) (S2 := [.long w2, .long ys4]) okX13_mean imX13_mean seX13_mean rfl lkL_182 (tX13_mean eh1) rfl (ck_is e1) (by decide) rfl (Nat.le_of_ble_eq_true rfl) (Nat.le_of_ble_eq_true rfl) rfl dL_law_1466 rfl rfl ?_
  refine V.lcmp (q := 1470) dL_law_1469 rfl ?_
  refine V.if_eq (q := 1473) (tgt := 1943) dL_law_1470 rfl (by decide) (fun c => ?_) (fun c => ?_)
  · rw [if_pos c] at hf
    obtain ⟨v3, ev3, hf⟩ := bd_ex hf
    refine V.iinc (q := 1946) (v := v3) (L' := [.retAddr 1000, .ref a1, .ref a2, .ref a3, .int v3, Jk, Jk]) dL_law_1943 rfl rfl (Option.some.inj ev3) (by decide) rfl rfl ?_
    refine V.goto (q := 23) dL_law_1946 (by decide) ?_
    exact hk23 _ _ _ _ _ hf
  · rw [if_neg c] at hf
    refine V.iconst (q := 1474) (v := 0) (by decide) dL_law_1473 rfl ?_
    obtain ⟨rfl, rfl⟩ := ret_inj hf
    exact V.ret (r := some (.int 0)) (Or.inl rfl) dL_law_1474
def bL_law_1436 (Ls : Nat) (xs : Nat → Int32) (k23 : MH → Nat → Nat → Nat → Int32 → Option (Int32 × MH)) (h : MH) (a1 : Nat) (a2 : Nat) (a3 : Nat) (x4 : Int32) (xs0 : Int32) (xs1 : Int32) (xs2 : Int32) (as3 : Nat) : Option (Int32 × MH) := bd (ck h as3 11) fun _ => bd2 (fX11_mean h as3 xs2 xs1 xs0) fun w2 h1 => bd (sld Ls xs (x4 + 1)) fun v3 => bd (sld Ls xs (x4 + 2)) fun v4 => bd (sld Ls xs (x4 + 3)) fun v5 => if v5 = 0 then (bL_law_1466 Ls xs k23 h1 a1 a2 a3 x4 0 v4 v3 a2 w2) else (bL_law_1466 Ls xs k23 h1 a1 a2 a3 x4 1 v4 v3 a2 w2)
set_option maxRecDepth 20000 in
theorem tL_law_1436 {Ls : Nat} {xs : Nat → Int32} {r : Int32} {h' : MH} (k23 : MH → Nat → Nat → Nat → Int32 → Option (Int32 × MH)) (hk23 : ∀ (h : MH) (a1 : Nat) (a2 : Nat) (a3 : Nat) (x4 : Int32), k23 h a1 a2 a3 x4 = some (r, h') → V (PL Ls xs) mL_law 18 (some (.int r)) h' h 23 [.retAddr 1000, .ref a1, .ref a2, .ref a3, .int x4, Jk, Jk] [])  {h : MH} {a1 : Nat} {a2 : Nat} {a3 : Nat} {x4 : Int32} {xs0 : Int32} {xs1 : Int32} {xs2 : Int32} {as3 : Nat} (hf : bL_law_1436 Ls xs k23 h a1 a2 a3 x4 xs0 xs1 xs2 as3 = some (r, h')) : V (PL Ls xs) mL_law 18 (some (.int r)) h' h 1436 [.retAddr 1000, .ref a1, .ref a2, .ref a3, .int x4, Jk, Jk] [.int xs0, .int xs1, .int xs2, .ref as3] := by
  unfold bL_law_1436 at hf
  obtain ⟨_, e1, hf⟩ := bd_ex hf
  obtain ⟨w2, h1, eh1, hf⟩ := bd2_ex hf
  refine V.callV (q := 1439) (ci := 11) (vs := [.int xs2, .int xs1, .int xs0]) (st := []) (S2 := [.long w2]) okX11_mean imX11_mean seX11_mean rfl lkL_178 (tX11_mean eh1) rfl (ck_is e1) (by decide) rfl (Nat.le_of_ble_eq_true rfl) (Nat.le_of_ble_eq_true rfl) rfl dL_law_1436 rfl rfl ?_
  refine V.aload_n (q := 1440) rfl dL_law_1439 rfl rfl ?_
  refine V.aloadT_n (q := 1441) rfl (by decide) tk_1000 dL_law_1440 rfl rfl ?_
  refine V.iload (q := 1443) dL_law_1441 rfl rfl ?_
  refine V.iconst (q := 1444) (v := 1) (by decide) dL_law_1443 rfl ?_
  refine V.iadd (q := 1445) dL_law_1444 rfl ?_
  obtain ⟨v3, ev3, hf⟩ := bd_ex hf
  refine V.sld (q := 1446) PL_sc ev3 dL_law_1445 rfl ?_
  refine V.aloadT_n (q := 1447) rfl (by decide) tk_1000 dL_law_1446 rfl rfl ?_
  refine V.iload (q := 1449) dL_law_1447 rfl rfl ?_
  refine V.iconst (q := 1450) (v := 2) (by decide) dL_law_1449 rfl ?_
  refine V.iadd (q := 1451) dL_law_1450 rfl ?_
  obtain ⟨v4, ev4, hf⟩ := bd_ex hf
  refine V.sld (q := 1452) PL_sc ev4 dL_law_1451 rfl ?_
  refine V.aloadT_n (q := 1453) rfl (by decide) tk_1000 dL_law_1452 rfl rfl ?_
  refine V.iload (q := 1455) dL_law_1453 rfl rfl ?_
  refine V.iconst (q := 1456) (v := 3) (by decide) dL_law_1455 rfl ?_
  refine V.iadd (q := 1457) dL_law_1456 rfl ?_
  obtain ⟨v5, ev5, hf⟩ := bd_ex hf
  refine V.sld (q := 1458) PL_sc ev5 dL_law_1457 rfl ?_
  refine V.if_eq (q := 1461) (tgt := 1465) dL_law_1458 rfl (by decide) (fun c => ?_) (fun c => ?_)
  · rw [if_pos c] at hf
    refine V.iconst (q := 1466) (v := 0) (by decide) dL_law_1465 rfl ?_
    exact tL_law_1466 k23 hk23 hf
  · rw [if_neg c] at hf
    refine V.iconst (q := 1462) (v := 1) (by decide) dL_law_1461 rfl ?_
    refine V.goto (q := 1466) dL_law_1462 (by decide) ?_
    exact tL_law_1466 k23 hk23 hf
def bL_law_1409 (Ls : Nat) (xs : Nat → Int32) (k23 : MH → Nat → Nat → Nat → Int32 → Option (Int32 × MH)) (h : MH) (a1 : Nat) (a2 : Nat) (a3 : Nat) (x4 : Int32) : Option (Int32 × MH) := bd (sld Ls xs (x4 + 1)) fun v1 => bd (sld Ls xs (x4 + 2)) fun v2 => bd (sld Ls xs (x4 + 3)) fun v3 => if v3 = 0 then (bL_law_1436 Ls xs k23 h a1 a2 a3 x4 0 v2 v1 a1) else (bL_law_1436 Ls xs k23 h a1 a2 a3 x4 1 v2 v1 a1)
set_option maxRecDepth 20000 in
theorem tL_law_1409 {Ls : Nat} {xs : Nat → Int32} {r : Int32} {h' : MH} (k23 : MH → Nat → Nat → Nat → Int32 → Option (Int32 × MH)) (hk23 : ∀ (h : MH) (a1 : Nat) (a2 : Nat) (a3 : Nat) (x4 : Int32), k23 h a1 a2 a3 x4 = some (r, h') → V (PL Ls xs) mL_law 18 (some (.int r)) h' h 23 [.retAddr 1000, .ref a1, .ref a2, .ref a3, .int x4, Jk, Jk] [])  {h : MH} {a1 : Nat} {a2 : Nat} {a3 : Nat} {x4 : Int32} (hf : bL_law_1409 Ls xs k23 h a1 a2 a3 x4 = some (r, h')) : V (PL Ls xs) mL_law 18 (some (.int r)) h' h 1409 [.retAddr 1000, .ref a1, .ref a2, .ref a3, .int x4, Jk, Jk] [] := by
  unfold bL_law_1409 at hf
  refine V.aload_n (q := 1410) rfl dL_law_1409 rfl rfl ?_
  refine V.aloadT_n (q := 1411) rfl (by decide) tk_1000 dL_law_1410 rfl rfl ?_
  refine V.iload (q := 1413) dL_law_1411 rfl rfl ?_
  refine V.iconst (q := 1414) (v := 1) (by decide) dL_law_1413 rfl ?_
  refine V.iadd (q := 1415) dL_law_1414 rfl ?_
  obtain ⟨v1, ev1, hf⟩ := bd_ex hf
  refine V.sld (q := 1416) PL_sc ev1 dL_law_1415 rfl ?_
  refine V.aloadT_n (q := 1417) rfl (by decide) tk_1000 dL_law_1416 rfl rfl ?_
  refine V.iload (q := 1419) dL_law_1417 rfl rfl ?_
  refine V.iconst (q := 1420) (v := 2) (by decide) dL_law_1419 rfl ?_
  refine V.iadd (q := 1421) dL_law_1420 rfl ?_
  obtain ⟨v2, ev2, hf⟩ := bd_ex hf
  refine V.sld (q := 1422) PL_sc ev2 dL_law_1421 rfl ?_
  refine V.aloadT_n (q := 1423) rfl (by decide) tk_1000 dL_law_1422 rfl rfl ?_
  refine V.iload (q := 1425) dL_law_1423 rfl rfl ?_
  refine V.iconst (q := 1426) (v := 3) (by decide) dL_law_1425 rfl ?_
  refine V.iadd (q := 1427) dL_law_1426 rfl ?_
  obtain ⟨v3, ev3, hf⟩ := bd_ex hf
  refine V.sld (q := 1428) PL_sc ev3 dL_law_1427 rfl ?_
  refine V.if_eq (q := 1431) (tgt := 1435) dL_law_1428 rfl (by decide) (fun c => ?_) (fun c => ?_)
  · rw [if_pos c] at hf
    refine V.iconst (q := 1436) (v := 0) (by decide) dL_law_1435 rfl ?_
    exact tL_law_1436 k23 hk23 hf
  · rw [if_neg c] at hf
    refine V.iconst (q := 1432) (v := 1) (by decide) dL_law_1431 rfl ?_
    refine V.goto (q := 1436) dL_law_1432 (by decide) ?_
    exact tL_law_1436 k23 hk23 hf
def bL_law_1400 (Ls : Nat) (xs : Nat → Int32) (k23 : MH → Nat → Nat → Nat → Int32 → Option (Int32 × MH)) (h : MH) (a1 : Nat) (a2 : Nat) (a3 : Nat) (x4 : Int32) (xs0 : Int32) (xs1 : Int32) (xs2 : Int32) (xs3 : Int32) (xs4 : Int32) (as5 : Nat) (ys6 : Int64) : Option (Int32 × MH) := bd (ck h as5 13) fun _ => bd2 (fX13_sure h as5 xs4 xs3 xs2 xs1 xs0) fun w2 h1 => if (lg_cmp ys6 w2) = 0 then (bd (some (x4 + 6)) fun v3 => k23 h1 a1 a2 a3 v3) else (some (0, h1))
set_option maxRecDepth 20000 in
theorem tL_law_1400 {Ls : Nat} {xs : Nat → Int32} {r : Int32} {h' : MH} (k23 : MH → Nat → Nat → Nat → Int32 → Option (Int32 × MH)) (hk23 : ∀ (h : MH) (a1 : Nat) (a2 : Nat) (a3 : Nat) (x4 : Int32), k23 h a1 a2 a3 x4 = some (r, h') → V (PL Ls xs) mL_law 18 (some (.int r)) h' h 23 [.retAddr 1000, .ref a1, .ref a2, .ref a3, .int x4, Jk, Jk] [])  {h : MH} {a1 : Nat} {a2 : Nat} {a3 : Nat} {x4 : Int32} {xs0 : Int32} {xs1 : Int32} {xs2 : Int32} {xs3 : Int32} {xs4 : Int32} {as5 : Nat} {ys6 : Int64} (hf : bL_law_1400 Ls xs k23 h a1 a2 a3 x4 xs0 xs1 xs2 xs3 xs4 as5 ys6 = some (r, h')) : V (PL Ls xs) mL_law 18 (some (.int r)) h' h 1400 [.retAddr 1000, .ref a1, .ref a2, .ref a3, .int x4, Jk, Jk] [.int xs0, .int xs1, .int xs2, .int xs3, .int xs4, .ref as5, .long ys6] := by
  unfold bL_law_1400 at hf
  obtain ⟨_, e1, hf⟩ := bd_ex hf
  obtain ⟨w2, h1, eh1, hf⟩ := bd2_ex hf
  refine V.callV (q := 1403) (ci := 13) (vs := [.int xs4, .int xs3, .int xs2, .int xs1, .int xs0]) (st := [.long ys6]) (S2 := [.long w2, .long ys6]) okX13_sure imX13_sure seX13_sure rfl lkL_177 (tX13_sure eh1) rfl (ck_is e1) (by decide) rfl (Nat.le_of_ble_eq_true rfl) (Nat.le_of_ble_eq_true rfl) rfl dL_law_1400 rfl rfl ?_
  refine V.lcmp (q := 1404) dL_law_1403 rfl ?_
  refine V.if_eq (q := 1407) (tgt := 1943) dL_law_1404 rfl (by decide) (fun c => ?_) (fun c => ?_)
  · rw [if_pos c] at hf
    obtain ⟨v3, ev3, hf⟩ := bd_ex hf
    refine V.iinc (q := 1946) (v := v3) (L' := [.retAddr 1000, .ref a1, .ref a2, .ref a3, .int v3, Jk, Jk]) dL_law_1943 rfl rfl (Option.some.inj ev3) (by decide) rfl rfl ?_
    refine V.goto (q := 23) dL_law_1946 (by decide) ?_
    exact hk23 _ _ _ _ _ hf
  · rw [if_neg c] at hf
    refine V.iconst (q := 1408) (v := 0) (by decide) dL_law_1407 rfl ?_
    obtain ⟨rfl, rfl⟩ := ret_inj hf
    exact V.ret (r := some (.int 0)) (Or.inl rfl) dL_law_1408
def bL_law_1358 (Ls : Nat) (xs : Nat → Int32) (k23 : MH → Nat → Nat → Nat → Int32 → Option (Int32 × MH)) (h : MH) (a1 : Nat) (a2 : Nat) (a3 : Nat) (x4 : Int32) (xs0 : Int32) (xs1 : Int32) (xs2 : Int32) (xs3 : Int32) (xs4 : Int32) (as5 : Nat) : Option (Int32 × MH) := bd (ck h as5 11) fun _ => bd2 (fX11_sure h as5 xs4 xs3 xs2 xs1 xs0) fun w2 h1 => bd (sld Ls xs (x4 + 1)) fun v3 => bd (sld Ls xs (x4 + 2)) fun v4 => bd (sld Ls xs (x4 + 3)) fun v5 => bd (sld Ls xs (x4 + 4)) fun v6 => bd (sld Ls xs (x4 + 5)) fun v7 => if v7 = 0 then (bL_law_1400 Ls xs k23 h1 a1 a2 a3 x4 0 v6 v5 v4 v3 a2 w2) else (bL_law_1400 Ls xs k23 h1 a1 a2 a3 x4 1 v6 v5 v4 v3 a2 w2)
set_option maxRecDepth 20000 in
theorem tL_law_1358 {Ls : Nat} {xs : Nat → Int32} {r : Int32} {h' : MH} (k23 : MH → Nat → Nat → Nat → Int32 → Option (Int32 × MH)) (hk23 : ∀ (h : MH) (a1 : Nat) (a2 : Nat) (a3 : Nat) (x4 : Int32), k23 h a1 a2 a3 x4 = some (r, h') → V (PL Ls xs) mL_law 18 (some (.int r)) h' h 23 [.retAddr 1000, .ref a1, .ref a2, .ref a3, .int x4, Jk, Jk] [])  {h : MH} {a1 : Nat} {a2 : Nat} {a3 : Nat} {x4 : Int32} {xs0 : Int32} {xs1 : Int32} {xs2 : Int32} {xs3 : Int32} {xs4 : Int32} {as5 : Nat} (hf : bL_law_1358 Ls xs k23 h a1 a2 a3 x4 xs0 xs1 xs2 xs3 xs4 as5 = some (r, h')) : V (PL Ls xs) mL_law 18 (some (.int r)) h' h 1358 [.retAddr 1000, .ref a1, .ref a2, .ref a3, .int x4, Jk, Jk] [.int xs0, .int xs1, .int xs2, .int xs3, .int xs4, .ref as5] := by
  unfold bL_law_1358 at hf
  obtain ⟨_, e1, hf⟩ := bd_ex hf
  obtain ⟨w2, h1, eh1, hf⟩ := bd2_ex hf
  refine V.callV (q := 1361) (ci := 11) (vs := [.int xs4, .int xs3, .int xs2, .int xs1, .int xs0]) (st := []) (S2 := [.long w2]) okX11_sure imX11_sure seX11_sure rfl lkL_173 (tX11_sure eh1) rfl (ck_is e1) (by decide) rfl (Nat.le_of_ble_eq_true rfl) (Nat.le_of_ble_eq_true rfl) rfl dL_law_1358 rfl rfl ?_
  refine V.aload_n (q := 1362) rfl dL_law_1361 rfl rfl ?_
  refine V.aloadT_n (q := 1363) rfl (by decide) tk_1000 dL_law_1362 rfl rfl ?_
  refine V.iload (q := 1365) dL_law_1363 rfl rfl ?_
  refine V.iconst (q := 1366) (v := 1) (by decide) dL_law_1365 rfl ?_
  refine V.iadd (q := 1367) dL_law_1366 rfl ?_
  obtain ⟨v3, ev3, hf⟩ := bd_ex hf
  refine V.sld (q := 1368) PL_sc ev3 dL_law_1367 rfl ?_
  refine V.aloadT_n (q := 1369) rfl (by decide) tk_1000 dL_law_1368 rfl rfl ?_
  refine V.iload (q := 1371) dL_law_1369 rfl rfl ?_
  refine V.iconst (q := 1372) (v := 2) (by decide) dL_law_1371 rfl ?_
  refine V.iadd (q := 1373) dL_law_1372 rfl ?_
  obtain ⟨v4, ev4, hf⟩ := bd_ex hf
  refine V.sld (q := 1374) PL_sc ev4 dL_law_1373 rfl ?_
  refine V.aloadT_n (q := 1375) rfl (by decide) tk_1000 dL_law_1374 rfl rfl ?_
  refine V.iload (q := 1377) dL_law_1375 rfl rfl ?_
  refine V.iconst (q := 1378) (v := 3) (by decide) dL_law_1377 rfl ?_
  refine V.iadd (q := 1379) dL_law_1378 rfl ?_
  obtain ⟨v5, ev5, hf⟩ := bd_ex hf
  refine V.sld (q := 1380) PL_sc ev5 dL_law_1379 rfl ?_
  refine V.aloadT_n (q := 1381) rfl (by decide) tk_1000 dL_law_1380 rfl rfl ?_
  refine V.iload (q := 1383) dL_law_1381 rfl rfl ?_
  refine V.iconst (q := 1384) (v := 4) (by decide) dL_law_1383 rfl ?_
  refine V.iadd (q := 1385) dL_law_1384 rfl ?_
  obtain ⟨v6, ev6, hf⟩ := bd_ex hf
  refine V.sld (q := 1386) PL_sc ev6 dL_law_1385 rfl ?_
  refine V.aloadT_n (q := 1387) rfl (by decide) tk_1000 dL_law_1386 rfl rfl ?_
  refine V.iload (q := 1389) dL_law_1387 rfl rfl ?_
  refine V.iconst (q := 1390) (v := 5) (by decide) dL_law_1389 rfl ?_
  refine V.iadd (q := 1391) dL_law_1390 rfl ?_
  obtain ⟨v7, ev7, hf⟩ := bd_ex hf
  refine V.sld (q := 1392) PL_sc ev7 dL_law_1391 rfl ?_
  refine V.if_eq (q := 1395) (tgt := 1399) dL_law_1392 rfl (by decide) (fun c => ?_) (fun c => ?_)
  · rw [if_pos c] at hf
    refine V.iconst (q := 1400) (v := 0) (by decide) dL_law_1399 rfl ?_
    exact tL_law_1400 k23 hk23 hf
  · rw [if_neg c] at hf
    refine V.iconst (q := 1396) (v := 1) (by decide) dL_law_1395 rfl ?_
    refine V.goto (q := 1400) dL_law_1396 (by decide) ?_
    exact tL_law_1400 k23 hk23 hf
def bL_law_1319 (Ls : Nat) (xs : Nat → Int32) (k23 : MH → Nat → Nat → Nat → Int32 → Option (Int32 × MH)) (h : MH) (a1 : Nat) (a2 : Nat) (a3 : Nat) (x4 : Int32) : Option (Int32 × MH) := bd (sld Ls xs (x4 + 1)) fun v1 => bd (sld Ls xs (x4 + 2)) fun v2 => bd (sld Ls xs (x4 + 3)) fun v3 => bd (sld Ls xs (x4 + 4)) fun v4 => bd (sld Ls xs (x4 + 5)) fun v5 => if v5 = 0 then (bL_law_1358 Ls xs k23 h a1 a2 a3 x4 0 v4 v3 v2 v1 a1) else (bL_law_1358 Ls xs k23 h a1 a2 a3 x4 1 v4 v3 v2 v1 a1)
set_option maxRecDepth 20000 in
theorem tL_law_1319 {Ls : Nat} {xs : Nat → Int32} {r : Int32} {h' : MH} (k23 : MH → Nat → Nat → Nat → Int32 → Option (Int32 × MH)) (hk23 : ∀ (h : MH) (a1 : Nat) (a2 : Nat) (a3 : Nat) (x4 : Int32), k23 h a1 a2 a3 x4 = some (r, h') → V (PL Ls xs) mL_law 18 (some (.int r)) h' h 23 [.retAddr 1000, .ref a1, .ref a2, .ref a3, .int x4, Jk, Jk] [])  {h : MH} {a1 : Nat} {a2 : Nat} {a3 : Nat} {x4 : Int32} (hf : bL_law_1319 Ls xs k23 h a1 a2 a3 x4 = some (r, h')) : V (PL Ls xs) mL_law 18 (some (.int r)) h' h 1319 [.retAddr 1000, .ref a1, .ref a2, .ref a3, .int x4, Jk, Jk] [] := by
  unfold bL_law_1319 at hf
  refine V.aload_n (q := 1320) rfl dL_law_1319 rfl rfl ?_
  refine V.aloadT_n (q := 1321) rfl (by decide) tk_1000 dL_law_1320 rfl rfl ?_
  refine V.iload (q := 1323) dL_law_1321 rfl rfl ?_
  refine V.iconst (q := 1324) (v := 1) (by decide) dL_law_1323 rfl ?_
  refine V.iadd (q := 1325) dL_law_1324 rfl ?_
  obtain ⟨v1, ev1, hf⟩ := bd_ex hf
  refine V.sld (q := 1326) PL_sc ev1 dL_law_1325 rfl ?_
  refine V.aloadT_n (q := 1327) rfl (by decide) tk_1000 dL_law_1326 rfl rfl ?_
  refine V.iload (q := 1329) dL_law_1327 rfl rfl ?_
  refine V.iconst (q := 1330) (v := 2) (by decide) dL_law_1329 rfl ?_
  refine V.iadd (q := 1331) dL_law_1330 rfl ?_
  obtain ⟨v2, ev2, hf⟩ := bd_ex hf
  refine V.sld (q := 1332) PL_sc ev2 dL_law_1331 rfl ?_
  refine V.aloadT_n (q := 1333) rfl (by decide) tk_1000 dL_law_1332 rfl rfl ?_
  refine V.iload (q := 1335) dL_law_1333 rfl rfl ?_
  refine V.iconst (q := 1336) (v := 3) (by decide) dL_law_1335 rfl ?_
  refine V.iadd (q := 1337) dL_law_1336 rfl ?_
  obtain ⟨v3, ev3, hf⟩ := bd_ex hf
  refine V.sld (q := 1338) PL_sc ev3 dL_law_1337 rfl ?_
  refine V.aloadT_n (q := 1339) rfl (by decide) tk_1000 dL_law_1338 rfl rfl ?_
  refine V.iload (q := 1341) dL_law_1339 rfl rfl ?_
  refine V.iconst (q := 1342) (v := 4) (by decide) dL_law_1341 rfl ?_
  refine V.iadd (q := 1343) dL_law_1342 rfl ?_
  obtain ⟨v4, ev4, hf⟩ := bd_ex hf
  refine V.sld (q := 1344) PL_sc ev4 dL_law_1343 rfl ?_
  refine V.aloadT_n (q := 1345) rfl (by decide) tk_1000 dL_law_1344 rfl rfl ?_
  refine V.iload (q := 1347) dL_law_1345 rfl rfl ?_
  refine V.iconst (q := 1348) (v := 5) (by decide) dL_law_1347 rfl ?_
  refine V.iadd (q := 1349) dL_law_1348 rfl ?_
  obtain ⟨v5, ev5, hf⟩ := bd_ex hf
  refine V.sld (q := 1350) PL_sc ev5 dL_law_1349 rfl ?_
  refine V.if_eq (q := 1353) (tgt := 1357) dL_law_1350 rfl (by decide) (fun c => ?_) (fun c => ?_)
  · rw [if_pos c] at hf
    refine V.iconst (q := 1358) (v := 0) (by decide) dL_law_1357 rfl ?_
    exact tL_law_1358 k23 hk23 hf
  · rw [if_neg c] at hf
    refine V.iconst (q := 1354) (v := 1) (by decide) dL_law_1353 rfl ?_
    refine V.goto (q := 1358) dL_law_1354 (by decide) ?_
    exact tL_law_1358 k23 hk23 hf
def bL_law_1306 (Ls : Nat) (xs : Nat → Int32) (k23 : MH → Nat → Nat → Nat → Int32 → Option (Int32 × MH)) (h : MH) (a1 : Nat) (a2 : Nat) (a3 : Nat) (x4 : Int32) : Option (Int32 × MH) := bd (ck h a1 11) fun _ => bd2 (fX11_even h a1 ) fun v2 h1 => bd (ck h1 a2 13) fun _ => bd2 (fX13_even h1 a2 ) fun v4 h2 => if v2 = v4 then (bd (some (x4 + 6)) fun v5 => k23 h2 a1 a2 a3 v5) else (some (0, h2))
set_option maxRecDepth 20000 in
theorem tL_law_1306 {Ls : Nat} {xs : Nat → Int32} {r : Int32} {h' : MH} (k23 : MH → Nat → Nat → Nat → Int32 → Option (Int32 × MH)) (hk23 : ∀ (h : MH) (a1 : Nat) (a2 : Nat) (a3 : Nat) (x4 : Int32), k23 h a1 a2 a3 x4 = some (r, h') → V (PL Ls xs) mL_law 18 (some (.int r)) h' h 23 [.retAddr 1000, .ref a1, .ref a2, .ref a3, .int x4, Jk, Jk] [])  {h : MH} {a1 : Nat} {a2 : Nat} {a3 : Nat} {x4 : Int32} (hf : bL_law_1306 Ls xs k23 h a1 a2 a3 x4 = some (r, h')) : V (PL Ls xs) mL_law 18 (some (.int r)) h' h 1306 [.retAddr 1000, .ref a1, .ref a2, .ref a3, .int x4, Jk, Jk] [] := by
  unfold bL_law_1306 at hf
  refine V.aload_n (q := 1307) rfl dL_law_1306 rfl rfl ?_
  obtain ⟨_, e1, hf⟩ := bd_ex hf
  obtain ⟨v2, h1, eh1, hf⟩ := bd2_ex hf
  refine V.callV (q := 1310) (ci := 11) (vs := []) (st := []) (S2 := [.int v2]) okX11_even imX11_even seX11_even rfl lkL_169 (tX11_even eh1) rfl (ck_is e1) (by decide) rfl (Nat.le_of_ble_eq_true rfl) (Nat.le_of_ble_eq_true rfl) rfl dL_law_1307 rfl rfl ?_
  refine V.aload_n (q := 1311) rfl dL_law_1310 rfl rfl ?_
  obtain ⟨_, e3, hf⟩ := bd_ex hf
  obtain ⟨v4, h2, eh2, hf⟩ := bd2_ex hf
  refine V.callV (q := 1314) (ci := 13) (vs := []) (st := [.int v2]) (S2 := [.int v4, .int v2]) okX13_even imX13_even seX13_even rfl lkL_172 (tX13_even eh2) rfl (ck_is e3) (by decide) rfl (Nat.le_of_ble_eq_true rfl) (Nat.le_of_ble_eq_true rfl) rfl dL_law_1311 rfl rfl ?_
  refine V.icmp_eq (q := 1317) (tgt := 1943) dL_law_1314 rfl (by decide) (fun c => ?_) (fun c => ?_)
  · rw [if_pos c] at hf
    obtain ⟨v5, ev5, hf⟩ := bd_ex hf
    refine V.iinc (q := 1946) (v := v5) (L' := [.retAddr 1000, .ref a1, .ref a2, .ref a3, .int v5, Jk, Jk]) dL_law_1943 rfl rfl (Option.some.inj ev5) (by decide) rfl rfl ?_
    refine V.goto (q := 23) dL_law_1946 (by decide) ?_
    exact hk23 _ _ _ _ _ hf
  · rw [if_neg c] at hf
    refine V.iconst (q := 1318) (v := 0) (by decide) dL_law_1317 rfl ?_
    obtain ⟨rfl, rfl⟩ := ret_inj hf
    exact V.ret (r := some (.int 0)) (Or.inl rfl) dL_law_1318
def bL_law_1293 (Ls : Nat) (xs : Nat → Int32) (k23 : MH → Nat → Nat → Nat → Int32 → Option (Int32 × MH)) (h : MH) (a1 : Nat) (a2 : Nat) (a3 : Nat) (x4 : Int32) : Option (Int32 × MH) := bd (ck h a1 11) fun _ => bd2 (fX11_clerkPicks h a1 ) fun v2 h1 => bd (ck h1 a2 13) fun _ => bd2 (fX13_clerkPicks h1 a2 ) fun v4 h2 => if v2 = v4 then (bd (some (x4 + 6)) fun v5 => k23 h2 a1 a2 a3 v5) else (some (0, h2))
set_option maxRecDepth 20000 in
theorem tL_law_1293 {Ls : Nat} {xs : Nat → Int32} {r : Int32} {h' : MH} (k23 : MH → Nat → Nat → Nat → Int32 → Option (Int32 × MH)) (hk23 : ∀ (h : MH) (a1 : Nat) (a2 : Nat) (a3 : Nat) (x4 : Int32), k23 h a1 a2 a3 x4 = some (r, h') → V (PL Ls xs) mL_law 18 (some (.int r)) h' h 23 [.retAddr 1000, .ref a1, .ref a2, .ref a3, .int x4, Jk, Jk] [])  {h : MH} {a1 : Nat} {a2 : Nat} {a3 : Nat} {x4 : Int32} (hf : bL_law_1293 Ls xs k23 h a1 a2 a3 x4 = some (r, h')) : V (PL Ls xs) mL_law 18 (some (.int r)) h' h 1293 [.retAddr 1000, .ref a1, .ref a2, .ref a3, .int x4, Jk, Jk] [] := by
  unfold bL_law_1293 at hf
  refine V.aload_n (q := 1294) rfl dL_law_1293 rfl rfl ?_
  obtain ⟨_, e1, hf⟩ := bd_ex hf
  obtain ⟨v2, h1, eh1, hf⟩ := bd2_ex hf
  refine V.callV (q := 1297) (ci := 11) (vs := []) (st := []) (S2 := [.int v2]) okX11_clerkPicks imX11_clerkPicks seX11_clerkPicks rfl lkL_165 (tX11_clerkPicks eh1) rfl (ck_is e1) (by decide) rfl (Nat.le_of_ble_eq_true rfl) (Nat.le_of_ble_eq_true rfl) rfl dL_law_1294 rfl rfl ?_
  refine V.aload_n (q := 1298) rfl dL_law_1297 rfl rfl ?_
  obtain ⟨_, e3, hf⟩ := bd_ex hf
  obtain ⟨v4, h2, eh2, hf⟩ := bd2_ex hf
  refine V.callV (q := 1301) (ci := 13) (vs := []) (st := [.int v2]) (S2 := [.int v4, .int v2]) okX13_clerkPicks imX13_clerkPicks seX13_clerkPicks rfl lkL_168 (tX13_clerkPicks eh2) rfl (ck_is e3) (by decide) rfl (Nat.le_of_ble_eq_true rfl) (Nat.le_of_ble_eq_true rfl) rfl dL_law_1298 rfl rfl ?_
  refine V.icmp_eq (q := 1304) (tgt := 1943) dL_law_1301 rfl (by decide) (fun c => ?_) (fun c => ?_)
  · rw [if_pos c] at hf
    obtain ⟨v5, ev5, hf⟩ := bd_ex hf
    refine V.iinc (q := 1946) (v := v5) (L' := [.retAddr 1000, .ref a1, .ref a2, .ref a3, .int v5, Jk, Jk]) dL_law_1943 rfl rfl (Option.some.inj ev5) (by decide) rfl rfl ?_
    refine V.goto (q := 23) dL_law_1946 (by decide) ?_
    exact hk23 _ _ _ _ _ hf
  · rw [if_neg c] at hf
    refine V.iconst (q := 1305) (v := 0) (by decide) dL_law_1304 rfl ?_
    obtain ⟨rfl, rfl⟩ := ret_inj hf
    exact V.ret (r := some (.int 0)) (Or.inl rfl) dL_law_1305
def bL_law_1280 (Ls : Nat) (xs : Nat → Int32) (k23 : MH → Nat → Nat → Nat → Int32 → Option (Int32 × MH)) (h : MH) (a1 : Nat) (a2 : Nat) (a3 : Nat) (x4 : Int32) : Option (Int32 × MH) := bd (ck h a1 11) fun _ => bd2 (fX11_applicants h a1 ) fun v2 h1 => bd (ck h1 a2 13) fun _ => bd2 (fX13_applicants h1 a2 ) fun v4 h2 => if v2 = v4 then (bd (some (x4 + 6)) fun v5 => k23 h2 a1 a2 a3 v5) else (some (0, h2))
set_option maxRecDepth 20000 in
theorem tL_law_1280 {Ls : Nat} {xs : Nat → Int32} {r : Int32} {h' : MH} (k23 : MH → Nat → Nat → Nat → Int32 → Option (Int32 × MH)) (hk23 : ∀ (h : MH) (a1 : Nat) (a2 : Nat) (a3 : Nat) (x4 : Int32), k23 h a1 a2 a3 x4 = some (r, h') → V (PL Ls xs) mL_law 18 (some (.int r)) h' h 23 [.retAddr 1000, .ref a1, .ref a2, .ref a3, .int x4, Jk, Jk] [])  {h : MH} {a1 : Nat} {a2 : Nat} {a3 : Nat} {x4 : Int32} (hf : bL_law_1280 Ls xs k23 h a1 a2 a3 x4 = some (r, h')) : V (PL Ls xs) mL_law 18 (some (.int r)) h' h 1280 [.retAddr 1000, .ref a1, .ref a2, .ref a3, .int x4, Jk, Jk] [] := by
  unfold bL_law_1280 at hf
  refine V.aload_n (q := 1281) rfl dL_law_1280 rfl rfl ?_
  obtain ⟨_, e1, hf⟩ := bd_ex hf
  obtain ⟨v2, h1, eh1, hf⟩ := bd2_ex hf
  refine V.callV (q := 1284) (ci := 11) (vs := []) (st := []) (S2 := [.int v2]) okX11_applicants imX11_applicants seX11_applicants rfl lkL_161 (tX11_applicants eh1) rfl (ck_is e1) (by decide) rfl (Nat.le_of_ble_eq_true rfl) (Nat.le_of_ble_eq_true rfl) rfl dL_law_1281 rfl rfl ?_
  refine V.aload_n (q := 1285) rfl dL_law_1284 rfl rfl ?_
  obtain ⟨_, e3, hf⟩ := bd_ex hf
  obtain ⟨v4, h2, eh2, hf⟩ := bd2_ex hf
  refine V.callV (q := 1288) (ci := 13) (vs := []) (st := [.int v2]) (S2 := [.int v4, .int v2]) okX13_applicants imX13_applicants seX13_applicants rfl lkL_164 (tX13_applicants eh2) rfl (ck_is e3) (by decide) rfl (Nat.le_of_ble_eq_true rfl) (Nat.le_of_ble_eq_true rfl) rfl dL_law_1285 rfl rfl ?_
  refine V.icmp_eq (q := 1291) (tgt := 1943) dL_law_1288 rfl (by decide) (fun c => ?_) (fun c => ?_)
  · rw [if_pos c] at hf
    obtain ⟨v5, ev5, hf⟩ := bd_ex hf
    refine V.iinc (q := 1946) (v := v5) (L' := [.retAddr 1000, .ref a1, .ref a2, .ref a3, .int v5, Jk, Jk]) dL_law_1943 rfl rfl (Option.some.inj ev5) (by decide) rfl rfl ?_
    refine V.goto (q := 23) dL_law_1946 (by decide) ?_
    exact hk23 _ _ _ _ _ hf
  · rw [if_neg c] at hf
    refine V.iconst (q := 1292) (v := 0) (by decide) dL_law_1291 rfl ?_
    obtain ⟨rfl, rfl⟩ := ret_inj hf
    exact V.ret (r := some (.int 0)) (Or.inl rfl) dL_law_1292
def bL_law_1267 (Ls : Nat) (xs : Nat → Int32) (k23 : MH → Nat → Nat → Nat → Int32 → Option (Int32 × MH)) (h : MH) (a1 : Nat) (a2 : Nat) (a3 : Nat) (x4 : Int32) : Option (Int32 × MH) := bd (ck h a1 11) fun _ => bd2 (fX11_clerks h a1 ) fun v2 h1 => bd (ck h1 a2 13) fun _ => bd2 (fX13_clerks h1 a2 ) fun v4 h2 => if v2 = v4 then (bd (some (x4 + 6)) fun v5 => k23 h2 a1 a2 a3 v5) else (some (0, h2))
set_option maxRecDepth 20000 in
theorem tL_law_1267 {Ls : Nat} {xs : Nat → Int32} {r : Int32} {h' : MH} (k23 : MH → Nat → Nat → Nat → Int32 → Option (Int32 × MH)) (hk23 : ∀ (h : MH) (a1 : Nat) (a2 : Nat) (a3 : Nat) (x4 : Int32), k23 h a1 a2 a3 x4 = some (r, h') → V (PL Ls xs) mL_law 18 (some (.int r)) h' h 23 [.retAddr 1000, .ref a1, .ref a2, .ref a3, .int x4, Jk, Jk] [])  {h : MH} {a1 : Nat} {a2 : Nat} {a3 : Nat} {x4 : Int32} (hf : bL_law_1267 Ls xs k23 h a1 a2 a3 x4 = some (r, h')) : V (PL Ls xs) mL_law 18 (some (.int r)) h' h 1267 [.retAddr 1000, .ref a1, .ref a2, .ref a3, .int x4, Jk, Jk] [] := by
  unfold bL_law_1267 at hf
  refine V.aload_n (q := 1268) rfl dL_law_1267 rfl rfl ?_
  obtain ⟨_, e1, hf⟩ := bd_ex hf
  obtain ⟨v2, h1, eh1, hf⟩ := bd2_ex hf
  refine V.callV (q := 1271) (ci := 11) (vs := []) (st := []) (S2 := [.int v2]) okX11_clerks imX11_clerks seX11_clerks rfl lkL_157 (tX11_clerks eh1) rfl (ck_is e1) (by decide) rfl (Nat.le_of_ble_eq_true rfl) (Nat.le_of_ble_eq_true rfl) rfl dL_law_1268 rfl rfl ?_
  refine V.aload_n (q := 1272) rfl dL_law_1271 rfl rfl ?_
  obtain ⟨_, e3, hf⟩ := bd_ex hf
  obtain ⟨v4, h2, eh2, hf⟩ := bd2_ex hf
  refine V.callV (q := 1275) (ci := 13) (vs := []) (st := [.int v2]) (S2 := [.int v4, .int v2]) okX13_clerks imX13_clerks seX13_clerks rfl lkL_160 (tX13_clerks eh2) rfl (ck_is e3) (by decide) rfl (Nat.le_of_ble_eq_true rfl) (Nat.le_of_ble_eq_true rfl) rfl dL_law_1272 rfl rfl ?_
  refine V.icmp_eq (q := 1278) (tgt := 1943) dL_law_1275 rfl (by decide) (fun c => ?_) (fun c => ?_)
  · rw [if_pos c] at hf
    obtain ⟨v5, ev5, hf⟩ := bd_ex hf
    refine V.iinc (q := 1946) (v := v5) (L' := [.retAddr 1000, .ref a1, .ref a2, .ref a3, .int v5, Jk, Jk]) dL_law_1943 rfl rfl (Option.some.inj ev5) (by decide) rfl rfl ?_
    refine V.goto (q := 23) dL_law_1946 (by decide) ?_
    exact hk23 _ _ _ _ _ hf
  · rw [if_neg c] at hf
    refine V.iconst (q := 1279) (v := 0) (by decide) dL_law_1278 rfl ?_
    obtain ⟨rfl, rfl⟩ := ret_inj hf
    exact V.ret (r := some (.int 0)) (Or.inl rfl) dL_law_1279
def bL_law_1230 (Ls : Nat) (xs : Nat → Int32) (k23 : MH → Nat → Nat → Nat → Int32 → Option (Int32 × MH)) (h : MH) (a1 : Nat) (a2 : Nat) (a3 : Nat) (x4 : Int32) : Option (Int32 × MH) := bd (sld Ls xs (x4 + 1)) fun v1 => bd (sld Ls xs (x4 + 2)) fun v2 => bd (ck h a1 11) fun _ => bd2 (fX11_has h a1 v1 v2) fun v4 h1 => bd (sld Ls xs (x4 + 1)) fun v5 => bd (sld Ls xs (x4 + 2)) fun v6 => bd (ck h1 a2 13) fun _ => bd2 (fX13_has h1 a2 v5 v6) fun v8 h2 => if v4 = v8 then (bd (some (x4 + 6)) fun v9 => k23 h2 a1 a2 a3 v9) else (some (0, h2))
set_option maxRecDepth 20000 in
theorem tL_law_1230 {Ls : Nat} {xs : Nat → Int32} {r : Int32} {h' : MH} (k23 : MH → Nat → Nat → Nat → Int32 → Option (Int32 × MH)) (hk23 : ∀ (h : MH) (a1 : Nat) (a2 : Nat) (a3 : Nat) (x4 : Int32), k23 h a1 a2 a3 x4 = some (r, h') → V (PL Ls xs) mL_law 18 (some (.int r)) h' h 23 [.retAddr 1000, .ref a1, .ref a2, .ref a3, .int x4, Jk, Jk] [])  {h : MH} {a1 : Nat} {a2 : Nat} {a3 : Nat} {x4 : Int32} (hf : bL_law_1230 Ls xs k23 h a1 a2 a3 x4 = some (r, h')) : V (PL Ls xs) mL_law 18 (some (.int r)) h' h 1230 [.retAddr 1000, .ref a1, .ref a2, .ref a3, .int x4, Jk, Jk] [] := by
  unfold bL_law_1230 at hf
  refine V.aload_n (q := 1231) rfl dL_law_1230 rfl rfl ?_
  refine V.aloadT_n (q := 1232) rfl (by decide) tk_1000 dL_law_1231 rfl rfl ?_
  refine V.iload (q := 1234) dL_law_1232 rfl rfl ?_
  refine V.iconst (q := 1235) (v := 1) (by decide) dL_law_1234 rfl ?_
  refine V.iadd (q := 1236) dL_law_1235 rfl ?_
  obtain ⟨v1, ev1, hf⟩ := bd_ex hf
  refine V.sld (q := 1237) PL_sc ev1 dL_law_1236 rfl ?_
  refine V.aloadT_n (q := 1238) rfl (by decide) tk_1000 dL_law_1237 rfl rfl ?_
  refine V.iload (q := 1240) dL_law_1238 rfl rfl ?_
  refine V.iconst (q := 1241) (v := 2) (by decide) dL_law_1240 rfl ?_
  refine V.iadd (q := 1242) dL_law_1241 rfl ?_
  obtain ⟨v2, ev2, hf⟩ := bd_ex hf
  refine V.sld (q := 1243) PL_sc ev2 dL_law_1242 rfl ?_
  obtain ⟨_, e3, hf⟩ := bd_ex hf
  obtain ⟨v4, h1, eh1, hf⟩ := bd2_ex hf
  refine V.callV (q := 1246) (ci := 11) (vs := [.int v1, .int v2]) (st := []) (S2 := [.int v4]) okX11_has imX11_has seX11_has rfl lkL_153 (tX11_has eh1) rfl (ck_is e3) (by decide) rfl (Nat.le_of_ble_eq_true rfl) (Nat.le_of_ble_eq_true rfl) rfl dL_law_1243 rfl rfl ?_
  refine V.aload_n (q := 1247) rfl dL_law_1246 rfl rfl ?_
  refine V.aloadT_n (q := 1248) rfl (by decide) tk_1000 dL_law_1247 rfl rfl ?_
  refine V.iload (q := 1250) dL_law_1248 rfl rfl ?_
  refine V.iconst (q := 1251) (v := 1) (by decide) dL_law_1250 rfl ?_
  refine V.iadd (q := 1252) dL_law_1251 rfl ?_
  obtain ⟨v5, ev5, hf⟩ := bd_ex hf
  refine V.sld (q := 1253) PL_sc ev5 dL_law_1252 rfl ?_
  refine V.aloadT_n (q := 1254) rfl (by decide) tk_1000 dL_law_1253 rfl rfl ?_
  refine V.iload (q := 1256) dL_law_1254 rfl rfl ?_
  refine V.iconst (q := 1257) (v := 2) (by decide) dL_law_1256 rfl ?_
  refine V.iadd (q := 1258) dL_law_1257 rfl ?_
  obtain ⟨v6, ev6, hf⟩ := bd_ex hf
  refine V.sld (q := 1259) PL_sc ev6 dL_law_1258 rfl ?_
  obtain ⟨_, e7, hf⟩ := bd_ex hf
  obtain ⟨v8, h2, eh2, hf⟩ := bd2_ex hf
  refine V.callV (q := 1262) (ci := 13) (vs := [.int v5, .int v6]) (st := [.int v4]) (S2 := [.int v8, .int v4]) okX13_has imX13_has seX13_has rfl lkL_156 (tX13_has eh2) rfl (ck_is e7) (by decide) rfl (Nat.le_of_ble_eq_true rfl) (Nat.le_of_ble_eq_true rfl) rfl dL_law_1259 rfl rfl ?_
  refine V.icmp_eq (q := 1265) (tgt := 1943) dL_law_1262 rfl (by decide) (fun c => ?_) (fun c => ?_)
  · rw [if_pos c] at hf
    obtain ⟨v9, ev9, hf⟩ := bd_ex hf
    refine V.iinc (q := 1946) (v := v9) (L' := [.retAddr 1000, .ref a1, .ref a2, .ref a3, .int v9, Jk, Jk]) dL_law_1943 rfl rfl (Option.some.inj ev9) (by decide) rfl rfl ?_
    refine V.goto (q := 23) dL_law_1946 (by decide) ?_
    exact hk23 _ _ _ _ _ hf
  · rw [if_neg c] at hf
    refine V.iconst (q := 1266) (v := 0) (by decide) dL_law_1265 rfl ?_
    obtain ⟨rfl, rfl⟩ := ret_inj hf
    exact V.ret (r := some (.int 0)) (Or.inl rfl) dL_law_1266
def bL_law_1217 (Ls : Nat) (xs : Nat → Int32) (k23 : MH → Nat → Nat → Nat → Int32 → Option (Int32 × MH)) (h : MH) (a1 : Nat) (a2 : Nat) (a3 : Nat) (x4 : Int32) : Option (Int32 × MH) := bd (ck h a1 11) fun _ => bd2 (fX11_steady h a1 ) fun v2 h1 => bd (ck h1 a2 13) fun _ => bd2 (fX13_steady h1 a2 ) fun v4 h2 => if v2 = v4 then (bd (some (x4 + 6)) fun v5 => k23 h2 a1 a2 a3 v5) else (some (0, h2))
set_option maxRecDepth 20000 in
theorem tL_law_1217 {Ls : Nat} {xs : Nat → Int32} {r : Int32} {h' : MH} (k23 : MH → Nat → Nat → Nat → Int32 → Option (Int32 × MH)) (hk23 : ∀ (h : MH) (a1 : Nat) (a2 : Nat) (a3 : Nat) (x4 : Int32), k23 h a1 a2 a3 x4 = some (r, h') → V (PL Ls xs) mL_law 18 (some (.int r)) h' h 23 [.retAddr 1000, .ref a1, .ref a2, .ref a3, .int x4, Jk, Jk] [])  {h : MH} {a1 : Nat} {a2 : Nat} {a3 : Nat} {x4 : Int32} (hf : bL_law_1217 Ls xs k23 h a1 a2 a3 x4 = some (r, h')) : V (PL Ls xs) mL_law 18 (some (.int r)) h' h 1217 [.retAddr 1000, .ref a1, .ref a2, .ref a3, .int x4, Jk, Jk] [] := by
  unfold bL_law_1217 at hf
  refine V.aload_n (q := 1218) rfl dL_law_1217 rfl rfl ?_
  obtain ⟨_, e1, hf⟩ := bd_ex hf
  obtain ⟨v2, h1, eh1, hf⟩ := bd2_ex hf
  refine V.callV (q := 1221) (ci := 11) (vs := []) (st := []) (S2 := [.int v2]) okX11_steady imX11_steady seX11_steady rfl lkL_149 (tX11_steady eh1) rfl (ck_is e1) (by decide) rfl (Nat.le_of_ble_eq_true rfl) (Nat.le_of_ble_eq_true rfl) rfl dL_law_1218 rfl rfl ?_
  refine V.aload_n (q := 1222) rfl dL_law_1221 rfl rfl ?_
  obtain ⟨_, e3, hf⟩ := bd_ex hf
  obtain ⟨v4, h2, eh2, hf⟩ := bd2_ex hf
  refine V.callV (q := 1225) (ci := 13) (vs := []) (st := [.int v2]) (S2 := [.int v4, .int v2]) okX13_steady imX13_steady seX13_steady rfl lkL_152 (tX13_steady eh2) rfl (ck_is e3) (by decide) rfl (Nat.le_of_ble_eq_true rfl) (Nat.le_of_ble_eq_true rfl) rfl dL_law_1222 rfl rfl ?_
  refine V.icmp_eq (q := 1228) (tgt := 1943) dL_law_1225 rfl (by decide) (fun c => ?_) (fun c => ?_)
  · rw [if_pos c] at hf
    obtain ⟨v5, ev5, hf⟩ := bd_ex hf
    refine V.iinc (q := 1946) (v := v5) (L' := [.retAddr 1000, .ref a1, .ref a2, .ref a3, .int v5, Jk, Jk]) dL_law_1943 rfl rfl (Option.some.inj ev5) (by decide) rfl rfl ?_
    refine V.goto (q := 23) dL_law_1946 (by decide) ?_
    exact hk23 _ _ _ _ _ hf
  · rw [if_neg c] at hf
    refine V.iconst (q := 1229) (v := 0) (by decide) dL_law_1228 rfl ?_
    obtain ⟨rfl, rfl⟩ := ret_inj hf
    exact V.ret (r := some (.int 0)) (Or.inl rfl) dL_law_1229
def bL_law_1204 (Ls : Nat) (xs : Nat → Int32) (k23 : MH → Nat → Nat → Nat → Int32 → Option (Int32 × MH)) (h : MH) (a1 : Nat) (a2 : Nat) (a3 : Nat) (x4 : Int32) : Option (Int32 × MH) := bd (ck h a1 11) fun _ => bd2 (fX11_settled h a1 ) fun v2 h1 => bd (ck h1 a2 13) fun _ => bd2 (fX13_settled h1 a2 ) fun v4 h2 => if v2 = v4 then (bd (some (x4 + 6)) fun v5 => k23 h2 a1 a2 a3 v5) else (some (0, h2))
set_option maxRecDepth 20000 in
theorem tL_law_1204 {Ls : Nat} {xs : Nat → Int32} {r : Int32} {h' : MH} (k23 : MH → Nat → Nat → Nat → Int32 → Option (Int32 × MH)) (hk23 : ∀ (h : MH) (a1 : Nat) (a2 : Nat) (a3 : Nat) (x4 : Int32), k23 h a1 a2 a3 x4 = some (r, h') → V (PL Ls xs) mL_law 18 (some (.int r)) h' h 23 [.retAddr 1000, .ref a1, .ref a2, .ref a3, .int x4, Jk, Jk] [])  {h : MH} {a1 : Nat} {a2 : Nat} {a3 : Nat} {x4 : Int32} (hf : bL_law_1204 Ls xs k23 h a1 a2 a3 x4 = some (r, h')) : V (PL Ls xs) mL_law 18 (some (.int r)) h' h 1204 [.retAddr 1000, .ref a1, .ref a2, .ref a3, .int x4, Jk, Jk] [] := by
  unfold bL_law_1204 at hf
  refine V.aload_n (q := 1205) rfl dL_law_1204 rfl rfl ?_
  obtain ⟨_, e1, hf⟩ := bd_ex hf
  obtain ⟨v2, h1, eh1, hf⟩ := bd2_ex hf
  refine V.callV (q := 1208) (ci := 11) (vs := []) (st := []) (S2 := [.int v2]) okX11_settled imX11_settled seX11_settled rfl lkL_145 (tX11_settled eh1) rfl (ck_is e1) (by decide) rfl (Nat.le_of_ble_eq_true rfl) (Nat.le_of_ble_eq_true rfl) rfl dL_law_1205 rfl rfl ?_
  refine V.aload_n (q := 1209) rfl dL_law_1208 rfl rfl ?_
  obtain ⟨_, e3, hf⟩ := bd_ex hf
  obtain ⟨v4, h2, eh2, hf⟩ := bd2_ex hf
  refine V.callV (q := 1212) (ci := 13) (vs := []) (st := [.int v2]) (S2 := [.int v4, .int v2]) okX13_settled imX13_settled seX13_settled rfl lkL_148 (tX13_settled eh2) rfl (ck_is e3) (by decide) rfl (Nat.le_of_ble_eq_true rfl) (Nat.le_of_ble_eq_true rfl) rfl dL_law_1209 rfl rfl ?_
  refine V.icmp_eq (q := 1215) (tgt := 1943) dL_law_1212 rfl (by decide) (fun c => ?_) (fun c => ?_)
  · rw [if_pos c] at hf
    obtain ⟨v5, ev5, hf⟩ := bd_ex hf
    refine V.iinc (q := 1946) (v := v5) (L' := [.retAddr 1000, .ref a1, .ref a2, .ref a3, .int v5, Jk, Jk]) dL_law_1943 rfl rfl (Option.some.inj ev5) (by decide) rfl rfl ?_
    refine V.goto (q := 23) dL_law_1946 (by decide) ?_
    exact hk23 _ _ _ _ _ hf
  · rw [if_neg c] at hf
    refine V.iconst (q := 1216) (v := 0) (by decide) dL_law_1215 rfl ?_
    obtain ⟨rfl, rfl⟩ := ret_inj hf
    exact V.ret (r := some (.int 0)) (Or.inl rfl) dL_law_1216
def bL_law_1179 (Ls : Nat) (xs : Nat → Int32) (k23 : MH → Nat → Nat → Nat → Int32 → Option (Int32 × MH)) (h : MH) (a1 : Nat) (a2 : Nat) (a3 : Nat) (x4 : Int32) : Option (Int32 × MH) := bd (sld Ls xs (x4 + 1)) fun v1 => bd (ck h a1 11) fun _ => bd2 (fX11_good h a1 v1) fun v3 h1 => bd (sld Ls xs (x4 + 1)) fun v4 => bd (ck h1 a2 13) fun _ => bd2 (fX13_good h1 a2 v4) fun v6 h2 => if v3 = v6 then (bd (some (x4 + 6)) fun v7 => k23 h2 a1 a2 a3 v7) else (some (0, h2))
set_option maxRecDepth 20000 in
theorem tL_law_1179 {Ls : Nat} {xs : Nat → Int32} {r : Int32} {h' : MH} (k23 : MH → Nat → Nat → Nat → Int32 → Option (Int32 × MH)) (hk23 : ∀ (h : MH) (a1 : Nat) (a2 : Nat) (a3 : Nat) (x4 : Int32), k23 h a1 a2 a3 x4 = some (r, h') → V (PL Ls xs) mL_law 18 (some (.int r)) h' h 23 [.retAddr 1000, .ref a1, .ref a2, .ref a3, .int x4, Jk, Jk] [])  {h : MH} {a1 : Nat} {a2 : Nat} {a3 : Nat} {x4 : Int32} (hf : bL_law_1179 Ls xs k23 h a1 a2 a3 x4 = some (r, h')) : V (PL Ls xs) mL_law 18 (some (.int r)) h' h 1179 [.retAddr 1000, .ref a1, .ref a2, .ref a3, .int x4, Jk, Jk] [] := by
  unfold bL_law_1179 at hf
  refine V.aload_n (q := 1180) rfl dL_law_1179 rfl rfl ?_
  refine V.aloadT_n (q := 1181) rfl (by decide) tk_1000 dL_law_1180 rfl rfl ?_
  refine V.iload (q := 1183) dL_law_1181 rfl rfl ?_
  refine V.iconst (q := 1184) (v := 1) (by decide) dL_law_1183 rfl ?_
  refine V.iadd (q := 1185) dL_law_1184 rfl ?_
  obtain ⟨v1, ev1, hf⟩ := bd_ex hf
  refine V.sld (q := 1186) PL_sc ev1 dL_law_1185 rfl ?_
  obtain ⟨_, e2, hf⟩ := bd_ex hf
  obtain ⟨v3, h1, eh1, hf⟩ := bd2_ex hf
  refine V.callV (q := 1189) (ci := 11) (vs := [.int v1]) (st := []) (S2 := [.int v3]) okX11_good imX11_good seX11_good rfl lkL_141 (tX11_good eh1) rfl (ck_is e2) (by decide) rfl (Nat.le_of_ble_eq_true rfl) (Nat.le_of_ble_eq_true rfl) rfl dL_law_1186 rfl rfl ?_
  refine V.aload_n (q := 1190) rfl dL_law_1189 rfl rfl ?_
  refine V.aloadT_n (q := 1191) rfl (by decide) tk_1000 dL_law_1190 rfl rfl ?_
  refine V.iload (q := 1193) dL_law_1191 rfl rfl ?_
  refine V.iconst (q := 1194) (v := 1) (by decide) dL_law_1193 rfl ?_
  refine V.iadd (q := 1195) dL_law_1194 rfl ?_
  obtain ⟨v4, ev4, hf⟩ := bd_ex hf
  refine V.sld (q := 1196) PL_sc ev4 dL_law_1195 rfl ?_
  obtain ⟨_, e5, hf⟩ := bd_ex hf
  obtain ⟨v6, h2, eh2, hf⟩ := bd2_ex hf
  refine V.callV (q := 1199) (ci := 13) (vs := [.int v4]) (st := [.int v3]) (S2 := [.int v6, .int v3]) okX13_good imX13_good seX13_good rfl lkL_144 (tX13_good eh2) rfl (ck_is e5) (by decide) rfl (Nat.le_of_ble_eq_true rfl) (Nat.le_of_ble_eq_true rfl) rfl dL_law_1196 rfl rfl ?_
  refine V.icmp_eq (q := 1202) (tgt := 1943) dL_law_1199 rfl (by decide) (fun c => ?_) (fun c => ?_)
  · rw [if_pos c] at hf
    obtain ⟨v7, ev7, hf⟩ := bd_ex hf
    refine V.iinc (q := 1946) (v := v7) (L' := [.retAddr 1000, .ref a1, .ref a2, .ref a3, .int v7, Jk, Jk]) dL_law_1943 rfl rfl (Option.some.inj ev7) (by decide) rfl rfl ?_
    refine V.goto (q := 23) dL_law_1946 (by decide) ?_
    exact hk23 _ _ _ _ _ hf
  · rw [if_neg c] at hf
    refine V.iconst (q := 1203) (v := 0) (by decide) dL_law_1202 rfl ?_
    obtain ⟨rfl, rfl⟩ := ret_inj hf
    exact V.ret (r := some (.int 0)) (Or.inl rfl) dL_law_1203
def bL_law_1142 (Ls : Nat) (xs : Nat → Int32) (k23 : MH → Nat → Nat → Nat → Int32 → Option (Int32 × MH)) (h : MH) (a1 : Nat) (a2 : Nat) (a3 : Nat) (x4 : Int32) : Option (Int32 × MH) := bd (sld Ls xs (x4 + 1)) fun v1 => bd (sld Ls xs (x4 + 2)) fun v2 => bd (ck h a1 11) fun _ => bd2 (fX11_judges h a1 v1 v2) fun v4 h1 => bd (sld Ls xs (x4 + 1)) fun v5 => bd (sld Ls xs (x4 + 2)) fun v6 => bd (ck h1 a2 13) fun _ => bd2 (fX13_judges h1 a2 v5 v6) fun v8 h2 => if v4 = v8 then (bd (some (x4 + 6)) fun v9 => k23 h2 a1 a2 a3 v9) else (some (0, h2))
set_option maxRecDepth 20000 in
theorem tL_law_1142 {Ls : Nat} {xs : Nat → Int32} {r : Int32} {h' : MH} (k23 : MH → Nat → Nat → Nat → Int32 → Option (Int32 × MH)) (hk23 : ∀ (h : MH) (a1 : Nat) (a2 : Nat) (a3 : Nat) (x4 : Int32), k23 h a1 a2 a3 x4 = some (r, h') → V (PL Ls xs) mL_law 18 (some (.int r)) h' h 23 [.retAddr 1000, .ref a1, .ref a2, .ref a3, .int x4, Jk, Jk] [])  {h : MH} {a1 : Nat} {a2 : Nat} {a3 : Nat} {x4 : Int32} (hf : bL_law_1142 Ls xs k23 h a1 a2 a3 x4 = some (r, h')) : V (PL Ls xs) mL_law 18 (some (.int r)) h' h 1142 [.retAddr 1000, .ref a1, .ref a2, .ref a3, .int x4, Jk, Jk] [] := by
  unfold bL_law_1142 at hf
  refine V.aload_n (q := 1143) rfl dL_law_1142 rfl rfl ?_
  refine V.aloadT_n (q := 1144) rfl (by decide) tk_1000 dL_law_1143 rfl rfl ?_
  refine V.iload (q := 1146) dL_law_1144 rfl rfl ?_
  refine V.iconst (q := 1147) (v := 1) (by decide) dL_law_1146 rfl ?_
  refine V.iadd (q := 1148) dL_law_1147 rfl ?_
  obtain ⟨v1, ev1, hf⟩ := bd_ex hf
  refine V.sld (q := 1149) PL_sc ev1 dL_law_1148 rfl ?_
  refine V.aloadT_n (q := 1150) rfl (by decide) tk_1000 dL_law_1149 rfl rfl ?_
  refine V.iload (q := 1152) dL_law_1150 rfl rfl ?_
  refine V.iconst (q := 1153) (v := 2) (by decide) dL_law_1152 rfl ?_
  refine V.iadd (q := 1154) dL_law_1153 rfl ?_
  obtain ⟨v2, ev2, hf⟩ := bd_ex hf
  refine V.sld (q := 1155) PL_sc ev2 dL_law_1154 rfl ?_
  obtain ⟨_, e3, hf⟩ := bd_ex hf
  obtain ⟨v4, h1, eh1, hf⟩ := bd2_ex hf
  refine V.callV (q := 1158) (ci := 11) (vs := [.int v1, .int v2]) (st := []) (S2 := [.int v4]) okX11_judges imX11_judges seX11_judges rfl lkL_137 (tX11_judges eh1) rfl (ck_is e3) (by decide) rfl (Nat.le_of_ble_eq_true rfl) (Nat.le_of_ble_eq_true rfl) rfl dL_law_1155 rfl rfl ?_
  refine V.aload_n (q := 1159) rfl dL_law_1158 rfl rfl ?_
  refine V.aloadT_n (q := 1160) rfl (by decide) tk_1000 dL_law_1159 rfl rfl ?_
  refine V.iload (q := 1162) dL_law_1160 rfl rfl ?_
  refine V.iconst (q := 1163) (v := 1) (by decide) dL_law_1162 rfl ?_
  refine V.iadd (q := 1164) dL_law_1163 rfl ?_
  obtain ⟨v5, ev5, hf⟩ := bd_ex hf
  refine V.sld (q := 1165) PL_sc ev5 dL_law_1164 rfl ?_
  refine V.aloadT_n (q := 1166) rfl (by decide) tk_1000 dL_law_1165 rfl rfl ?_
  refine V.iload (q := 1168) dL_law_1166 rfl rfl ?_
  refine V.iconst (q := 1169) (v := 2) (by decide) dL_law_1168 rfl ?_
  refine V.iadd (q := 1170) dL_law_1169 rfl ?_
  obtain ⟨v6, ev6, hf⟩ := bd_ex hf
  refine V.sld (q := 1171) PL_sc ev6 dL_law_1170 rfl ?_
  obtain ⟨_, e7, hf⟩ := bd_ex hf
  obtain ⟨v8, h2, eh2, hf⟩ := bd2_ex hf
  refine V.callV (q := 1174) (ci := 13) (vs := [.int v5, .int v6]) (st := [.int v4]) (S2 := [.int v8, .int v4]) okX13_judges imX13_judges seX13_judges rfl lkL_140 (tX13_judges eh2) rfl (ck_is e7) (by decide) rfl (Nat.le_of_ble_eq_true rfl) (Nat.le_of_ble_eq_true rfl) rfl dL_law_1171 rfl rfl ?_
  refine V.icmp_eq (q := 1177) (tgt := 1943) dL_law_1174 rfl (by decide) (fun c => ?_) (fun c => ?_)
  · rw [if_pos c] at hf
    obtain ⟨v9, ev9, hf⟩ := bd_ex hf
    refine V.iinc (q := 1946) (v := v9) (L' := [.retAddr 1000, .ref a1, .ref a2, .ref a3, .int v9, Jk, Jk]) dL_law_1943 rfl rfl (Option.some.inj ev9) (by decide) rfl rfl ?_
    refine V.goto (q := 23) dL_law_1946 (by decide) ?_
    exact hk23 _ _ _ _ _ hf
  · rw [if_neg c] at hf
    refine V.iconst (q := 1178) (v := 0) (by decide) dL_law_1177 rfl ?_
    obtain ⟨rfl, rfl⟩ := ret_inj hf
    exact V.ret (r := some (.int 0)) (Or.inl rfl) dL_law_1178
def bL_law_1129 (Ls : Nat) (xs : Nat → Int32) (k23 : MH → Nat → Nat → Nat → Int32 → Option (Int32 × MH)) (h : MH) (a1 : Nat) (a2 : Nat) (a3 : Nat) (x4 : Int32) : Option (Int32 × MH) := bd (ck h a1 11) fun _ => bd2 (fX11_tryLeaves h a1 ) fun v2 h1 => bd (ck h1 a2 13) fun _ => bd2 (fX13_tryLeaves h1 a2 ) fun v4 h2 => if v2 = v4 then (bd (some (x4 + 6)) fun v5 => k23 h2 a1 a2 a3 v5) else (some (0, h2))
set_option maxRecDepth 20000 in
theorem tL_law_1129 {Ls : Nat} {xs : Nat → Int32} {r : Int32} {h' : MH} (k23 : MH → Nat → Nat → Nat → Int32 → Option (Int32 × MH)) (hk23 : ∀ (h : MH) (a1 : Nat) (a2 : Nat) (a3 : Nat) (x4 : Int32), k23 h a1 a2 a3 x4 = some (r, h') → V (PL Ls xs) mL_law 18 (some (.int r)) h' h 23 [.retAddr 1000, .ref a1, .ref a2, .ref a3, .int x4, Jk, Jk] [])  {h : MH} {a1 : Nat} {a2 : Nat} {a3 : Nat} {x4 : Int32} (hf : bL_law_1129 Ls xs k23 h a1 a2 a3 x4 = some (r, h')) : V (PL Ls xs) mL_law 18 (some (.int r)) h' h 1129 [.retAddr 1000, .ref a1, .ref a2, .ref a3, .int x4, Jk, Jk] [] := by
  unfold bL_law_1129 at hf
  refine V.aload_n (q := 1130) rfl dL_law_1129 rfl rfl ?_
  obtain ⟨_, e1, hf⟩ := bd_ex hf
  obtain ⟨v2, h1, eh1, hf⟩ := bd2_ex hf
  refine V.callV (q := 1133) (ci := 11) (vs := []) (st := []) (S2 := [.int v2]) okX11_tryLeaves imX11_tryLeaves seX11_tryLeaves rfl lkL_133 (tX11_tryLeaves eh1) rfl (ck_is e1) (by decide) rfl (Nat.le_of_ble_eq_true rfl) (Nat.le_of_ble_eq_true rfl) rfl dL_law_1130 rfl rfl ?_
  refine V.aload_n (q := 1134) rfl dL_law_1133 rfl rfl ?_
  obtain ⟨_, e3, hf⟩ := bd_ex hf
  obtain ⟨v4, h2, eh2, hf⟩ := bd2_ex hf
  refine V.callV (q := 1137) (ci := 13) (vs := []) (st := [.int v2]) (S2 := [.int v4, .int v2]) okX13_tryLeaves imX13_tryLeaves seX13_tryLeaves rfl lkL_136 (tX13_tryLeaves eh2) rfl (ck_is e3) (by decide) rfl (Nat.le_of_ble_eq_true rfl) (Nat.le_of_ble_eq_true rfl) rfl dL_law_1134 rfl rfl ?_
  refine V.icmp_eq (q := 1140) (tgt := 1943) dL_law_1137 rfl (by decide) (fun c => ?_) (fun c => ?_)
  · rw [if_pos c] at hf
    obtain ⟨v5, ev5, hf⟩ := bd_ex hf
    refine V.iinc (q := 1946) (v := v5) (L' := [.retAddr 1000, .ref a1, .ref a2, .ref a3, .int v5, Jk, Jk]) dL_law_1943 rfl rfl (Option.some.inj ev5) (by decide) rfl rfl ?_
    refine V.goto (q := 23) dL_law_1946 (by decide) ?_
    exact hk23 _ _ _ _ _ hf
  · rw [if_neg c] at hf
    refine V.iconst (q := 1141) (v := 0) (by decide) dL_law_1140 rfl ?_
    obtain ⟨rfl, rfl⟩ := ret_inj hf
    exact V.ret (r := some (.int 0)) (Or.inl rfl) dL_law_1141
def bL_law_1116 (Ls : Nat) (xs : Nat → Int32) (k23 : MH → Nat → Nat → Nat → Int32 → Option (Int32 × MH)) (h : MH) (a1 : Nat) (a2 : Nat) (a3 : Nat) (x4 : Int32) : Option (Int32 × MH) := bd (ck h a1 11) fun _ => bd2 (fX11_tryNext h a1 ) fun v2 h1 => bd (ck h1 a2 13) fun _ => bd2 (fX13_tryNext h1 a2 ) fun v4 h2 => if v2 = v4 then (bd (some (x4 + 6)) fun v5 => k23 h2 a1 a2 a3 v5) else (some (0, h2))
set_option maxRecDepth 20000 in
theorem tL_law_1116 {Ls : Nat} {xs : Nat → Int32} {r : Int32} {h' : MH} (k23 : MH → Nat → Nat → Nat → Int32 → Option (Int32 × MH)) (hk23 : ∀ (h : MH) (a1 : Nat) (a2 : Nat) (a3 : Nat) (x4 : Int32), k23 h a1 a2 a3 x4 = some (r, h') → V (PL Ls xs) mL_law 18 (some (.int r)) h' h 23 [.retAddr 1000, .ref a1, .ref a2, .ref a3, .int x4, Jk, Jk] [])  {h : MH} {a1 : Nat} {a2 : Nat} {a3 : Nat} {x4 : Int32} (hf : bL_law_1116 Ls xs k23 h a1 a2 a3 x4 = some (r, h')) : V (PL Ls xs) mL_law 18 (some (.int r)) h' h 1116 [.retAddr 1000, .ref a1, .ref a2, .ref a3, .int x4, Jk, Jk] [] := by
  unfold bL_law_1116 at hf
  refine V.aload_n (q := 1117) rfl dL_law_1116 rfl rfl ?_
  obtain ⟨_, e1, hf⟩ := bd_ex hf
  obtain ⟨v2, h1, eh1, hf⟩ := bd2_ex hf
  refine V.callV (q := 1120) (ci := 11) (vs := []) (st := []) (S2 := [.int v2]) okX11_tryNext imX11_tryNext seX11_tryNext rfl lkL_129 (tX11_tryNext eh1) rfl (ck_is e1) (by decide) rfl (Nat.le_of_ble_eq_true rfl) (Nat.le_of_ble_eq_true rfl) rfl dL_law_1117 rfl rfl ?_
  refine V.aload_n (q := 1121) rfl dL_law_1120 rfl rfl ?_
  obtain ⟨_, e3, hf⟩ := bd_ex hf
  obtain ⟨v4, h2, eh2, hf⟩ := bd2_ex hf
  refine V.callV (q := 1124) (ci := 13) (vs := []) (st := [.int v2]) (S2 := [.int v4, .int v2]) okX13_tryNext imX13_tryNext seX13_tryNext rfl lkL_132 (tX13_tryNext eh2) rfl (ck_is e3) (by decide) rfl (Nat.le_of_ble_eq_true rfl) (Nat.le_of_ble_eq_true rfl) rfl dL_law_1121 rfl rfl ?_
  refine V.icmp_eq (q := 1127) (tgt := 1943) dL_law_1124 rfl (by decide) (fun c => ?_) (fun c => ?_)
  · rw [if_pos c] at hf
    obtain ⟨v5, ev5, hf⟩ := bd_ex hf
    refine V.iinc (q := 1946) (v := v5) (L' := [.retAddr 1000, .ref a1, .ref a2, .ref a3, .int v5, Jk, Jk]) dL_law_1943 rfl rfl (Option.some.inj ev5) (by decide) rfl rfl ?_
    refine V.goto (q := 23) dL_law_1946 (by decide) ?_
    exact hk23 _ _ _ _ _ hf
  · rw [if_neg c] at hf
    refine V.iconst (q := 1128) (v := 0) (by decide) dL_law_1127 rfl ?_
    obtain ⟨rfl, rfl⟩ := ret_inj hf
    exact V.ret (r := some (.int 0)) (Or.inl rfl) dL_law_1128
def bL_law_1091 (Ls : Nat) (xs : Nat → Int32) (k23 : MH → Nat → Nat → Nat → Int32 → Option (Int32 × MH)) (h : MH) (a1 : Nat) (a2 : Nat) (a3 : Nat) (x4 : Int32) : Option (Int32 × MH) := bd (sld Ls xs (x4 + 1)) fun v1 => bd (ck h a1 11) fun _ => bd2 (fX11_lawSays h a1 v1) fun v3 h1 => bd (sld Ls xs (x4 + 1)) fun v4 => bd (ck h1 a2 13) fun _ => bd2 (fX13_lawSays h1 a2 v4) fun v6 h2 => if v3 = v6 then (bd (some (x4 + 6)) fun v7 => k23 h2 a1 a2 a3 v7) else (some (0, h2))
set_option maxRecDepth 20000 in
theorem tL_law_1091 {Ls : Nat} {xs : Nat → Int32} {r : Int32} {h' : MH} (k23 : MH → Nat → Nat → Nat → Int32 → Option (Int32 × MH)) (hk23 : ∀ (h : MH) (a1 : Nat) (a2 : Nat) (a3 : Nat) (x4 : Int32), k23 h a1 a2 a3 x4 = some (r, h') → V (PL Ls xs) mL_law 18 (some (.int r)) h' h 23 [.retAddr 1000, .ref a1, .ref a2, .ref a3, .int x4, Jk, Jk] [])  {h : MH} {a1 : Nat} {a2 : Nat} {a3 : Nat} {x4 : Int32} (hf : bL_law_1091 Ls xs k23 h a1 a2 a3 x4 = some (r, h')) : V (PL Ls xs) mL_law 18 (some (.int r)) h' h 1091 [.retAddr 1000, .ref a1, .ref a2, .ref a3, .int x4, Jk, Jk] [] := by
  unfold bL_law_1091 at hf
  refine V.aload_n (q := 1092) rfl dL_law_1091 rfl rfl ?_
  refine V.aloadT_n (q := 1093) rfl (by decide) tk_1000 dL_law_1092 rfl rfl ?_
  refine V.iload (q := 1095) dL_law_1093 rfl rfl ?_
  refine V.iconst (q := 1096) (v := 1) (by decide) dL_law_1095 rfl ?_
  refine V.iadd (q := 1097) dL_law_1096 rfl ?_
  obtain ⟨v1, ev1, hf⟩ := bd_ex hf
  refine V.sld (q := 1098) PL_sc ev1 dL_law_1097 rfl ?_
  obtain ⟨_, e2, hf⟩ := bd_ex hf
  obtain ⟨v3, h1, eh1, hf⟩ := bd2_ex hf
  refine V.callV (q := 1101) (ci := 11) (vs := [.int v1]) (st := []) (S2 := [.int v3]) okX11_lawSays imX11_lawSays seX11_lawSays rfl lkL_125 (tX11_lawSays eh1) rfl (ck_is e2) (by decide) rfl (Nat.le_of_ble_eq_true rfl) (Nat.le_of_ble_eq_true rfl) rfl dL_law_1098 rfl rfl ?_
  refine V.aload_n (q := 1102) rfl dL_law_1101 rfl rfl ?_
  refine V.aloadT_n (q := 1103) rfl (by decide) tk_1000 dL_law_1102 rfl rfl ?_
  refine V.iload (q := 1105) dL_law_1103 rfl rfl ?_
  refine V.iconst (q := 1106) (v := 1) (by decide) dL_law_1105 rfl ?_
  refine V.iadd (q := 1107) dL_law_1106 rfl ?_
  obtain ⟨v4, ev4, hf⟩ := bd_ex hf
  refine V.sld (q := 1108) PL_sc ev4 dL_law_1107 rfl ?_
  obtain ⟨_, e5, hf⟩ := bd_ex hf
  obtain ⟨v6, h2, eh2, hf⟩ := bd2_ex hf
  refine V.callV (q := 1111) (ci := 13) (vs := [.int v4]) (st := [.int v3]) (S2 := [.int v6, .int v3]) okX13_lawSays imX13_lawSays seX13_lawSays rfl lkL_128 (tX13_lawSays eh2) rfl (ck_is e5) (by decide) rfl (Nat.le_of_ble_eq_true rfl) (Nat.le_of_ble_eq_true rfl) rfl dL_law_1108 rfl rfl ?_
  refine V.icmp_eq (q := 1114) (tgt := 1943) dL_law_1111 rfl (by decide) (fun c => ?_) (fun c => ?_)
  · rw [if_pos c] at hf
    obtain ⟨v7, ev7, hf⟩ := bd_ex hf
    refine V.iinc (q := 1946) (v := v7) (L' := [.retAddr 1000, .ref a1, .ref a2, .ref a3, .int v7, Jk, Jk]) dL_law_1943 rfl rfl (Option.some.inj ev7) (by decide) rfl rfl ?_
    refine V.goto (q := 23) dL_law_1946 (by decide) ?_
    exact hk23 _ _ _ _ _ hf
  · rw [if_neg c] at hf
    refine V.iconst (q := 1115) (v := 0) (by decide) dL_law_1114 rfl ?_
    obtain ⟨rfl, rfl⟩ := ret_inj hf
    exact V.ret (r := some (.int 0)) (Or.inl rfl) dL_law_1115
def bL_law_1078 (Ls : Nat) (xs : Nat → Int32) (k23 : MH → Nat → Nat → Nat → Int32 → Option (Int32 × MH)) (h : MH) (a1 : Nat) (a2 : Nat) (a3 : Nat) (x4 : Int32) : Option (Int32 × MH) := bd (ck h a1 11) fun _ => bd2 (fX11_laws h a1 ) fun v2 h1 => bd (ck h1 a2 13) fun _ => bd2 (fX13_laws h1 a2 ) fun v4 h2 => if v2 = v4 then (bd (some (x4 + 6)) fun v5 => k23 h2 a1 a2 a3 v5) else (some (0, h2))
set_option maxRecDepth 20000 in
theorem tL_law_1078 {Ls : Nat} {xs : Nat → Int32} {r : Int32} {h' : MH} (k23 : MH → Nat → Nat → Nat → Int32 → Option (Int32 × MH)) (hk23 : ∀ (h : MH) (a1 : Nat) (a2 : Nat) (a3 : Nat) (x4 : Int32), k23 h a1 a2 a3 x4 = some (r, h') → V (PL Ls xs) mL_law 18 (some (.int r)) h' h 23 [.retAddr 1000, .ref a1, .ref a2, .ref a3, .int x4, Jk, Jk] [])  {h : MH} {a1 : Nat} {a2 : Nat} {a3 : Nat} {x4 : Int32} (hf : bL_law_1078 Ls xs k23 h a1 a2 a3 x4 = some (r, h')) : V (PL Ls xs) mL_law 18 (some (.int r)) h' h 1078 [.retAddr 1000, .ref a1, .ref a2, .ref a3, .int x4, Jk, Jk] [] := by
  unfold bL_law_1078 at hf
  refine V.aload_n (q := 1079) rfl dL_law_1078 rfl rfl ?_
  obtain ⟨_, e1, hf⟩ := bd_ex hf
  obtain ⟨v2, h1, eh1, hf⟩ := bd2_ex hf
  refine V.callV (q := 1082) (ci := 11) (vs := []) (st := []) (S2 := [.int v2]) okX11_laws imX11_laws seX11_laws rfl lkL_121 (tX11_laws eh1) rfl (ck_is e1) (by decide) rfl (Nat.le_of_ble_eq_true rfl) (Nat.le_of_ble_eq_true rfl) rfl dL_law_1079 rfl rfl ?_
  refine V.aload_n (q := 1083) rfl dL_law_1082 rfl rfl ?_
  obtain ⟨_, e3, hf⟩ := bd_ex hf
  obtain ⟨v4, h2, eh2, hf⟩ := bd2_ex hf
  refine V.callV (q := 1086) (ci := 13) (vs := []) (st := [.int v2]) (S2 := [.int v4, .int v2]) okX13_laws imX13_laws seX13_laws rfl lkL_124 (tX13_laws eh2) rfl (ck_is e3) (by decide) rfl (Nat.le_of_ble_eq_true rfl) (Nat.le_of_ble_eq_true rfl) rfl dL_law_1083 rfl rfl ?_
  refine V.icmp_eq (q := 1089) (tgt := 1943) dL_law_1086 rfl (by decide) (fun c => ?_) (fun c => ?_)
  · rw [if_pos c] at hf
    obtain ⟨v5, ev5, hf⟩ := bd_ex hf
    refine V.iinc (q := 1946) (v := v5) (L' := [.retAddr 1000, .ref a1, .ref a2, .ref a3, .int v5, Jk, Jk]) dL_law_1943 rfl rfl (Option.some.inj ev5) (by decide) rfl rfl ?_
    refine V.goto (q := 23) dL_law_1946 (by decide) ?_
    exact hk23 _ _ _ _ _ hf
  · rw [if_neg c] at hf
    refine V.iconst (q := 1090) (v := 0) (by decide) dL_law_1089 rfl ?_
    obtain ⟨rfl, rfl⟩ := ret_inj hf
    exact V.ret (r := some (.int 0)) (Or.inl rfl) dL_law_1090
def bL_law_1069 (Ls : Nat) (xs : Nat → Int32) (k23 : MH → Nat → Nat → Nat → Int32 → Option (Int32 × MH)) (h : MH) (a1 : Nat) (a2 : Nat) (a3 : Nat) (x4 : Int32) (xs0 : Int32) (xs1 : Int32) (xs2 : Int32) (xs3 : Int32) (as4 : Nat) (ys5 : Int64) : Option (Int32 × MH) := bd (ck h as4 13) fun _ => bd2 (fX13_next h as4 xs3 xs2 xs1 xs0) fun w2 h1 => if (lg_cmp ys5 w2) = 0 then (bd (some (x4 + 6)) fun v3 => k23 h1 a1 a2 a3 v3) else (some (0, h1))
set_option maxRecDepth 20000 in
theorem tL_law_1069 {Ls : Nat} {xs : Nat → Int32} {r : Int32} {h' : MH} (k23 : MH → Nat → Nat → Nat → Int32 → Option (Int32 × MH)) (hk23 : ∀ (h : MH) (a1 : Nat) (a2 : Nat) (a3 : Nat) (x4 : Int32), k23 h a1 a2 a3 x4 = some (r, h') → V (PL Ls xs) mL_law 18 (some (.int r)) h' h 23 [.retAddr 1000, .ref a1, .ref a2, .ref a3, .int x4, Jk, Jk] [])  {h : MH} {a1 : Nat} {a2 : Nat} {a3 : Nat} {x4 : Int32} {xs0 : Int32} {xs1 : Int32} {xs2 : Int32} {xs3 : Int32} {as4 : Nat} {ys5 : Int64} (hf : bL_law_1069 Ls xs k23 h a1 a2 a3 x4 xs0 xs1 xs2 xs3 as4 ys5 = some (r, h')) : V (PL Ls xs) mL_law 18 (some (.int r)) h' h 1069 [.retAddr 1000, .ref a1, .ref a2, .ref a3, .int x4, Jk, Jk] [.int xs0, .int xs1, .int xs2, .int xs3, .ref as4, .long ys5] := by
  unfold bL_law_1069 at hf
  obtain ⟨_, e1, hf⟩ := bd_ex hf
  obtain ⟨w2, h1, eh1, hf⟩ := bd2_ex hf
  refine V.callV (q := 1072) (ci := 13) (vs := [.int xs3, .int xs2, .int xs1, .int xs0]) (st := [.long ys5]) (S2 := [.long w2, .long ys5]) okX13_next imX13_next seX13_next rfl lkL_120 (tX13_next eh1) rfl (ck_is e1) (by decide) rfl (Nat.le_of_ble_eq_true rfl) (Nat.le_of_ble_eq_true rfl) rfl dL_law_1069 rfl rfl ?_
  refine V.lcmp (q := 1073) dL_law_1072 rfl ?_
  refine V.if_eq (q := 1076) (tgt := 1943) dL_law_1073 rfl (by decide) (fun c => ?_) (fun c => ?_)
  · rw [if_pos c] at hf
    obtain ⟨v3, ev3, hf⟩ := bd_ex hf
    refine V.iinc (q := 1946) (v := v3) (L' := [.retAddr 1000, .ref a1, .ref a2, .ref a3, .int v3, Jk, Jk]) dL_law_1943 rfl rfl (Option.some.inj ev3) (by decide) rfl rfl ?_
    refine V.goto (q := 23) dL_law_1946 (by decide) ?_
    exact hk23 _ _ _ _ _ hf
  · rw [if_neg c] at hf
    refine V.iconst (q := 1077) (v := 0) (by decide) dL_law_1076 rfl ?_
    obtain ⟨rfl, rfl⟩ := ret_inj hf
    exact V.ret (r := some (.int 0)) (Or.inl rfl) dL_law_1077
def bL_law_1033 (Ls : Nat) (xs : Nat → Int32) (k23 : MH → Nat → Nat → Nat → Int32 → Option (Int32 × MH)) (h : MH) (a1 : Nat) (a2 : Nat) (a3 : Nat) (x4 : Int32) (xs0 : Int32) (xs1 : Int32) (xs2 : Int32) (xs3 : Int32) (as4 : Nat) : Option (Int32 × MH) := bd (ck h as4 11) fun _ => bd2 (fX11_next h as4 xs3 xs2 xs1 xs0) fun w2 h1 => bd (sld Ls xs (x4 + 1)) fun v3 => bd (sld Ls xs (x4 + 2)) fun v4 => bd (sld Ls xs (x4 + 3)) fun v5 => bd (sld Ls xs (x4 + 4)) fun v6 => if v6 = 0 then (bL_law_1069 Ls xs k23 h1 a1 a2 a3 x4 0 v5 v4 v3 a2 w2) else (bL_law_1069 Ls xs k23 h1 a1 a2 a3 x4 1 v5 v4 v3 a2 w2)
set_option maxRecDepth 20000 in
theorem tL_law_1033 {Ls : Nat} {xs : Nat → Int32} {r : Int32} {h' : MH} (k23 : MH → Nat → Nat → Nat → Int32 → Option (Int32 × MH)) (hk23 : ∀ (h : MH) (a1 : Nat) (a2 : Nat) (a3 : Nat) (x4 : Int32), k23 h a1 a2 a3 x4 = some (r, h') → V (PL Ls xs) mL_law 18 (some (.int r)) h' h 23 [.retAddr 1000, .ref a1, .ref a2, .ref a3, .int x4, Jk, Jk] [])  {h : MH} {a1 : Nat} {a2 : Nat} {a3 : Nat} {x4 : Int32} {xs0 : Int32} {xs1 : Int32} {xs2 : Int32} {xs3 : Int32} {as4 : Nat} (hf : bL_law_1033 Ls xs k23 h a1 a2 a3 x4 xs0 xs1 xs2 xs3 as4 = some (r, h')) : V (PL Ls xs) mL_law 18 (some (.int r)) h' h 1033 [.retAddr 1000, .ref a1, .ref a2, .ref a3, .int x4, Jk, Jk] [.int xs0, .int xs1, .int xs2, .int xs3, .ref as4] := by
  unfold bL_law_1033 at hf
  obtain ⟨_, e1, hf⟩ := bd_ex hf
  obtain ⟨w2, h1, eh1, hf⟩ := bd2_ex hf
  refine V.callV (q := 1036) (ci := 11) (vs := [.int xs3, .int xs2, .int xs1, .int xs0]) (st := []) (S2 := [.long w2]) okX11_next imX11_next seX11_next rfl lkL_116 (tX11_next eh1) rfl (ck_is e1) (by decide) rfl (Nat.le_of_ble_eq_true rfl) (Nat.le_of_ble_eq_true rfl) rfl dL_law_1033 rfl rfl ?_
  refine V.aload_n (q := 1037) rfl dL_law_1036 rfl rfl ?_
  refine V.aloadT_n (q := 1038) rfl (by decide) tk_1000 dL_law_1037 rfl rfl ?_
  refine V.iload (q := 1040) dL_law_1038 rfl rfl ?_
  refine V.iconst (q := 1041) (v := 1) (by decide) dL_law_1040 rfl ?_
  refine V.iadd (q := 1042) dL_law_1041 rfl ?_
  obtain ⟨v3, ev3, hf⟩ := bd_ex hf
  refine V.sld (q := 1043) PL_sc ev3 dL_law_1042 rfl ?_
  refine V.aloadT_n (q := 1044) rfl (by decide) tk_1000 dL_law_1043 rfl rfl ?_
  refine V.iload (q := 1046) dL_law_1044 rfl rfl ?_
  refine V.iconst (q := 1047) (v := 2) (by decide) dL_law_1046 rfl ?_
  refine V.iadd (q := 1048) dL_law_1047 rfl ?_
  obtain ⟨v4, ev4, hf⟩ := bd_ex hf
  refine V.sld (q := 1049) PL_sc ev4 dL_law_1048 rfl ?_
  refine V.aloadT_n (q := 1050) rfl (by decide) tk_1000 dL_law_1049 rfl rfl ?_
  refine V.iload (q := 1052) dL_law_1050 rfl rfl ?_
  refine V.iconst (q := 1053) (v := 3) (by decide) dL_law_1052 rfl ?_
  refine V.iadd (q := 1054) dL_law_1053 rfl ?_
  obtain ⟨v5, ev5, hf⟩ := bd_ex hf
  refine V.sld (q := 1055) PL_sc ev5 dL_law_1054 rfl ?_
  refine V.aloadT_n (q := 1056) rfl (by decide) tk_1000 dL_law_1055 rfl rfl ?_
  refine V.iload (q := 1058) dL_law_1056 rfl rfl ?_
  refine V.iconst (q := 1059) (v := 4) (by decide) dL_law_1058 rfl ?_
  refine V.iadd (q := 1060) dL_law_1059 rfl ?_
  obtain ⟨v6, ev6, hf⟩ := bd_ex hf
  refine V.sld (q := 1061) PL_sc ev6 dL_law_1060 rfl ?_
  refine V.if_eq (q := 1064) (tgt := 1068) dL_law_1061 rfl (by decide) (fun c => ?_) (fun c => ?_)
  · rw [if_pos c] at hf
    refine V.iconst (q := 1069) (v := 0) (by decide) dL_law_1068 rfl ?_
    exact tL_law_1069 k23 hk23 hf
  · rw [if_neg c] at hf
    refine V.iconst (q := 1065) (v := 1) (by decide) dL_law_1064 rfl ?_
    refine V.goto (q := 1069) dL_law_1065 (by decide) ?_
    exact tL_law_1069 k23 hk23 hf
def bL_law_1000 (Ls : Nat) (xs : Nat → Int32) (k23 : MH → Nat → Nat → Nat → Int32 → Option (Int32 × MH)) (h : MH) (a1 : Nat) (a2 : Nat) (a3 : Nat) (x4 : Int32) : Option (Int32 × MH) := bd (sld Ls xs (x4 + 1)) fun v1 => bd (sld Ls xs (x4 + 2)) fun v2 => bd (sld Ls xs (x4 + 3)) fun v3 => bd (sld Ls xs (x4 + 4)) fun v4 => if v4 = 0 then (bL_law_1033 Ls xs k23 h a1 a2 a3 x4 0 v3 v2 v1 a1) else (bL_law_1033 Ls xs k23 h a1 a2 a3 x4 1 v3 v2 v1 a1)
set_option maxRecDepth 20000 in
theorem tL_law_1000 {Ls : Nat} {xs : Nat → Int32} {r : Int32} {h' : MH} (k23 : MH → Nat → Nat → Nat → Int32 → Option (Int32 × MH)) (hk23 : ∀ (h : MH) (a1 : Nat) (a2 : Nat) (a3 : Nat) (x4 : Int32), k23 h a1 a2 a3 x4 = some (r, h') → V (PL Ls xs) mL_law 18 (some (.int r)) h' h 23 [.retAddr 1000, .ref a1, .ref a2, .ref a3, .int x4, Jk, Jk] [])  {h : MH} {a1 : Nat} {a2 : Nat} {a3 : Nat} {x4 : Int32} (hf : bL_law_1000 Ls xs k23 h a1 a2 a3 x4 = some (r, h')) : V (PL Ls xs) mL_law 18 (some (.int r)) h' h 1000 [.retAddr 1000, .ref a1, .ref a2, .ref a3, .int x4, Jk, Jk] [] := by
  unfold bL_law_1000 at hf
  refine V.aload_n (q := 1001) rfl dL_law_1000 rfl rfl ?_
  refine V.aloadT_n (q := 1002) rfl (by decide) tk_1000 dL_law_1001 rfl rfl ?_
  refine V.iload (q := 1004) dL_law_1002 rfl rfl ?_
  refine V.iconst (q := 1005) (v := 1) (by decide) dL_law_1004 rfl ?_
  refine V.iadd (q := 1006) dL_law_1005 rfl ?_
  obtain ⟨v1, ev1, hf⟩ := bd_ex hf
  refine V.sld (q := 1007) PL_sc ev1 dL_law_1006 rfl ?_
  refine V.aloadT_n (q := 1008) rfl (by decide) tk_1000 dL_law_1007 rfl rfl ?_
  refine V.iload (q := 1010) dL_law_1008 rfl rfl ?_
  refine V.iconst (q := 1011) (v := 2) (by decide) dL_law_1010 rfl ?_
  refine V.iadd (q := 1012) dL_law_1011 rfl ?_
  obtain ⟨v2, ev2, hf⟩ := bd_ex hf
  refine V.sld (q := 1013) PL_sc ev2 dL_law_1012 rfl ?_
  refine V.aloadT_n (q := 1014) rfl (by decide) tk_1000 dL_law_1013 rfl rfl ?_
  refine V.iload (q := 1016) dL_law_1014 rfl rfl ?_
  refine V.iconst (q := 1017) (v := 3) (by decide) dL_law_1016 rfl ?_
  refine V.iadd (q := 1018) dL_law_1017 rfl ?_
  obtain ⟨v3, ev3, hf⟩ := bd_ex hf
  refine V.sld (q := 1019) PL_sc ev3 dL_law_1018 rfl ?_
  refine V.aloadT_n (q := 1020) rfl (by decide) tk_1000 dL_law_1019 rfl rfl ?_
  refine V.iload (q := 1022) dL_law_1020 rfl rfl ?_
  refine V.iconst (q := 1023) (v := 4) (by decide) dL_law_1022 rfl ?_
  refine V.iadd (q := 1024) dL_law_1023 rfl ?_
  obtain ⟨v4, ev4, hf⟩ := bd_ex hf
  refine V.sld (q := 1025) PL_sc ev4 dL_law_1024 rfl ?_
  refine V.if_eq (q := 1028) (tgt := 1032) dL_law_1025 rfl (by decide) (fun c => ?_) (fun c => ?_)
  · rw [if_pos c] at hf
    refine V.iconst (q := 1033) (v := 0) (by decide) dL_law_1032 rfl ?_
    exact tL_law_1033 k23 hk23 hf
  · rw [if_neg c] at hf
    refine V.iconst (q := 1029) (v := 1) (by decide) dL_law_1028 rfl ?_
    refine V.goto (q := 1033) dL_law_1029 (by decide) ?_
    exact tL_law_1033 k23 hk23 hf
def bL_law_987 (Ls : Nat) (xs : Nat → Int32) (k23 : MH → Nat → Nat → Nat → Int32 → Option (Int32 × MH)) (h : MH) (a1 : Nat) (a2 : Nat) (a3 : Nat) (x4 : Int32) : Option (Int32 × MH) := bd (ck h a1 11) fun _ => bd2 (fX11_likeliest h a1 ) fun v2 h1 => bd (ck h1 a2 13) fun _ => bd2 (fX13_likeliest h1 a2 ) fun v4 h2 => if v2 = v4 then (bd (some (x4 + 6)) fun v5 => k23 h2 a1 a2 a3 v5) else (some (0, h2))
set_option maxRecDepth 20000 in
theorem tL_law_987 {Ls : Nat} {xs : Nat → Int32} {r : Int32} {h' : MH} (k23 : MH → Nat → Nat → Nat → Int32 → Option (Int32 × MH)) (hk23 : ∀ (h : MH) (a1 : Nat) (a2 : Nat) (a3 : Nat) (x4 : Int32), k23 h a1 a2 a3 x4 = some (r, h') → V (PL Ls xs) mL_law 18 (some (.int r)) h' h 23 [.retAddr 1000, .ref a1, .ref a2, .ref a3, .int x4, Jk, Jk] [])  {h : MH} {a1 : Nat} {a2 : Nat} {a3 : Nat} {x4 : Int32} (hf : bL_law_987 Ls xs k23 h a1 a2 a3 x4 = some (r, h')) : V (PL Ls xs) mL_law 18 (some (.int r)) h' h 987 [.retAddr 1000, .ref a1, .ref a2, .ref a3, .int x4, Jk, Jk] [] := by
  unfold bL_law_987 at hf
  refine V.aload_n (q := 988) rfl dL_law_987 rfl rfl ?_
  obtain ⟨_, e1, hf⟩ := bd_ex hf
  obtain ⟨v2, h1, eh1, hf⟩ := bd2_ex hf
  refine V.callV (q := 991) (ci := 11) (vs := []) (st := []) (S2 := [.int v2]) okX11_likeliest imX11_likeliest seX11_likeliest rfl lkL_112 (tX11_likeliest eh1) rfl (ck_is e1) (by decide) rfl (Nat.le_of_ble_eq_true rfl) (Nat.le_of_ble_eq_true rfl) rfl dL_law_988 rfl rfl ?_
  refine V.aload_n (q := 992) rfl dL_law_991 rfl rfl ?_
  obtain ⟨_, e3, hf⟩ := bd_ex hf
  obtain ⟨v4, h2, eh2, hf⟩ := bd2_ex hf
  refine V.callV (q := 995) (ci := 13) (vs := []) (st := [.int v2]) (S2 := [.int v4, .int v2]) okX13_likeliest imX13_likeliest seX13_likeliest rfl lkL_115 (tX13_likeliest eh2) rfl (ck_is e3) (by decide) rfl (Nat.le_of_ble_eq_true rfl) (Nat.le_of_ble_eq_true rfl) rfl dL_law_992 rfl rfl ?_
  refine V.icmp_eq (q := 998) (tgt := 1943) dL_law_995 rfl (by decide) (fun c => ?_) (fun c => ?_)
  · rw [if_pos c] at hf
    obtain ⟨v5, ev5, hf⟩ := bd_ex hf
    refine V.iinc (q := 1946) (v := v5) (L' := [.retAddr 1000, .ref a1, .ref a2, .ref a3, .int v5, Jk, Jk]) dL_law_1943 rfl rfl (Option.some.inj ev5) (by decide) rfl rfl ?_
    refine V.goto (q := 23) dL_law_1946 (by decide) ?_
    exact hk23 _ _ _ _ _ hf
  · rw [if_neg c] at hf
    refine V.iconst (q := 999) (v := 0) (by decide) dL_law_998 rfl ?_
    obtain ⟨rfl, rfl⟩ := ret_inj hf
    exact V.ret (r := some (.int 0)) (Or.inl rfl) dL_law_999
def bL_law_978 (Ls : Nat) (xs : Nat → Int32) (k23 : MH → Nat → Nat → Nat → Int32 → Option (Int32 × MH)) (h : MH) (a1 : Nat) (a2 : Nat) (a3 : Nat) (x4 : Int32) (xs0 : Int32) (xs1 : Int32) (as2 : Nat) (ys3 : Int64) : Option (Int32 × MH) := bd (ck h as2 13) fun _ => bd2 (fX13_odds h as2 xs1 xs0) fun w2 h1 => if (lg_cmp ys3 w2) = 0 then (bd (some (x4 + 6)) fun v3 => k23 h1 a1 a2 a3 v3) else (some (0, h1))
set_option maxRecDepth 20000 in
theorem tL_law_978 {Ls : Nat} {xs : Nat → Int32} {r : Int32} {h' : MH} (k23 : MH → Nat → Nat → Nat → Int32 → Option (Int32 × MH)) (hk23 : ∀ (h : MH) (a1 : Nat) (a2 : Nat) (a3 : Nat) (x4 : Int32), k23 h a1 a2 a3 x4 = some (r, h') → V (PL Ls xs) mL_law 18 (some (.int r)) h' h 23 [.retAddr 1000, .ref a1, .ref a2, .ref a3, .int x4, Jk, Jk] [])  {h : MH} {a1 : Nat} {a2 : Nat} {a3 : Nat} {x4 : Int32} {xs0 : Int32} {xs1 : Int32} {as2 : Nat} {ys3 : Int64} (hf : bL_law_978 Ls xs k23 h a1 a2 a3 x4 xs0 xs1 as2 ys3 = some (r, h')) : V (PL Ls xs) mL_law 18 (some (.int r)) h' h 978 [.retAddr 1000, .ref a1, .ref a2, .ref a3, .int x4, Jk, Jk] [.int xs0, .int xs1, .ref as2, .long ys3] := by
  unfold bL_law_978 at hf
  obtain ⟨_, e1, hf⟩ := bd_ex hf
  obtain ⟨w2, h1, eh1, hf⟩ := bd2_ex hf
  refine V.callV (q := 981) (ci := 13) (vs := [.int xs1, .int xs0]) (st := [.long ys3]) (S2 := [.long w2, .long ys3]) okX13_odds imX13_odds seX13_odds rfl lkL_111 (tX13_odds eh1) rfl (ck_is e1) (by decide) rfl (Nat.le_of_ble_eq_true rfl) (Nat.le_of_ble_eq_true rfl) rfl dL_law_978 rfl rfl ?_
  refine V.lcmp (q := 982) dL_law_981 rfl ?_
  refine V.if_eq (q := 985) (tgt := 1943) dL_law_982 rfl (by decide) (fun c => ?_) (fun c => ?_)
  · rw [if_pos c] at hf
    obtain ⟨v3, ev3, hf⟩ := bd_ex hf
    refine V.iinc (q := 1946) (v := v3) (L' := [.retAddr 1000, .ref a1, .ref a2, .ref a3, .int v3, Jk, Jk]) dL_law_1943 rfl rfl (Option.some.inj ev3) (by decide) rfl rfl ?_
    refine V.goto (q := 23) dL_law_1946 (by decide) ?_
    exact hk23 _ _ _ _ _ hf
  · rw [if_neg c] at hf
    refine V.iconst (q := 986) (v := 0) (by decide) dL_law_985 rfl ?_
    obtain ⟨rfl, rfl⟩ := ret_inj hf
    exact V.ret (r := some (.int 0)) (Or.inl rfl) dL_law_986
def bL_law_954 (Ls : Nat) (xs : Nat → Int32) (k23 : MH → Nat → Nat → Nat → Int32 → Option (Int32 × MH)) (h : MH) (a1 : Nat) (a2 : Nat) (a3 : Nat) (x4 : Int32) (xs0 : Int32) (xs1 : Int32) (as2 : Nat) : Option (Int32 × MH) := bd (ck h as2 11) fun _ => bd2 (fX11_odds h as2 xs1 xs0) fun w2 h1 => bd (sld Ls xs (x4 + 1)) fun v3 => bd (sld Ls xs (x4 + 2)) fun v4 => if v4 = 0 then (bL_law_978 Ls xs k23 h1 a1 a2 a3 x4 0 v3 a2 w2) else (bL_law_978 Ls xs k23 h1 a1 a2 a3 x4 1 v3 a2 w2)
set_option maxRecDepth 20000 in
theorem tL_law_954 {Ls : Nat} {xs : Nat → Int32} {r : Int32} {h' : MH} (k23 : MH → Nat → Nat → Nat → Int32 → Option (Int32 × MH)) (hk23 : ∀ (h : MH) (a1 : Nat) (a2 : Nat) (a3 : Nat) (x4 : Int32), k23 h a1 a2 a3 x4 = some (r, h') → V (PL Ls xs) mL_law 18 (some (.int r)) h' h 23 [.retAddr 1000, .ref a1, .ref a2, .ref a3, .int x4, Jk, Jk] [])  {h : MH} {a1 : Nat} {a2 : Nat} {a3 : Nat} {x4 : Int32} {xs0 : Int32} {xs1 : Int32} {as2 : Nat} (hf : bL_law_954 Ls xs k23 h a1 a2 a3 x4 xs0 xs1 as2 = some (r, h')) : V (PL Ls xs) mL_law 18 (some (.int r)) h' h 954 [.retAddr 1000, .ref a1, .ref a2, .ref a3, .int x4, Jk, Jk] [.int xs0, .int xs1, .ref as2] := by
  unfold bL_law_954 at hf
  obtain ⟨_, e1, hf⟩ := bd_ex hf
  obtain ⟨w2, h1, eh1, hf⟩ := bd2_ex hf
  refine V.callV (q := 957) (ci := 11) (vs := [.int xs1, .int xs0]) (st := []) (S2 := [.long w2]) okX11_odds imX11_odds seX11_odds rfl lkL_107 (tX11_odds eh1) rfl (ck_is e1) (by decide) rfl (Nat.le_of_ble_eq_true rfl) (Nat.le_of_ble_eq_true rfl) rfl dL_law_954 rfl rfl ?_
  refine V.aload_n (q := 958) rfl dL_law_957 rfl rfl ?_
  refine V.aloadT_n (q := 959) rfl (by decide) tk_1000 dL_law_958 rfl rfl ?_
  refine V.iload (q := 961) dL_law_959 rfl rfl ?_
  refine V.iconst (q := 962) (v := 1) (by decide) dL_law_961 rfl ?_
  refine V.iadd (q := 963) dL_law_962 rfl ?_
  obtain ⟨v3, ev3, hf⟩ := bd_ex hf
  refine V.sld (q := 964) PL_sc ev3 dL_law_963 rfl ?_
  refine V.aloadT_n (q := 965) rfl (by decide) tk_1000 dL_law_964 rfl rfl ?_
  refine V.iload (q := 967) dL_law_965 rfl rfl ?_
  refine V.iconst (q := 968) (v := 2) (by decide) dL_law_967 rfl ?_
  refine V.iadd (q := 969) dL_law_968 rfl ?_
  obtain ⟨v4, ev4, hf⟩ := bd_ex hf
  refine V.sld (q := 970) PL_sc ev4 dL_law_969 rfl ?_
  refine V.if_eq (q := 973) (tgt := 977) dL_law_970 rfl (by decide) (fun c => ?_) (fun c => ?_)
  · rw [if_pos c] at hf
    refine V.iconst (q := 978) (v := 0) (by decide) dL_law_977 rfl ?_
    exact tL_law_978 k23 hk23 hf
  · rw [if_neg c] at hf
    refine V.iconst (q := 974) (v := 1) (by decide) dL_law_973 rfl ?_
    refine V.goto (q := 978) dL_law_974 (by decide) ?_
    exact tL_law_978 k23 hk23 hf
def bL_law_933 (Ls : Nat) (xs : Nat → Int32) (k23 : MH → Nat → Nat → Nat → Int32 → Option (Int32 × MH)) (h : MH) (a1 : Nat) (a2 : Nat) (a3 : Nat) (x4 : Int32) : Option (Int32 × MH) := bd (sld Ls xs (x4 + 1)) fun v1 => bd (sld Ls xs (x4 + 2)) fun v2 => if v2 = 0 then (bL_law_954 Ls xs k23 h a1 a2 a3 x4 0 v1 a1) else (bL_law_954 Ls xs k23 h a1 a2 a3 x4 1 v1 a1)
set_option maxRecDepth 20000 in
theorem tL_law_933 {Ls : Nat} {xs : Nat → Int32} {r : Int32} {h' : MH} (k23 : MH → Nat → Nat → Nat → Int32 → Option (Int32 × MH)) (hk23 : ∀ (h : MH) (a1 : Nat) (a2 : Nat) (a3 : Nat) (x4 : Int32), k23 h a1 a2 a3 x4 = some (r, h') → V (PL Ls xs) mL_law 18 (some (.int r)) h' h 23 [.retAddr 1000, .ref a1, .ref a2, .ref a3, .int x4, Jk, Jk] [])  {h : MH} {a1 : Nat} {a2 : Nat} {a3 : Nat} {x4 : Int32} (hf : bL_law_933 Ls xs k23 h a1 a2 a3 x4 = some (r, h')) : V (PL Ls xs) mL_law 18 (some (.int r)) h' h 933 [.retAddr 1000, .ref a1, .ref a2, .ref a3, .int x4, Jk, Jk] [] := by
  unfold bL_law_933 at hf
  refine V.aload_n (q := 934) rfl dL_law_933 rfl rfl ?_
  refine V.aloadT_n (q := 935) rfl (by decide) tk_1000 dL_law_934 rfl rfl ?_
  refine V.iload (q := 937) dL_law_935 rfl rfl ?_
  refine V.iconst (q := 938) (v := 1) (by decide) dL_law_937 rfl ?_
  refine V.iadd (q := 939) dL_law_938 rfl ?_
  obtain ⟨v1, ev1, hf⟩ := bd_ex hf
  refine V.sld (q := 940) PL_sc ev1 dL_law_939 rfl ?_
  refine V.aloadT_n (q := 941) rfl (by decide) tk_1000 dL_law_940 rfl rfl ?_
  refine V.iload (q := 943) dL_law_941 rfl rfl ?_
  refine V.iconst (q := 944) (v := 2) (by decide) dL_law_943 rfl ?_
  refine V.iadd (q := 945) dL_law_944 rfl ?_
  obtain ⟨v2, ev2, hf⟩ := bd_ex hf
  refine V.sld (q := 946) PL_sc ev2 dL_law_945 rfl ?_
  refine V.if_eq (q := 949) (tgt := 953) dL_law_946 rfl (by decide) (fun c => ?_) (fun c => ?_)
  · rw [if_pos c] at hf
    refine V.iconst (q := 954) (v := 0) (by decide) dL_law_953 rfl ?_
    exact tL_law_954 k23 hk23 hf
  · rw [if_neg c] at hf
    refine V.iconst (q := 950) (v := 1) (by decide) dL_law_949 rfl ?_
    refine V.goto (q := 954) dL_law_950 (by decide) ?_
    exact tL_law_954 k23 hk23 hf
def bL_law_908 (Ls : Nat) (xs : Nat → Int32) (k23 : MH → Nat → Nat → Nat → Int32 → Option (Int32 × MH)) (h : MH) (a1 : Nat) (a2 : Nat) (a3 : Nat) (x4 : Int32) : Option (Int32 × MH) := bd (sld Ls xs (x4 + 1)) fun v1 => bd (ck h a1 11) fun _ => bd2 (fX11_bestMark h a1 v1) fun v3 h1 => bd (sld Ls xs (x4 + 1)) fun v4 => bd (ck h1 a2 13) fun _ => bd2 (fX13_bestMark h1 a2 v4) fun v6 h2 => if v3 = v6 then (bd (some (x4 + 6)) fun v7 => k23 h2 a1 a2 a3 v7) else (some (0, h2))
set_option maxRecDepth 20000 in
theorem tL_law_908 {Ls : Nat} {xs : Nat → Int32} {r : Int32} {h' : MH} (k23 : MH → Nat → Nat → Nat → Int32 → Option (Int32 × MH)) (hk23 : ∀ (h : MH) (a1 : Nat) (a2 : Nat) (a3 : Nat) (x4 : Int32), k23 h a1 a2 a3 x4 = some (r, h') → V (PL Ls xs) mL_law 18 (some (.int r)) h' h 23 [.retAddr 1000, .ref a1, .ref a2, .ref a3, .int x4, Jk, Jk] [])  {h : MH} {a1 : Nat} {a2 : Nat} {a3 : Nat} {x4 : Int32} (hf : bL_law_908 Ls xs k23 h a1 a2 a3 x4 = some (r, h')) : V (PL Ls xs) mL_law 18 (some (.int r)) h' h 908 [.retAddr 1000, .ref a1, .ref a2, .ref a3, .int x4, Jk, Jk] [] := by
  unfold bL_law_908 at hf
  refine V.aload_n (q := 909) rfl dL_law_908 rfl rfl ?_
  refine V.aloadT_n (q := 910) rfl (by decide) tk_1000 dL_law_909 rfl rfl ?_
  refine V.iload (q := 912) dL_law_910 rfl rfl ?_
  refine V.iconst (q := 913) (v := 1) (by decide) dL_law_912 rfl ?_
  refine V.iadd (q := 914) dL_law_913 rfl ?_
  obtain ⟨v1, ev1, hf⟩ := bd_ex hf
  refine V.sld (q := 915) PL_sc ev1 dL_law_914 rfl ?_
  obtain ⟨_, e2, hf⟩ := bd_ex hf
  obtain ⟨v3, h1, eh1, hf⟩ := bd2_ex hf
  refine V.callV (q := 918) (ci := 11) (vs := [.int v1]) (st := []) (S2 := [.int v3]) okX11_bestMark imX11_bestMark seX11_bestMark rfl lkL_103 (tX11_bestMark eh1) rfl (ck_is e2) (by decide) rfl (Nat.le_of_ble_eq_true rfl) (Nat.le_of_ble_eq_true rfl) rfl dL_law_915 rfl rfl ?_
  refine V.aload_n (q := 919) rfl dL_law_918 rfl rfl ?_
  refine V.aloadT_n (q := 920) rfl (by decide) tk_1000 dL_law_919 rfl rfl ?_
  refine V.iload (q := 922) dL_law_920 rfl rfl ?_
  refine V.iconst (q := 923) (v := 1) (by decide) dL_law_922 rfl ?_
  refine V.iadd (q := 924) dL_law_923 rfl ?_
  obtain ⟨v4, ev4, hf⟩ := bd_ex hf
  refine V.sld (q := 925) PL_sc ev4 dL_law_924 rfl ?_
  obtain ⟨_, e5, hf⟩ := bd_ex hf
  obtain ⟨v6, h2, eh2, hf⟩ := bd2_ex hf
  refine V.callV (q := 928) (ci := 13) (vs := [.int v4]) (st := [.int v3]) (S2 := [.int v6, .int v3]) okX13_bestMark imX13_bestMark seX13_bestMark rfl lkL_106 (tX13_bestMark eh2) rfl (ck_is e5) (by decide) rfl (Nat.le_of_ble_eq_true rfl) (Nat.le_of_ble_eq_true rfl) rfl dL_law_925 rfl rfl ?_
  refine V.icmp_eq (q := 931) (tgt := 1943) dL_law_928 rfl (by decide) (fun c => ?_) (fun c => ?_)
  · rw [if_pos c] at hf
    obtain ⟨v7, ev7, hf⟩ := bd_ex hf
    refine V.iinc (q := 1946) (v := v7) (L' := [.retAddr 1000, .ref a1, .ref a2, .ref a3, .int v7, Jk, Jk]) dL_law_1943 rfl rfl (Option.some.inj ev7) (by decide) rfl rfl ?_
    refine V.goto (q := 23) dL_law_1946 (by decide) ?_
    exact hk23 _ _ _ _ _ hf
  · rw [if_neg c] at hf
    refine V.iconst (q := 932) (v := 0) (by decide) dL_law_931 rfl ?_
    obtain ⟨rfl, rfl⟩ := ret_inj hf
    exact V.ret (r := some (.int 0)) (Or.inl rfl) dL_law_932
def bL_law_859 (Ls : Nat) (xs : Nat → Int32) (k23 : MH → Nat → Nat → Nat → Int32 → Option (Int32 × MH)) (h : MH) (a1 : Nat) (a2 : Nat) (a3 : Nat) (x4 : Int32) : Option (Int32 × MH) := bd (sld Ls xs (x4 + 1)) fun v1 => bd (sld Ls xs (x4 + 2)) fun v2 => bd (sld Ls xs (x4 + 3)) fun v3 => bd (ck h a1 11) fun _ => bd2 (fX11_reword h a1 v1 v2 v3) fun v5 h1 => bd (sld Ls xs (x4 + 1)) fun v6 => bd (sld Ls xs (x4 + 2)) fun v7 => bd (sld Ls xs (x4 + 3)) fun v8 => bd (ck h1 a2 13) fun _ => bd2 (fX13_reword h1 a2 v6 v7 v8) fun v10 h2 => if v5 = v10 then (bd (some (x4 + 6)) fun v11 => k23 h2 a1 a2 a3 v11) else (some (0, h2))
set_option maxRecDepth 20000 in
theorem tL_law_859 {Ls : Nat} {xs : Nat → Int32} {r : Int32} {h' : MH} (k23 : MH → Nat → Nat → Nat → Int32 → Option (Int32 × MH)) (hk23 : ∀ (h : MH) (a1 : Nat) (a2 : Nat) (a3 : Nat) (x4 : Int32), k23 h a1 a2 a3 x4 = some (r, h') → V (PL Ls xs) mL_law 18 (some (.int r)) h' h 23 [.retAddr 1000, .ref a1, .ref a2, .ref a3, .int x4, Jk, Jk] [])  {h : MH} {a1 : Nat} {a2 : Nat} {a3 : Nat} {x4 : Int32} (hf : bL_law_859 Ls xs k23 h a1 a2 a3 x4 = some (r, h')) : V (PL Ls xs) mL_law 18 (some (.int r)) h' h 859 [.retAddr 1000, .ref a1, .ref a2, .ref a3, .int x4, Jk, Jk] [] := by
  unfold bL_law_859 at hf
  refine V.aload_n (q := 860) rfl dL_law_859 rfl rfl ?_
  refine V.aloadT_n (q := 861) rfl (by decide) tk_1000 dL_law_860 rfl rfl ?_
  refine V.iload (q := 863) dL_law_861 rfl rfl ?_
  refine V.iconst (q := 864) (v := 1) (by decide) dL_law_863 rfl ?_
  refine V.iadd (q := 865) dL_law_864 rfl ?_
  obtain ⟨v1, ev1, hf⟩ := bd_ex hf
  refine V.sld (q := 866) PL_sc ev1 dL_law_865 rfl ?_
  refine V.aloadT_n (q := 867) rfl (by decide) tk_1000 dL_law_866 rfl rfl ?_
  refine V.iload (q := 869) dL_law_867 rfl rfl ?_
  refine V.iconst (q := 870) (v := 2) (by decide) dL_law_869 rfl ?_
  refine V.iadd (q := 871) dL_law_870 rfl ?_
  obtain ⟨v2, ev2, hf⟩ := bd_ex hf
  refine V.sld (q := 872) PL_sc ev2 dL_law_871 rfl ?_
  refine V.aloadT_n (q := 873) rfl (by decide) tk_1000 dL_law_872 rfl rfl ?_
  refine V.iload (q := 875) dL_law_873 rfl rfl ?_
  refine V.iconst (q := 876) (v := 3) (by decide) dL_law_875 rfl ?_
  refine V.iadd (q := 877) dL_law_876 rfl ?_
  obtain ⟨v3, ev3, hf⟩ := bd_ex hf
  refine V.sld (q := 878) PL_sc ev3 dL_law_877 rfl ?_
  obtain ⟨_, e4, hf⟩ := bd_ex hf
  obtain ⟨v5, h1, eh1, hf⟩ := bd2_ex hf
  refine V.callV (q := 881) (ci := 11) (vs := [.int v1, .int v2, .int v3]) (st := []) (S2 := [.int v5]) okX11_reword imX11_reword seX11_reword rfl lkL_99 (tX11_reword eh1) rfl (ck_is e4) (by decide) rfl (Nat.le_of_ble_eq_true rfl) (Nat.le_of_ble_eq_true rfl) rfl dL_law_878 rfl rfl ?_
  refine V.aload_n (q := 882) rfl dL_law_881 rfl rfl ?_
  refine V.aloadT_n (q := 883) rfl (by decide) tk_1000 dL_law_882 rfl rfl ?_
  refine V.iload (q := 885) dL_law_883 rfl rfl ?_
  refine V.iconst (q := 886) (v := 1) (by decide) dL_law_885 rfl ?_
  refine V.iadd (q := 887) dL_law_886 rfl ?_
  obtain ⟨v6, ev6, hf⟩ := bd_ex hf
  refine V.sld (q := 888) PL_sc ev6 dL_law_887 rfl ?_
  refine V.aloadT_n (q := 889) rfl (by decide) tk_1000 dL_law_888 rfl rfl ?_
  refine V.iload (q := 891) dL_law_889 rfl rfl ?_
  refine V.iconst (q := 892) (v := 2) (by decide) dL_law_891 rfl ?_
  refine V.iadd (q := 893) dL_law_892 rfl ?_
  obtain ⟨v7, ev7, hf⟩ := bd_ex hf
  refine V.sld (q := 894) PL_sc ev7 dL_law_893 rfl ?_
  refine V.aloadT_n (q := 895) rfl (by decide) tk_1000 dL_law_894 rfl rfl ?_
  refine V.iload (q := 897) dL_law_895 rfl rfl ?_
  refine V.iconst (q := 898) (v := 3) (by decide) dL_law_897 rfl ?_
  refine V.iadd (q := 899) dL_law_898 rfl ?_
  obtain ⟨v8, ev8, hf⟩ := bd_ex hf
  refine V.sld (q := 900) PL_sc ev8 dL_law_899 rfl ?_
  obtain ⟨_, e9, hf⟩ := bd_ex hf
  obtain ⟨v10, h2, eh2, hf⟩ := bd2_ex hf
  refine V.callV (q := 903) (ci := 13) (vs := [.int v6, .int v7, .int v8]) (st := [.int v5]) (S2 := [.int v10, .int v5]) okX13_reword imX13_reword seX13_reword rfl lkL_102 (tX13_reword eh2) rfl (ck_is e9) (by decide) rfl (Nat.le_of_ble_eq_true rfl) (Nat.le_of_ble_eq_true rfl) rfl dL_law_900 rfl rfl ?_
  refine V.icmp_eq (q := 906) (tgt := 1943) dL_law_903 rfl (by decide) (fun c => ?_) (fun c => ?_)
  · rw [if_pos c] at hf
    obtain ⟨v11, ev11, hf⟩ := bd_ex hf
    refine V.iinc (q := 1946) (v := v11) (L' := [.retAddr 1000, .ref a1, .ref a2, .ref a3, .int v11, Jk, Jk]) dL_law_1943 rfl rfl (Option.some.inj ev11) (by decide) rfl rfl ?_
    refine V.goto (q := 23) dL_law_1946 (by decide) ?_
    exact hk23 _ _ _ _ _ hf
  · rw [if_neg c] at hf
    refine V.iconst (q := 907) (v := 0) (by decide) dL_law_906 rfl ?_
    obtain ⟨rfl, rfl⟩ := ret_inj hf
    exact V.ret (r := some (.int 0)) (Or.inl rfl) dL_law_907
def bL_law_846 (Ls : Nat) (xs : Nat → Int32) (k23 : MH → Nat → Nat → Nat → Int32 → Option (Int32 × MH)) (h : MH) (a1 : Nat) (a2 : Nat) (a3 : Nat) (x4 : Int32) : Option (Int32 × MH) := bd (ck h a1 11) fun _ => bd2 (fX11_worded h a1 ) fun v2 h1 => bd (ck h1 a2 13) fun _ => bd2 (fX13_worded h1 a2 ) fun v4 h2 => if v2 = v4 then (bd (some (x4 + 6)) fun v5 => k23 h2 a1 a2 a3 v5) else (some (0, h2))
set_option maxRecDepth 20000 in
theorem tL_law_846 {Ls : Nat} {xs : Nat → Int32} {r : Int32} {h' : MH} (k23 : MH → Nat → Nat → Nat → Int32 → Option (Int32 × MH)) (hk23 : ∀ (h : MH) (a1 : Nat) (a2 : Nat) (a3 : Nat) (x4 : Int32), k23 h a1 a2 a3 x4 = some (r, h') → V (PL Ls xs) mL_law 18 (some (.int r)) h' h 23 [.retAddr 1000, .ref a1, .ref a2, .ref a3, .int x4, Jk, Jk] [])  {h : MH} {a1 : Nat} {a2 : Nat} {a3 : Nat} {x4 : Int32} (hf : bL_law_846 Ls xs k23 h a1 a2 a3 x4 = some (r, h')) : V (PL Ls xs) mL_law 18 (some (.int r)) h' h 846 [.retAddr 1000, .ref a1, .ref a2, .ref a3, .int x4, Jk, Jk] [] := by
  unfold bL_law_846 at hf
  refine V.aload_n (q := 847) rfl dL_law_846 rfl rfl ?_
  obtain ⟨_, e1, hf⟩ := bd_ex hf
  obtain ⟨v2, h1, eh1, hf⟩ := bd2_ex hf
  refine V.callV (q := 850) (ci := 11) (vs := []) (st := []) (S2 := [.int v2]) okX11_worded imX11_worded seX11_worded rfl lkL_95 (tX11_worded eh1) rfl (ck_is e1) (by decide) rfl (Nat.le_of_ble_eq_true rfl) (Nat.le_of_ble_eq_true rfl) rfl dL_law_847 rfl rfl ?_
  refine V.aload_n (q := 851) rfl dL_law_850 rfl rfl ?_
  obtain ⟨_, e3, hf⟩ := bd_ex hf
  obtain ⟨v4, h2, eh2, hf⟩ := bd2_ex hf
  refine V.callV (q := 854) (ci := 13) (vs := []) (st := [.int v2]) (S2 := [.int v4, .int v2]) okX13_worded imX13_worded seX13_worded rfl lkL_98 (tX13_worded eh2) rfl (ck_is e3) (by decide) rfl (Nat.le_of_ble_eq_true rfl) (Nat.le_of_ble_eq_true rfl) rfl dL_law_851 rfl rfl ?_
  refine V.icmp_eq (q := 857) (tgt := 1943) dL_law_854 rfl (by decide) (fun c => ?_) (fun c => ?_)
  · rw [if_pos c] at hf
    obtain ⟨v5, ev5, hf⟩ := bd_ex hf
    refine V.iinc (q := 1946) (v := v5) (L' := [.retAddr 1000, .ref a1, .ref a2, .ref a3, .int v5, Jk, Jk]) dL_law_1943 rfl rfl (Option.some.inj ev5) (by decide) rfl rfl ?_
    refine V.goto (q := 23) dL_law_1946 (by decide) ?_
    exact hk23 _ _ _ _ _ hf
  · rw [if_neg c] at hf
    refine V.iconst (q := 858) (v := 0) (by decide) dL_law_857 rfl ?_
    obtain ⟨rfl, rfl⟩ := ret_inj hf
    exact V.ret (r := some (.int 0)) (Or.inl rfl) dL_law_858
def bL_law_833 (Ls : Nat) (xs : Nat → Int32) (k23 : MH → Nat → Nat → Nat → Int32 → Option (Int32 × MH)) (h : MH) (a1 : Nat) (a2 : Nat) (a3 : Nat) (x4 : Int32) : Option (Int32 × MH) := bd (ck h a1 11) fun _ => bd2 (fX11_toFill h a1 ) fun v2 h1 => bd (ck h1 a2 13) fun _ => bd2 (fX13_toFill h1 a2 ) fun v4 h2 => if v2 = v4 then (bd (some (x4 + 6)) fun v5 => k23 h2 a1 a2 a3 v5) else (some (0, h2))
set_option maxRecDepth 20000 in
theorem tL_law_833 {Ls : Nat} {xs : Nat → Int32} {r : Int32} {h' : MH} (k23 : MH → Nat → Nat → Nat → Int32 → Option (Int32 × MH)) (hk23 : ∀ (h : MH) (a1 : Nat) (a2 : Nat) (a3 : Nat) (x4 : Int32), k23 h a1 a2 a3 x4 = some (r, h') → V (PL Ls xs) mL_law 18 (some (.int r)) h' h 23 [.retAddr 1000, .ref a1, .ref a2, .ref a3, .int x4, Jk, Jk] [])  {h : MH} {a1 : Nat} {a2 : Nat} {a3 : Nat} {x4 : Int32} (hf : bL_law_833 Ls xs k23 h a1 a2 a3 x4 = some (r, h')) : V (PL Ls xs) mL_law 18 (some (.int r)) h' h 833 [.retAddr 1000, .ref a1, .ref a2, .ref a3, .int x4, Jk, Jk] [] := by
  unfold bL_law_833 at hf
  refine V.aload_n (q := 834) rfl dL_law_833 rfl rfl ?_
  obtain ⟨_, e1, hf⟩ := bd_ex hf
  obtain ⟨v2, h1, eh1, hf⟩ := bd2_ex hf
  refine V.callV (q := 837) (ci := 11) (vs := []) (st := []) (S2 := [.int v2]) okX11_toFill imX11_toFill seX11_toFill rfl lkL_91 (tX11_toFill eh1) rfl (ck_is e1) (by decide) rfl (Nat.le_of_ble_eq_true rfl) (Nat.le_of_ble_eq_true rfl) rfl dL_law_834 rfl rfl ?_
  refine V.aload_n (q := 838) rfl dL_law_837 rfl rfl ?_
  obtain ⟨_, e3, hf⟩ := bd_ex hf
  obtain ⟨v4, h2, eh2, hf⟩ := bd2_ex hf
  refine V.callV (q := 841) (ci := 13) (vs := []) (st := [.int v2]) (S2 := [.int v4, .int v2]) okX13_toFill imX13_toFill seX13_toFill rfl lkL_94 (tX13_toFill eh2) rfl (ck_is e3) (by decide) rfl (Nat.le_of_ble_eq_true rfl) (Nat.le_of_ble_eq_true rfl) rfl dL_law_838 rfl rfl ?_
  refine V.icmp_eq (q := 844) (tgt := 1943) dL_law_841 rfl (by decide) (fun c => ?_) (fun c => ?_)
  · rw [if_pos c] at hf
    obtain ⟨v5, ev5, hf⟩ := bd_ex hf
    refine V.iinc (q := 1946) (v := v5) (L' := [.retAddr 1000, .ref a1, .ref a2, .ref a3, .int v5, Jk, Jk]) dL_law_1943 rfl rfl (Option.some.inj ev5) (by decide) rfl rfl ?_
    refine V.goto (q := 23) dL_law_1946 (by decide) ?_
    exact hk23 _ _ _ _ _ hf
  · rw [if_neg c] at hf
    refine V.iconst (q := 845) (v := 0) (by decide) dL_law_844 rfl ?_
    obtain ⟨rfl, rfl⟩ := ret_inj hf
    exact V.ret (r := some (.int 0)) (Or.inl rfl) dL_law_845
def bL_law_808 (Ls : Nat) (xs : Nat → Int32) (k23 : MH → Nat → Nat → Nat → Int32 → Option (Int32 × MH)) (h : MH) (a1 : Nat) (a2 : Nat) (a3 : Nat) (x4 : Int32) : Option (Int32 × MH) := bd (sld Ls xs (x4 + 1)) fun v1 => bd (ck h a1 11) fun _ => bd2 (fX11_keptBy h a1 v1) fun v3 h1 => bd (sld Ls xs (x4 + 1)) fun v4 => bd (ck h1 a2 13) fun _ => bd2 (fX13_keptBy h1 a2 v4) fun v6 h2 => if v3 = v6 then (bd (some (x4 + 6)) fun v7 => k23 h2 a1 a2 a3 v7) else (some (0, h2))
set_option maxRecDepth 20000 in
theorem tL_law_808 {Ls : Nat} {xs : Nat → Int32} {r : Int32} {h' : MH} (k23 : MH → Nat → Nat → Nat → Int32 → Option (Int32 × MH)) (hk23 : ∀ (h : MH) (a1 : Nat) (a2 : Nat) (a3 : Nat) (x4 : Int32), k23 h a1 a2 a3 x4 = some (r, h') → V (PL Ls xs) mL_law 18 (some (.int r)) h' h 23 [.retAddr 1000, .ref a1, .ref a2, .ref a3, .int x4, Jk, Jk] [])  {h : MH} {a1 : Nat} {a2 : Nat} {a3 : Nat} {x4 : Int32} (hf : bL_law_808 Ls xs k23 h a1 a2 a3 x4 = some (r, h')) : V (PL Ls xs) mL_law 18 (some (.int r)) h' h 808 [.retAddr 1000, .ref a1, .ref a2, .ref a3, .int x4, Jk, Jk] [] := by
  unfold bL_law_808 at hf
  refine V.aload_n (q := 809) rfl dL_law_808 rfl rfl ?_
  refine V.aloadT_n (q := 810) rfl (by decide) tk_1000 dL_law_809 rfl rfl ?_
  refine V.iload (q := 812) dL_law_810 rfl rfl ?_
  refine V.iconst (q := 813) (v := 1) (by decide) dL_law_812 rfl ?_
  refine V.iadd (q := 814) dL_law_813 rfl ?_
  obtain ⟨v1, ev1, hf⟩ := bd_ex hf
  refine V.sld (q := 815) PL_sc ev1 dL_law_814 rfl ?_
  obtain ⟨_, e2, hf⟩ := bd_ex hf
  obtain ⟨v3, h1, eh1, hf⟩ := bd2_ex hf
  refine V.callV (q := 818) (ci := 11) (vs := [.int v1]) (st := []) (S2 := [.int v3]) okX11_keptBy imX11_keptBy seX11_keptBy rfl lkL_87 (tX11_keptBy eh1) rfl (ck_is e2) (by decide) rfl (Nat.le_of_ble_eq_true rfl) (Nat.le_of_ble_eq_true rfl) rfl dL_law_815 rfl rfl ?_
  refine V.aload_n (q := 819) rfl dL_law_818 rfl rfl ?_
  refine V.aloadT_n (q := 820) rfl (by decide) tk_1000 dL_law_819 rfl rfl ?_
  refine V.iload (q := 822) dL_law_820 rfl rfl ?_
  refine V.iconst (q := 823) (v := 1) (by decide) dL_law_822 rfl ?_
  refine V.iadd (q := 824) dL_law_823 rfl ?_
  obtain ⟨v4, ev4, hf⟩ := bd_ex hf
  refine V.sld (q := 825) PL_sc ev4 dL_law_824 rfl ?_
  obtain ⟨_, e5, hf⟩ := bd_ex hf
  obtain ⟨v6, h2, eh2, hf⟩ := bd2_ex hf
  refine V.callV (q := 828) (ci := 13) (vs := [.int v4]) (st := [.int v3]) (S2 := [.int v6, .int v3]) okX13_keptBy imX13_keptBy seX13_keptBy rfl lkL_90 (tX13_keptBy eh2) rfl (ck_is e5) (by decide) rfl (Nat.le_of_ble_eq_true rfl) (Nat.le_of_ble_eq_true rfl) rfl dL_law_825 rfl rfl ?_
  refine V.icmp_eq (q := 831) (tgt := 1943) dL_law_828 rfl (by decide) (fun c => ?_) (fun c => ?_)
  · rw [if_pos c] at hf
    obtain ⟨v7, ev7, hf⟩ := bd_ex hf
    refine V.iinc (q := 1946) (v := v7) (L' := [.retAddr 1000, .ref a1, .ref a2, .ref a3, .int v7, Jk, Jk]) dL_law_1943 rfl rfl (Option.some.inj ev7) (by decide) rfl rfl ?_
    refine V.goto (q := 23) dL_law_1946 (by decide) ?_
    exact hk23 _ _ _ _ _ hf
  · rw [if_neg c] at hf
    refine V.iconst (q := 832) (v := 0) (by decide) dL_law_831 rfl ?_
    obtain ⟨rfl, rfl⟩ := ret_inj hf
    exact V.ret (r := some (.int 0)) (Or.inl rfl) dL_law_832
def bL_law_795 (Ls : Nat) (xs : Nat → Int32) (k23 : MH → Nat → Nat → Nat → Int32 → Option (Int32 × MH)) (h : MH) (a1 : Nat) (a2 : Nat) (a3 : Nat) (x4 : Int32) : Option (Int32 × MH) := bd (ck h a1 11) fun _ => bd2 (fX11_kept h a1 ) fun v2 h1 => bd (ck h1 a2 13) fun _ => bd2 (fX13_kept h1 a2 ) fun v4 h2 => if v2 = v4 then (bd (some (x4 + 6)) fun v5 => k23 h2 a1 a2 a3 v5) else (some (0, h2))
set_option maxRecDepth 20000 in
theorem tL_law_795 {Ls : Nat} {xs : Nat → Int32} {r : Int32} {h' : MH} (k23 : MH → Nat → Nat → Nat → Int32 → Option (Int32 × MH)) (hk23 : ∀ (h : MH) (a1 : Nat) (a2 : Nat) (a3 : Nat) (x4 : Int32), k23 h a1 a2 a3 x4 = some (r, h') → V (PL Ls xs) mL_law 18 (some (.int r)) h' h 23 [.retAddr 1000, .ref a1, .ref a2, .ref a3, .int x4, Jk, Jk] [])  {h : MH} {a1 : Nat} {a2 : Nat} {a3 : Nat} {x4 : Int32} (hf : bL_law_795 Ls xs k23 h a1 a2 a3 x4 = some (r, h')) : V (PL Ls xs) mL_law 18 (some (.int r)) h' h 795 [.retAddr 1000, .ref a1, .ref a2, .ref a3, .int x4, Jk, Jk] [] := by
  unfold bL_law_795 at hf
  refine V.aload_n (q := 796) rfl dL_law_795 rfl rfl ?_
  obtain ⟨_, e1, hf⟩ := bd_ex hf
  obtain ⟨v2, h1, eh1, hf⟩ := bd2_ex hf
  refine V.callV (q := 799) (ci := 11) (vs := []) (st := []) (S2 := [.int v2]) okX11_kept imX11_kept seX11_kept rfl lkL_83 (tX11_kept eh1) rfl (ck_is e1) (by decide) rfl (Nat.le_of_ble_eq_true rfl) (Nat.le_of_ble_eq_true rfl) rfl dL_law_796 rfl rfl ?_
  refine V.aload_n (q := 800) rfl dL_law_799 rfl rfl ?_
  obtain ⟨_, e3, hf⟩ := bd_ex hf
  obtain ⟨v4, h2, eh2, hf⟩ := bd2_ex hf
  refine V.callV (q := 803) (ci := 13) (vs := []) (st := [.int v2]) (S2 := [.int v4, .int v2]) okX13_kept imX13_kept seX13_kept rfl lkL_86 (tX13_kept eh2) rfl (ck_is e3) (by decide) rfl (Nat.le_of_ble_eq_true rfl) (Nat.le_of_ble_eq_true rfl) rfl dL_law_800 rfl rfl ?_
  refine V.icmp_eq (q := 806) (tgt := 1943) dL_law_803 rfl (by decide) (fun c => ?_) (fun c => ?_)
  · rw [if_pos c] at hf
    obtain ⟨v5, ev5, hf⟩ := bd_ex hf
    refine V.iinc (q := 1946) (v := v5) (L' := [.retAddr 1000, .ref a1, .ref a2, .ref a3, .int v5, Jk, Jk]) dL_law_1943 rfl rfl (Option.some.inj ev5) (by decide) rfl rfl ?_
    refine V.goto (q := 23) dL_law_1946 (by decide) ?_
    exact hk23 _ _ _ _ _ hf
  · rw [if_neg c] at hf
    refine V.iconst (q := 807) (v := 0) (by decide) dL_law_806 rfl ?_
    obtain ⟨rfl, rfl⟩ := ret_inj hf
    exact V.ret (r := some (.int 0)) (Or.inl rfl) dL_law_807
def bL_law_758 (Ls : Nat) (xs : Nat → Int32) (k23 : MH → Nat → Nat → Nat → Int32 → Option (Int32 × MH)) (h : MH) (a1 : Nat) (a2 : Nat) (a3 : Nat) (x4 : Int32) : Option (Int32 × MH) := bd (sld Ls xs (x4 + 1)) fun v1 => bd (sld Ls xs (x4 + 2)) fun v2 => bd (ck h a1 11) fun _ => bd2 (fX11_differ h a1 v1 v2) fun v4 h1 => bd (sld Ls xs (x4 + 1)) fun v5 => bd (sld Ls xs (x4 + 2)) fun v6 => bd (ck h1 a2 13) fun _ => bd2 (fX13_differ h1 a2 v5 v6) fun v8 h2 => if v4 = v8 then (bd (some (x4 + 6)) fun v9 => k23 h2 a1 a2 a3 v9) else (some (0, h2))
set_option maxRecDepth 20000 in
theorem tL_law_758 {Ls : Nat} {xs : Nat → Int32} {r : Int32} {h' : MH} (k23 : MH → Nat → Nat → Nat → Int32 → Option (Int32 × MH)) (hk23 : ∀ (h : MH) (a1 : Nat) (a2 : Nat) (a3 : Nat) (x4 : Int32), k23 h a1 a2 a3 x4 = some (r, h') → V (PL Ls xs) mL_law 18 (some (.int r)) h' h 23 [.retAddr 1000, .ref a1, .ref a2, .ref a3, .int x4, Jk, Jk] [])  {h : MH} {a1 : Nat} {a2 : Nat} {a3 : Nat} {x4 : Int32} (hf : bL_law_758 Ls xs k23 h a1 a2 a3 x4 = some (r, h')) : V (PL Ls xs) mL_law 18 (some (.int r)) h' h 758 [.retAddr 1000, .ref a1, .ref a2, .ref a3, .int x4, Jk, Jk] [] := by
  unfold bL_law_758 at hf
  refine V.aload_n (q := 759) rfl dL_law_758 rfl rfl ?_
  refine V.aloadT_n (q := 760) rfl (by decide) tk_1000 dL_law_759 rfl rfl ?_
  refine V.iload (q := 762) dL_law_760 rfl rfl ?_
  refine V.iconst (q := 763) (v := 1) (by decide) dL_law_762 rfl ?_
  refine V.iadd (q := 764) dL_law_763 rfl ?_
  obtain ⟨v1, ev1, hf⟩ := bd_ex hf
  refine V.sld (q := 765) PL_sc ev1 dL_law_764 rfl ?_
  refine V.aloadT_n (q := 766) rfl (by decide) tk_1000 dL_law_765 rfl rfl ?_
  refine V.iload (q := 768) dL_law_766 rfl rfl ?_
  refine V.iconst (q := 769) (v := 2) (by decide) dL_law_768 rfl ?_
  refine V.iadd (q := 770) dL_law_769 rfl ?_
  obtain ⟨v2, ev2, hf⟩ := bd_ex hf
  refine V.sld (q := 771) PL_sc ev2 dL_law_770 rfl ?_
  obtain ⟨_, e3, hf⟩ := bd_ex hf
  obtain ⟨v4, h1, eh1, hf⟩ := bd2_ex hf
  refine V.callV (q := 774) (ci := 11) (vs := [.int v1, .int v2]) (st := []) (S2 := [.int v4]) okX11_differ imX11_differ seX11_differ rfl lkL_79 (tX11_differ eh1) rfl (ck_is e3) (by decide) rfl (Nat.le_of_ble_eq_true rfl) (Nat.le_of_ble_eq_true rfl) rfl dL_law_771 rfl rfl ?_
  refine V.aload_n (q := 775) rfl dL_law_774 rfl rfl ?_
  refine V.aloadT_n (q := 776) rfl (by decide) tk_1000 dL_law_775 rfl rfl ?_
  refine V.iload (q := 778) dL_law_776 rfl rfl ?_
  refine V.iconst (q := 779) (v := 1) (by decide) dL_law_778 rfl ?_
  refine V.iadd (q := 780) dL_law_779 rfl ?_
  obtain ⟨v5, ev5, hf⟩ := bd_ex hf
  refine V.sld (q := 781) PL_sc ev5 dL_law_780 rfl ?_
  refine V.aloadT_n (q := 782) rfl (by decide) tk_1000 dL_law_781 rfl rfl ?_
  refine V.iload (q := 784) dL_law_782 rfl rfl ?_
  refine V.iconst (q := 785) (v := 2) (by decide) dL_law_784 rfl ?_
  refine V.iadd (q := 786) dL_law_785 rfl ?_
  obtain ⟨v6, ev6, hf⟩ := bd_ex hf
  refine V.sld (q := 787) PL_sc ev6 dL_law_786 rfl ?_
  obtain ⟨_, e7, hf⟩ := bd_ex hf
  obtain ⟨v8, h2, eh2, hf⟩ := bd2_ex hf
  refine V.callV (q := 790) (ci := 13) (vs := [.int v5, .int v6]) (st := [.int v4]) (S2 := [.int v8, .int v4]) okX13_differ imX13_differ seX13_differ rfl lkL_82 (tX13_differ eh2) rfl (ck_is e7) (by decide) rfl (Nat.le_of_ble_eq_true rfl) (Nat.le_of_ble_eq_true rfl) rfl dL_law_787 rfl rfl ?_
  refine V.icmp_eq (q := 793) (tgt := 1943) dL_law_790 rfl (by decide) (fun c => ?_) (fun c => ?_)
  · rw [if_pos c] at hf
    obtain ⟨v9, ev9, hf⟩ := bd_ex hf
    refine V.iinc (q := 1946) (v := v9) (L' := [.retAddr 1000, .ref a1, .ref a2, .ref a3, .int v9, Jk, Jk]) dL_law_1943 rfl rfl (Option.some.inj ev9) (by decide) rfl rfl ?_
    refine V.goto (q := 23) dL_law_1946 (by decide) ?_
    exact hk23 _ _ _ _ _ hf
  · rw [if_neg c] at hf
    refine V.iconst (q := 794) (v := 0) (by decide) dL_law_793 rfl ?_
    obtain ⟨rfl, rfl⟩ := ret_inj hf
    exact V.ret (r := some (.int 0)) (Or.inl rfl) dL_law_794
def bL_law_733 (Ls : Nat) (xs : Nat → Int32) (k23 : MH → Nat → Nat → Nat → Int32 → Option (Int32 × MH)) (h : MH) (a1 : Nat) (a2 : Nat) (a3 : Nat) (x4 : Int32) : Option (Int32 × MH) := bd (sld Ls xs (x4 + 1)) fun v1 => bd (ck h a1 11) fun _ => bd2 (fX11_idleRules h a1 v1) fun v3 h1 => bd (sld Ls xs (x4 + 1)) fun v4 => bd (ck h1 a2 13) fun _ => bd2 (fX13_idleRules h1 a2 v4) fun v6 h2 => if v3 = v6 then (bd (some (x4 + 6)) fun v7 => k23 h2 a1 a2 a3 v7) else (some (0, h2))
set_option maxRecDepth 20000 in
theorem tL_law_733 {Ls : Nat} {xs : Nat → Int32} {r : Int32} {h' : MH} (k23 : MH → Nat → Nat → Nat → Int32 → Option (Int32 × MH)) (hk23 : ∀ (h : MH) (a1 : Nat) (a2 : Nat) (a3 : Nat) (x4 : Int32), k23 h a1 a2 a3 x4 = some (r, h') → V (PL Ls xs) mL_law 18 (some (.int r)) h' h 23 [.retAddr 1000, .ref a1, .ref a2, .ref a3, .int x4, Jk, Jk] [])  {h : MH} {a1 : Nat} {a2 : Nat} {a3 : Nat} {x4 : Int32} (hf : bL_law_733 Ls xs k23 h a1 a2 a3 x4 = some (r, h')) : V (PL Ls xs) mL_law 18 (some (.int r)) h' h 733 [.retAddr 1000, .ref a1, .ref a2, .ref a3, .int x4, Jk, Jk] [] := by
  unfold bL_law_733 at hf
  refine V.aload_n (q := 734) rfl dL_law_733 rfl rfl ?_
  refine V.aloadT_n (q := 735) rfl (by decide) tk_1000 dL_law_734 rfl rfl ?_
  refine V.iload (q := 737) dL_law_735 rfl rfl ?_
  refine V.iconst (q := 738) (v := 1) (by decide) dL_law_737 rfl ?_
  refine V.iadd (q := 739) dL_law_738 rfl ?_
  obtain ⟨v1, ev1, hf⟩ := bd_ex hf
  refine V.sld (q := 740) PL_sc ev1 dL_law_739 rfl ?_
  obtain ⟨_, e2, hf⟩ := bd_ex hf
  obtain ⟨v3, h1, eh1, hf⟩ := bd2_ex hf
  refine V.callV (q := 743) (ci := 11) (vs := [.int v1]) (st := []) (S2 := [.int v3]) okX11_idleRules imX11_idleRules seX11_idleRules rfl lkL_75 (tX11_idleRules eh1) rfl (ck_is e2) (by decide) rfl (Nat.le_of_ble_eq_true rfl) (Nat.le_of_ble_eq_true rfl) rfl dL_law_740 rfl rfl ?_
  refine V.aload_n (q := 744) rfl dL_law_743 rfl rfl ?_
  refine V.aloadT_n (q := 745) rfl (by decide) tk_1000 dL_law_744 rfl rfl ?_
  refine V.iload (q := 747) dL_law_745 rfl rfl ?_
  refine V.iconst (q := 748) (v := 1) (by decide) dL_law_747 rfl ?_
  refine V.iadd (q := 749) dL_law_748 rfl ?_
  obtain ⟨v4, ev4, hf⟩ := bd_ex hf
  refine V.sld (q := 750) PL_sc ev4 dL_law_749 rfl ?_
  obtain ⟨_, e5, hf⟩ := bd_ex hf
  obtain ⟨v6, h2, eh2, hf⟩ := bd2_ex hf
  refine V.callV (q := 753) (ci := 13) (vs := [.int v4]) (st := [.int v3]) (S2 := [.int v6, .int v3]) okX13_idleRules imX13_idleRules seX13_idleRules rfl lkL_78 (tX13_idleRules eh2) rfl (ck_is e5) (by decide) rfl (Nat.le_of_ble_eq_true rfl) (Nat.le_of_ble_eq_true rfl) rfl dL_law_750 rfl rfl ?_
  refine V.icmp_eq (q := 756) (tgt := 1943) dL_law_753 rfl (by decide) (fun c => ?_) (fun c => ?_)
  · rw [if_pos c] at hf
    obtain ⟨v7, ev7, hf⟩ := bd_ex hf
    refine V.iinc (q := 1946) (v := v7) (L' := [.retAddr 1000, .ref a1, .ref a2, .ref a3, .int v7, Jk, Jk]) dL_law_1943 rfl rfl (Option.some.inj ev7) (by decide) rfl rfl ?_
    refine V.goto (q := 23) dL_law_1946 (by decide) ?_
    exact hk23 _ _ _ _ _ hf
  · rw [if_neg c] at hf
    refine V.iconst (q := 757) (v := 0) (by decide) dL_law_756 rfl ?_
    obtain ⟨rfl, rfl⟩ := ret_inj hf
    exact V.ret (r := some (.int 0)) (Or.inl rfl) dL_law_757
def bL_law_696 (Ls : Nat) (xs : Nat → Int32) (k23 : MH → Nat → Nat → Nat → Int32 → Option (Int32 × MH)) (h : MH) (a1 : Nat) (a2 : Nat) (a3 : Nat) (x4 : Int32) : Option (Int32 × MH) := bd (sld Ls xs (x4 + 1)) fun v1 => bd (sld Ls xs (x4 + 2)) fun v2 => bd (ck h a1 11) fun _ => bd2 (fX11_sayers h a1 v1 v2) fun v4 h1 => bd (sld Ls xs (x4 + 1)) fun v5 => bd (sld Ls xs (x4 + 2)) fun v6 => bd (ck h1 a2 13) fun _ => bd2 (fX13_sayers h1 a2 v5 v6) fun v8 h2 => if v4 = v8 then (bd (some (x4 + 6)) fun v9 => k23 h2 a1 a2 a3 v9) else (some (0, h2))
set_option maxRecDepth 20000 in
theorem tL_law_696 {Ls : Nat} {xs : Nat → Int32} {r : Int32} {h' : MH} (k23 : MH → Nat → Nat → Nat → Int32 → Option (Int32 × MH)) (hk23 : ∀ (h : MH) (a1 : Nat) (a2 : Nat) (a3 : Nat) (x4 : Int32), k23 h a1 a2 a3 x4 = some (r, h') → V (PL Ls xs) mL_law 18 (some (.int r)) h' h 23 [.retAddr 1000, .ref a1, .ref a2, .ref a3, .int x4, Jk, Jk] [])  {h : MH} {a1 : Nat} {a2 : Nat} {a3 : Nat} {x4 : Int32} (hf : bL_law_696 Ls xs k23 h a1 a2 a3 x4 = some (r, h')) : V (PL Ls xs) mL_law 18 (some (.int r)) h' h 696 [.retAddr 1000, .ref a1, .ref a2, .ref a3, .int x4, Jk, Jk] [] := by
  unfold bL_law_696 at hf
  refine V.aload_n (q := 697) rfl dL_law_696 rfl rfl ?_
  refine V.aloadT_n (q := 698) rfl (by decide) tk_1000 dL_law_697 rfl rfl ?_
  refine V.iload (q := 700) dL_law_698 rfl rfl ?_
  refine V.iconst (q := 701) (v := 1) (by decide) dL_law_700 rfl ?_
  refine V.iadd (q := 702) dL_law_701 rfl ?_
  obtain ⟨v1, ev1, hf⟩ := bd_ex hf
  refine V.sld (q := 703) PL_sc ev1 dL_law_702 rfl ?_
  refine V.aloadT_n (q := 704) rfl (by decide) tk_1000 dL_law_703 rfl rfl ?_
  refine V.iload (q := 706) dL_law_704 rfl rfl ?_
  refine V.iconst (q := 707) (v := 2) (by decide) dL_law_706 rfl ?_
  refine V.iadd (q := 708) dL_law_707 rfl ?_
  obtain ⟨v2, ev2, hf⟩ := bd_ex hf
  refine V.sld (q := 709) PL_sc ev2 dL_law_708 rfl ?_
  obtain ⟨_, e3, hf⟩ := bd_ex hf
  obtain ⟨v4, h1, eh1, hf⟩ := bd2_ex hf
  refine V.callV (q := 712) (ci := 11) (vs := [.int v1, .int v2]) (st := []) (S2 := [.int v4]) okX11_sayers imX11_sayers seX11_sayers rfl lkL_71 (tX11_sayers eh1) rfl (ck_is e3) (by decide) rfl (Nat.le_of_ble_eq_true rfl) (Nat.le_of_ble_eq_true rfl) rfl dL_law_709 rfl rfl ?_
  refine V.aload_n (q := 713) rfl dL_law_712 rfl rfl ?_
  refine V.aloadT_n (q := 714) rfl (by decide) tk_1000 dL_law_713 rfl rfl ?_
  refine V.iload (q := 716) dL_law_714 rfl rfl ?_
  refine V.iconst (q := 717) (v := 1) (by decide) dL_law_716 rfl ?_
  refine V.iadd (q := 718) dL_law_717 rfl ?_
  obtain ⟨v5, ev5, hf⟩ := bd_ex hf
  refine V.sld (q := 719) PL_sc ev5 dL_law_718 rfl ?_
  refine V.aloadT_n (q := 720) rfl (by decide) tk_1000 dL_law_719 rfl rfl ?_
  refine V.iload (q := 722) dL_law_720 rfl rfl ?_
  refine V.iconst (q := 723) (v := 2) (by decide) dL_law_722 rfl ?_
  refine V.iadd (q := 724) dL_law_723 rfl ?_
  obtain ⟨v6, ev6, hf⟩ := bd_ex hf
  refine V.sld (q := 725) PL_sc ev6 dL_law_724 rfl ?_
  obtain ⟨_, e7, hf⟩ := bd_ex hf
  obtain ⟨v8, h2, eh2, hf⟩ := bd2_ex hf
  refine V.callV (q := 728) (ci := 13) (vs := [.int v5, .int v6]) (st := [.int v4]) (S2 := [.int v8, .int v4]) okX13_sayers imX13_sayers seX13_sayers rfl lkL_74 (tX13_sayers eh2) rfl (ck_is e7) (by decide) rfl (Nat.le_of_ble_eq_true rfl) (Nat.le_of_ble_eq_true rfl) rfl dL_law_725 rfl rfl ?_
  refine V.icmp_eq (q := 731) (tgt := 1943) dL_law_728 rfl (by decide) (fun c => ?_) (fun c => ?_)
  · rw [if_pos c] at hf
    obtain ⟨v9, ev9, hf⟩ := bd_ex hf
    refine V.iinc (q := 1946) (v := v9) (L' := [.retAddr 1000, .ref a1, .ref a2, .ref a3, .int v9, Jk, Jk]) dL_law_1943 rfl rfl (Option.some.inj ev9) (by decide) rfl rfl ?_
    refine V.goto (q := 23) dL_law_1946 (by decide) ?_
    exact hk23 _ _ _ _ _ hf
  · rw [if_neg c] at hf
    refine V.iconst (q := 732) (v := 0) (by decide) dL_law_731 rfl ?_
    obtain ⟨rfl, rfl⟩ := ret_inj hf
    exact V.ret (r := some (.int 0)) (Or.inl rfl) dL_law_732
def bL_law_647 (Ls : Nat) (xs : Nat → Int32) (k23 : MH → Nat → Nat → Nat → Int32 → Option (Int32 × MH)) (h : MH) (a1 : Nat) (a2 : Nat) (a3 : Nat) (x4 : Int32) : Option (Int32 × MH) := bd (sld Ls xs (x4 + 1)) fun v1 => bd (sld Ls xs (x4 + 2)) fun v2 => bd (sld Ls xs (x4 + 3)) fun v3 => bd (ck h a1 11) fun _ => bd2 (fX11_prints h a1 v1 v2 v3) fun v5 h1 => bd (sld Ls xs (x4 + 1)) fun v6 => bd (sld Ls xs (x4 + 2)) fun v7 => bd (sld Ls xs (x4 + 3)) fun v8 => bd (ck h1 a2 13) fun _ => bd2 (fX13_prints h1 a2 v6 v7 v8) fun v10 h2 => if v5 = v10 then (bd (some (x4 + 6)) fun v11 => k23 h2 a1 a2 a3 v11) else (some (0, h2))
set_option maxRecDepth 20000 in
theorem tL_law_647 {Ls : Nat} {xs : Nat → Int32} {r : Int32} {h' : MH} (k23 : MH → Nat → Nat → Nat → Int32 → Option (Int32 × MH)) (hk23 : ∀ (h : MH) (a1 : Nat) (a2 : Nat) (a3 : Nat) (x4 : Int32), k23 h a1 a2 a3 x4 = some (r, h') → V (PL Ls xs) mL_law 18 (some (.int r)) h' h 23 [.retAddr 1000, .ref a1, .ref a2, .ref a3, .int x4, Jk, Jk] [])  {h : MH} {a1 : Nat} {a2 : Nat} {a3 : Nat} {x4 : Int32} (hf : bL_law_647 Ls xs k23 h a1 a2 a3 x4 = some (r, h')) : V (PL Ls xs) mL_law 18 (some (.int r)) h' h 647 [.retAddr 1000, .ref a1, .ref a2, .ref a3, .int x4, Jk, Jk] [] := by
  unfold bL_law_647 at hf
  refine V.aload_n (q := 648) rfl dL_law_647 rfl rfl ?_
  refine V.aloadT_n (q := 649) rfl (by decide) tk_1000 dL_law_648 rfl rfl ?_
  refine V.iload (q := 651) dL_law_649 rfl rfl ?_
  refine V.iconst (q := 652) (v := 1) (by decide) dL_law_651 rfl ?_
  refine V.iadd (q := 653) dL_law_652 rfl ?_
  obtain ⟨v1, ev1, hf⟩ := bd_ex hf
  refine V.sld (q := 654) PL_sc ev1 dL_law_653 rfl ?_
  refine V.aloadT_n (q := 655) rfl (by decide) tk_1000 dL_law_654 rfl rfl ?_
  refine V.iload (q := 657) dL_law_655 rfl rfl ?_
  refine V.iconst (q := 658) (v := 2) (by decide) dL_law_657 rfl ?_
  refine V.iadd (q := 659) dL_law_658 rfl ?_
  obtain ⟨v2, ev2, hf⟩ := bd_ex hf
  refine V.sld (q := 660) PL_sc ev2 dL_law_659 rfl ?_
  refine V.aloadT_n (q := 661) rfl (by decide) tk_1000 dL_law_660 rfl rfl ?_
  refine V.iload (q := 663) dL_law_661 rfl rfl ?_
  refine V.iconst (q := 664) (v := 3) (by decide) dL_law_663 rfl ?_
  refine V.iadd (q := 665) dL_law_664 rfl ?_
  obtain ⟨v3, ev3, hf⟩ := bd_ex hf
  refine V.sld (q := 666) PL_sc ev3 dL_law_665 rfl ?_
  obtain ⟨_, e4, hf⟩ := bd_ex hf
  obtain ⟨v5, h1, eh1, hf⟩ := bd2_ex hf
  refine V.callV (q := 669) (ci := 11) (vs := [.int v1, .int v2, .int v3]) (st := []) (S2 := [.int v5]) okX11_prints imX11_prints seX11_prints rfl lkL_66 (tX11_prints eh1) rfl (ck_is e4) (by decide) rfl (Nat.le_of_ble_eq_true rfl) (Nat.le_of_ble_eq_true rfl) rfl dL_law_666 rfl rfl ?_
  refine V.aload_n (q := 670) rfl dL_law_669 rfl rfl ?_
  refine V.aloadT_n (q := 671) rfl (by decide) tk_1000 dL_law_670 rfl rfl ?_
  refine V.iload (q := 673) dL_law_671 rfl rfl ?_
  refine V.iconst (q := 674) (v := 1) (by decide) dL_law_673 rfl ?_
  refine V.iadd (q := 675) dL_law_674 rfl ?_
  obtain ⟨v6, ev6, hf⟩ := bd_ex hf
  refine V.sld (q := 676) PL_sc ev6 dL_law_675 rfl ?_
  refine V.aloadT_n (q := 677) rfl (by decide) tk_1000 dL_law_676 rfl rfl ?_
  refine V.iload (q := 679) dL_law_677 rfl rfl ?_
  refine V.iconst (q := 680) (v := 2) (by decide) dL_law_679 rfl ?_
  refine V.iadd (q := 681) dL_law_680 rfl ?_
  obtain ⟨v7, ev7, hf⟩ := bd_ex hf
  refine V.sld (q := 682) PL_sc ev7 dL_law_681 rfl ?_
  refine V.aloadT_n (q := 683) rfl (by decide) tk_1000 dL_law_682 rfl rfl ?_
  refine V.iload (q := 685) dL_law_683 rfl rfl ?_
  refine V.iconst (q := 686) (v := 3) (by decide) dL_law_685 rfl ?_
  refine V.iadd (q := 687) dL_law_686 rfl ?_
  obtain ⟨v8, ev8, hf⟩ := bd_ex hf
  refine V.sld (q := 688) PL_sc ev8 dL_law_687 rfl ?_
  obtain ⟨_, e9, hf⟩ := bd_ex hf
  obtain ⟨v10, h2, eh2, hf⟩ := bd2_ex hf
  refine V.callV (q := 691) (ci := 13) (vs := [.int v6, .int v7, .int v8]) (st := [.int v5]) (S2 := [.int v10, .int v5]) okX13_prints imX13_prints seX13_prints rfl lkL_70 (tX13_prints eh2) rfl (ck_is e9) (by decide) rfl (Nat.le_of_ble_eq_true rfl) (Nat.le_of_ble_eq_true rfl) rfl dL_law_688 rfl rfl ?_
  refine V.icmp_eq (q := 694) (tgt := 1943) dL_law_691 rfl (by decide) (fun c => ?_) (fun c => ?_)
  · rw [if_pos c] at hf
    obtain ⟨v11, ev11, hf⟩ := bd_ex hf
    refine V.iinc (q := 1946) (v := v11) (L' := [.retAddr 1000, .ref a1, .ref a2, .ref a3, .int v11, Jk, Jk]) dL_law_1943 rfl rfl (Option.some.inj ev11) (by decide) rfl rfl ?_
    refine V.goto (q := 23) dL_law_1946 (by decide) ?_
    exact hk23 _ _ _ _ _ hf
  · rw [if_neg c] at hf
    refine V.iconst (q := 695) (v := 0) (by decide) dL_law_694 rfl ?_
    obtain ⟨rfl, rfl⟩ := ret_inj hf
    exact V.ret (r := some (.int 0)) (Or.inl rfl) dL_law_695
def bL_law_610 (Ls : Nat) (xs : Nat → Int32) (k23 : MH → Nat → Nat → Nat → Int32 → Option (Int32 × MH)) (h : MH) (a1 : Nat) (a2 : Nat) (a3 : Nat) (x4 : Int32) : Option (Int32 × MH) := bd (sld Ls xs (x4 + 1)) fun v1 => bd (sld Ls xs (x4 + 2)) fun v2 => bd (ck h a1 11) fun _ => bd2 (fX11_saysOf h a1 v1 v2) fun v4 h1 => bd (sld Ls xs (x4 + 1)) fun v5 => bd (sld Ls xs (x4 + 2)) fun v6 => bd (ck h1 a2 13) fun _ => bd2 (fX13_saysOf h1 a2 v5 v6) fun v8 h2 => if v4 = v8 then (bd (some (x4 + 6)) fun v9 => k23 h2 a1 a2 a3 v9) else (some (0, h2))
set_option maxRecDepth 20000 in
theorem tL_law_610 {Ls : Nat} {xs : Nat → Int32} {r : Int32} {h' : MH} (k23 : MH → Nat → Nat → Nat → Int32 → Option (Int32 × MH)) (hk23 : ∀ (h : MH) (a1 : Nat) (a2 : Nat) (a3 : Nat) (x4 : Int32), k23 h a1 a2 a3 x4 = some (r, h') → V (PL Ls xs) mL_law 18 (some (.int r)) h' h 23 [.retAddr 1000, .ref a1, .ref a2, .ref a3, .int x4, Jk, Jk] [])  {h : MH} {a1 : Nat} {a2 : Nat} {a3 : Nat} {x4 : Int32} (hf : bL_law_610 Ls xs k23 h a1 a2 a3 x4 = some (r, h')) : V (PL Ls xs) mL_law 18 (some (.int r)) h' h 610 [.retAddr 1000, .ref a1, .ref a2, .ref a3, .int x4, Jk, Jk] [] := by
  unfold bL_law_610 at hf
  refine V.aload_n (q := 611) rfl dL_law_610 rfl rfl ?_
  refine V.aloadT_n (q := 612) rfl (by decide) tk_1000 dL_law_611 rfl rfl ?_
  refine V.iload (q := 614) dL_law_612 rfl rfl ?_
  refine V.iconst (q := 615) (v := 1) (by decide) dL_law_614 rfl ?_
  refine V.iadd (q := 616) dL_law_615 rfl ?_
  obtain ⟨v1, ev1, hf⟩ := bd_ex hf
  refine V.sld (q := 617) PL_sc ev1 dL_law_616 rfl ?_
  refine V.aloadT_n (q := 618) rfl (by decide) tk_1000 dL_law_617 rfl rfl ?_
  refine V.iload (q := 620) dL_law_618 rfl rfl ?_
  refine V.iconst (q := 621) (v := 2) (by decide) dL_law_620 rfl ?_
  refine V.iadd (q := 622) dL_law_621 rfl ?_
  obtain ⟨v2, ev2, hf⟩ := bd_ex hf
  refine V.sld (q := 623) PL_sc ev2 dL_law_622 rfl ?_
  obtain ⟨_, e3, hf⟩ := bd_ex hf
  obtain ⟨v4, h1, eh1, hf⟩ := bd2_ex hf
  refine V.callV (q := 626) (ci := 11) (vs := [.int v1, .int v2]) (st := []) (S2 := [.int v4]) okX11_saysOf imX11_saysOf seX11_saysOf rfl lkL_62 (tX11_saysOf eh1) rfl (ck_is e3) (by decide) rfl (Nat.le_of_ble_eq_true rfl) (Nat.le_of_ble_eq_true rfl) rfl dL_law_623 rfl rfl ?_
  refine V.aload_n (q := 627) rfl dL_law_626 rfl rfl ?_
  refine V.aloadT_n (q := 628) rfl (by decide) tk_1000 dL_law_627 rfl rfl ?_
  refine V.iload (q := 630) dL_law_628 rfl rfl ?_
  refine V.iconst (q := 631) (v := 1) (by decide) dL_law_630 rfl ?_
  refine V.iadd (q := 632) dL_law_631 rfl ?_
  obtain ⟨v5, ev5, hf⟩ := bd_ex hf
  refine V.sld (q := 633) PL_sc ev5 dL_law_632 rfl ?_
  refine V.aloadT_n (q := 634) rfl (by decide) tk_1000 dL_law_633 rfl rfl ?_
  refine V.iload (q := 636) dL_law_634 rfl rfl ?_
  refine V.iconst (q := 637) (v := 2) (by decide) dL_law_636 rfl ?_
  refine V.iadd (q := 638) dL_law_637 rfl ?_
  obtain ⟨v6, ev6, hf⟩ := bd_ex hf
  refine V.sld (q := 639) PL_sc ev6 dL_law_638 rfl ?_
  obtain ⟨_, e7, hf⟩ := bd_ex hf
  obtain ⟨v8, h2, eh2, hf⟩ := bd2_ex hf
  refine V.callV (q := 642) (ci := 13) (vs := [.int v5, .int v6]) (st := [.int v4]) (S2 := [.int v8, .int v4]) okX13_saysOf imX13_saysOf seX13_saysOf rfl lkL_65 (tX13_saysOf eh2) rfl (ck_is e7) (by decide) rfl (Nat.le_of_ble_eq_true rfl) (Nat.le_of_ble_eq_true rfl) rfl dL_law_639 rfl rfl ?_
  refine V.icmp_eq (q := 645) (tgt := 1943) dL_law_642 rfl (by decide) (fun c => ?_) (fun c => ?_)
  · rw [if_pos c] at hf
    obtain ⟨v9, ev9, hf⟩ := bd_ex hf
    refine V.iinc (q := 1946) (v := v9) (L' := [.retAddr 1000, .ref a1, .ref a2, .ref a3, .int v9, Jk, Jk]) dL_law_1943 rfl rfl (Option.some.inj ev9) (by decide) rfl rfl ?_
    refine V.goto (q := 23) dL_law_1946 (by decide) ?_
    exact hk23 _ _ _ _ _ hf
  · rw [if_neg c] at hf
    refine V.iconst (q := 646) (v := 0) (by decide) dL_law_645 rfl ?_
    obtain ⟨rfl, rfl⟩ := ret_inj hf
    exact V.ret (r := some (.int 0)) (Or.inl rfl) dL_law_646
def bL_law_573 (Ls : Nat) (xs : Nat → Int32) (k23 : MH → Nat → Nat → Nat → Int32 → Option (Int32 × MH)) (h : MH) (a1 : Nat) (a2 : Nat) (a3 : Nat) (x4 : Int32) : Option (Int32 × MH) := bd (sld Ls xs (x4 + 1)) fun v1 => bd (sld Ls xs (x4 + 2)) fun v2 => bd (ck h a1 11) fun _ => bd2 (fX11_byRule h a1 v1 v2) fun v4 h1 => bd (sld Ls xs (x4 + 1)) fun v5 => bd (sld Ls xs (x4 + 2)) fun v6 => bd (ck h1 a2 13) fun _ => bd2 (fX13_byRule h1 a2 v5 v6) fun v8 h2 => if v4 = v8 then (bd (some (x4 + 6)) fun v9 => k23 h2 a1 a2 a3 v9) else (some (0, h2))
set_option maxRecDepth 20000 in
theorem tL_law_573 {Ls : Nat} {xs : Nat → Int32} {r : Int32} {h' : MH} (k23 : MH → Nat → Nat → Nat → Int32 → Option (Int32 × MH)) (hk23 : ∀ (h : MH) (a1 : Nat) (a2 : Nat) (a3 : Nat) (x4 : Int32), k23 h a1 a2 a3 x4 = some (r, h') → V (PL Ls xs) mL_law 18 (some (.int r)) h' h 23 [.retAddr 1000, .ref a1, .ref a2, .ref a3, .int x4, Jk, Jk] [])  {h : MH} {a1 : Nat} {a2 : Nat} {a3 : Nat} {x4 : Int32} (hf : bL_law_573 Ls xs k23 h a1 a2 a3 x4 = some (r, h')) : V (PL Ls xs) mL_law 18 (some (.int r)) h' h 573 [.retAddr 1000, .ref a1, .ref a2, .ref a3, .int x4, Jk, Jk] [] := by
  unfold bL_law_573 at hf
  refine V.aload_n (q := 574) rfl dL_law_573 rfl rfl ?_
  refine V.aloadT_n (q := 575) rfl (by decide) tk_1000 dL_law_574 rfl rfl ?_
  refine V.iload (q := 577) dL_law_575 rfl rfl ?_
  refine V.iconst (q := 578) (v := 1) (by decide) dL_law_577 rfl ?_
  refine V.iadd (q := 579) dL_law_578 rfl ?_
  obtain ⟨v1, ev1, hf⟩ := bd_ex hf
  refine V.sld (q := 580) PL_sc ev1 dL_law_579 rfl ?_
  refine V.aloadT_n (q := 581) rfl (by decide) tk_1000 dL_law_580 rfl rfl ?_
  refine V.iload (q := 583) dL_law_581 rfl rfl ?_
  refine V.iconst (q := 584) (v := 2) (by decide) dL_law_583 rfl ?_
  refine V.iadd (q := 585) dL_law_584 rfl ?_
  obtain ⟨v2, ev2, hf⟩ := bd_ex hf
  refine V.sld (q := 586) PL_sc ev2 dL_law_585 rfl ?_
  obtain ⟨_, e3, hf⟩ := bd_ex hf
  obtain ⟨v4, h1, eh1, hf⟩ := bd2_ex hf
  refine V.callV (q := 589) (ci := 11) (vs := [.int v1, .int v2]) (st := []) (S2 := [.int v4]) okX11_byRule imX11_byRule seX11_byRule rfl lkL_58 (tX11_byRule eh1) rfl (ck_is e3) (by decide) rfl (Nat.le_of_ble_eq_true rfl) (Nat.le_of_ble_eq_true rfl) rfl dL_law_586 rfl rfl ?_
  refine V.aload_n (q := 590) rfl dL_law_589 rfl rfl ?_
  refine V.aloadT_n (q := 591) rfl (by decide) tk_1000 dL_law_590 rfl rfl ?_
  refine V.iload (q := 593) dL_law_591 rfl rfl ?_
  refine V.iconst (q := 594) (v := 1) (by decide) dL_law_593 rfl ?_
  refine V.iadd (q := 595) dL_law_594 rfl ?_
  obtain ⟨v5, ev5, hf⟩ := bd_ex hf
  refine V.sld (q := 596) PL_sc ev5 dL_law_595 rfl ?_
  refine V.aloadT_n (q := 597) rfl (by decide) tk_1000 dL_law_596 rfl rfl ?_
  refine V.iload (q := 599) dL_law_597 rfl rfl ?_
  refine V.iconst (q := 600) (v := 2) (by decide) dL_law_599 rfl ?_
  refine V.iadd (q := 601) dL_law_600 rfl ?_
  obtain ⟨v6, ev6, hf⟩ := bd_ex hf
  refine V.sld (q := 602) PL_sc ev6 dL_law_601 rfl ?_
  obtain ⟨_, e7, hf⟩ := bd_ex hf
  obtain ⟨v8, h2, eh2, hf⟩ := bd2_ex hf
  refine V.callV (q := 605) (ci := 13) (vs := [.int v5, .int v6]) (st := [.int v4]) (S2 := [.int v8, .int v4]) okX13_byRule imX13_byRule seX13_byRule rfl lkL_61 (tX13_byRule eh2) rfl (ck_is e7) (by decide) rfl (Nat.le_of_ble_eq_true rfl) (Nat.le_of_ble_eq_true rfl) rfl dL_law_602 rfl rfl ?_
  refine V.icmp_eq (q := 608) (tgt := 1943) dL_law_605 rfl (by decide) (fun c => ?_) (fun c => ?_)
  · rw [if_pos c] at hf
    obtain ⟨v9, ev9, hf⟩ := bd_ex hf
    refine V.iinc (q := 1946) (v := v9) (L' := [.retAddr 1000, .ref a1, .ref a2, .ref a3, .int v9, Jk, Jk]) dL_law_1943 rfl rfl (Option.some.inj ev9) (by decide) rfl rfl ?_
    refine V.goto (q := 23) dL_law_1946 (by decide) ?_
    exact hk23 _ _ _ _ _ hf
  · rw [if_neg c] at hf
    refine V.iconst (q := 609) (v := 0) (by decide) dL_law_608 rfl ?_
    obtain ⟨rfl, rfl⟩ := ret_inj hf
    exact V.ret (r := some (.int 0)) (Or.inl rfl) dL_law_609
def bL_law_536 (Ls : Nat) (xs : Nat → Int32) (k23 : MH → Nat → Nat → Nat → Int32 → Option (Int32 × MH)) (h : MH) (a1 : Nat) (a2 : Nat) (a3 : Nat) (x4 : Int32) : Option (Int32 × MH) := bd (sld Ls xs (x4 + 1)) fun v1 => bd (sld Ls xs (x4 + 2)) fun v2 => bd (ck h a1 11) fun _ => bd2 (fX11_says h a1 v1 v2) fun v4 h1 => bd (sld Ls xs (x4 + 1)) fun v5 => bd (sld Ls xs (x4 + 2)) fun v6 => bd (ck h1 a2 13) fun _ => bd2 (fX13_says h1 a2 v5 v6) fun v8 h2 => if v4 = v8 then (bd (some (x4 + 6)) fun v9 => k23 h2 a1 a2 a3 v9) else (some (0, h2))
set_option maxRecDepth 20000 in
theorem tL_law_536 {Ls : Nat} {xs : Nat → Int32} {r : Int32} {h' : MH} (k23 : MH → Nat → Nat → Nat → Int32 → Option (Int32 × MH)) (hk23 : ∀ (h : MH) (a1 : Nat) (a2 : Nat) (a3 : Nat) (x4 : Int32), k23 h a1 a2 a3 x4 = some (r, h') → V (PL Ls xs) mL_law 18 (some (.int r)) h' h 23 [.retAddr 1000, .ref a1, .ref a2, .ref a3, .int x4, Jk, Jk] [])  {h : MH} {a1 : Nat} {a2 : Nat} {a3 : Nat} {x4 : Int32} (hf : bL_law_536 Ls xs k23 h a1 a2 a3 x4 = some (r, h')) : V (PL Ls xs) mL_law 18 (some (.int r)) h' h 536 [.retAddr 1000, .ref a1, .ref a2, .ref a3, .int x4, Jk, Jk] [] := by
  unfold bL_law_536 at hf
  refine V.aload_n (q := 537) rfl dL_law_536 rfl rfl ?_
  refine V.aloadT_n (q := 538) rfl (by decide) tk_1000 dL_law_537 rfl rfl ?_
  refine V.iload (q := 540) dL_law_538 rfl rfl ?_
  refine V.iconst (q := 541) (v := 1) (by decide) dL_law_540 rfl ?_
  refine V.iadd (q := 542) dL_law_541 rfl ?_
  obtain ⟨v1, ev1, hf⟩ := bd_ex hf
  refine V.sld (q := 543) PL_sc ev1 dL_law_542 rfl ?_
  refine V.aloadT_n (q := 544) rfl (by decide) tk_1000 dL_law_543 rfl rfl ?_
  refine V.iload (q := 546) dL_law_544 rfl rfl ?_
  refine V.iconst (q := 547) (v := 2) (by decide) dL_law_546 rfl ?_
  refine V.iadd (q := 548) dL_law_547 rfl ?_
  obtain ⟨v2, ev2, hf⟩ := bd_ex hf
  refine V.sld (q := 549) PL_sc ev2 dL_law_548 rfl ?_
  obtain ⟨_, e3, hf⟩ := bd_ex hf
  obtain ⟨v4, h1, eh1, hf⟩ := bd2_ex hf
  refine V.callV (q := 552) (ci := 11) (vs := [.int v1, .int v2]) (st := []) (S2 := [.int v4]) okX11_says imX11_says seX11_says rfl lkL_54 (tX11_says eh1) rfl (ck_is e3) (by decide) rfl (Nat.le_of_ble_eq_true rfl) (Nat.le_of_ble_eq_true rfl) rfl dL_law_549 rfl rfl ?_
  refine V.aload_n (q := 553) rfl dL_law_552 rfl rfl ?_
  refine V.aloadT_n (q := 554) rfl (by decide) tk_1000 dL_law_553 rfl rfl ?_
  refine V.iload (q := 556) dL_law_554 rfl rfl ?_
  refine V.iconst (q := 557) (v := 1) (by decide) dL_law_556 rfl ?_
  refine V.iadd (q := 558) dL_law_557 rfl ?_
  obtain ⟨v5, ev5, hf⟩ := bd_ex hf
  refine V.sld (q := 559) PL_sc ev5 dL_law_558 rfl ?_
  refine V.aloadT_n (q := 560) rfl (by decide) tk_1000 dL_law_559 rfl rfl ?_
  refine V.iload (q := 562) dL_law_560 rfl rfl ?_
  refine V.iconst (q := 563) (v := 2) (by decide) dL_law_562 rfl ?_
  refine V.iadd (q := 564) dL_law_563 rfl ?_
  obtain ⟨v6, ev6, hf⟩ := bd_ex hf
  refine V.sld (q := 565) PL_sc ev6 dL_law_564 rfl ?_
  obtain ⟨_, e7, hf⟩ := bd_ex hf
  obtain ⟨v8, h2, eh2, hf⟩ := bd2_ex hf
  refine V.callV (q := 568) (ci := 13) (vs := [.int v5, .int v6]) (st := [.int v4]) (S2 := [.int v8, .int v4]) okX13_says imX13_says seX13_says rfl lkL_57 (tX13_says eh2) rfl (ck_is e7) (by decide) rfl (Nat.le_of_ble_eq_true rfl) (Nat.le_of_ble_eq_true rfl) rfl dL_law_565 rfl rfl ?_
  refine V.icmp_eq (q := 571) (tgt := 1943) dL_law_568 rfl (by decide) (fun c => ?_) (fun c => ?_)
  · rw [if_pos c] at hf
    obtain ⟨v9, ev9, hf⟩ := bd_ex hf
    refine V.iinc (q := 1946) (v := v9) (L' := [.retAddr 1000, .ref a1, .ref a2, .ref a3, .int v9, Jk, Jk]) dL_law_1943 rfl rfl (Option.some.inj ev9) (by decide) rfl rfl ?_
    refine V.goto (q := 23) dL_law_1946 (by decide) ?_
    exact hk23 _ _ _ _ _ hf
  · rw [if_neg c] at hf
    refine V.iconst (q := 572) (v := 0) (by decide) dL_law_571 rfl ?_
    obtain ⟨rfl, rfl⟩ := ret_inj hf
    exact V.ret (r := some (.int 0)) (Or.inl rfl) dL_law_572
def bL_law_499 (Ls : Nat) (xs : Nat → Int32) (k23 : MH → Nat → Nat → Nat → Int32 → Option (Int32 × MH)) (h : MH) (a1 : Nat) (a2 : Nat) (a3 : Nat) (x4 : Int32) : Option (Int32 × MH) := bd (sld Ls xs (x4 + 1)) fun v1 => bd (sld Ls xs (x4 + 2)) fun v2 => bd (ck h a1 11) fun _ => bd2 (fX11_rule h a1 v1 v2) fun v4 h1 => bd (sld Ls xs (x4 + 1)) fun v5 => bd (sld Ls xs (x4 + 2)) fun v6 => bd (ck h1 a2 13) fun _ => bd2 (fX13_rule h1 a2 v5 v6) fun v8 h2 => if v4 = v8 then (bd (some (x4 + 6)) fun v9 => k23 h2 a1 a2 a3 v9) else (some (0, h2))
set_option maxRecDepth 20000 in
theorem tL_law_499 {Ls : Nat} {xs : Nat → Int32} {r : Int32} {h' : MH} (k23 : MH → Nat → Nat → Nat → Int32 → Option (Int32 × MH)) (hk23 : ∀ (h : MH) (a1 : Nat) (a2 : Nat) (a3 : Nat) (x4 : Int32), k23 h a1 a2 a3 x4 = some (r, h') → V (PL Ls xs) mL_law 18 (some (.int r)) h' h 23 [.retAddr 1000, .ref a1, .ref a2, .ref a3, .int x4, Jk, Jk] [])  {h : MH} {a1 : Nat} {a2 : Nat} {a3 : Nat} {x4 : Int32} (hf : bL_law_499 Ls xs k23 h a1 a2 a3 x4 = some (r, h')) : V (PL Ls xs) mL_law 18 (some (.int r)) h' h 499 [.retAddr 1000, .ref a1, .ref a2, .ref a3, .int x4, Jk, Jk] [] := by
  unfold bL_law_499 at hf
  refine V.aload_n (q := 500) rfl dL_law_499 rfl rfl ?_
  refine V.aloadT_n (q := 501) rfl (by decide) tk_1000 dL_law_500 rfl rfl ?_
  refine V.iload (q := 503) dL_law_501 rfl rfl ?_
  refine V.iconst (q := 504) (v := 1) (by decide) dL_law_503 rfl ?_
  refine V.iadd (q := 505) dL_law_504 rfl ?_
  obtain ⟨v1, ev1, hf⟩ := bd_ex hf
  refine V.sld (q := 506) PL_sc ev1 dL_law_505 rfl ?_
  refine V.aloadT_n (q := 507) rfl (by decide) tk_1000 dL_law_506 rfl rfl ?_
  refine V.iload (q := 509) dL_law_507 rfl rfl ?_
  refine V.iconst (q := 510) (v := 2) (by decide) dL_law_509 rfl ?_
  refine V.iadd (q := 511) dL_law_510 rfl ?_
  obtain ⟨v2, ev2, hf⟩ := bd_ex hf
  refine V.sld (q := 512) PL_sc ev2 dL_law_511 rfl ?_
  obtain ⟨_, e3, hf⟩ := bd_ex hf
  obtain ⟨v4, h1, eh1, hf⟩ := bd2_ex hf
  refine V.callV (q := 515) (ci := 11) (vs := [.int v1, .int v2]) (st := []) (S2 := [.int v4]) okX11_rule imX11_rule seX11_rule rfl lkL_50 (tX11_rule eh1) rfl (ck_is e3) (by decide) rfl (Nat.le_of_ble_eq_true rfl) (Nat.le_of_ble_eq_true rfl) rfl dL_law_512 rfl rfl ?_
  refine V.aload_n (q := 516) rfl dL_law_515 rfl rfl ?_
  refine V.aloadT_n (q := 517) rfl (by decide) tk_1000 dL_law_516 rfl rfl ?_
  refine V.iload (q := 519) dL_law_517 rfl rfl ?_
  refine V.iconst (q := 520) (v := 1) (by decide) dL_law_519 rfl ?_
  refine V.iadd (q := 521) dL_law_520 rfl ?_
  obtain ⟨v5, ev5, hf⟩ := bd_ex hf
  refine V.sld (q := 522) PL_sc ev5 dL_law_521 rfl ?_
  refine V.aloadT_n (q := 523) rfl (by decide) tk_1000 dL_law_522 rfl rfl ?_
  refine V.iload (q := 525) dL_law_523 rfl rfl ?_
  refine V.iconst (q := 526) (v := 2) (by decide) dL_law_525 rfl ?_
  refine V.iadd (q := 527) dL_law_526 rfl ?_
  obtain ⟨v6, ev6, hf⟩ := bd_ex hf
  refine V.sld (q := 528) PL_sc ev6 dL_law_527 rfl ?_
  obtain ⟨_, e7, hf⟩ := bd_ex hf
  obtain ⟨v8, h2, eh2, hf⟩ := bd2_ex hf
  refine V.callV (q := 531) (ci := 13) (vs := [.int v5, .int v6]) (st := [.int v4]) (S2 := [.int v8, .int v4]) okX13_rule imX13_rule seX13_rule rfl lkL_53 (tX13_rule eh2) rfl (ck_is e7) (by decide) rfl (Nat.le_of_ble_eq_true rfl) (Nat.le_of_ble_eq_true rfl) rfl dL_law_528 rfl rfl ?_
  refine V.icmp_eq (q := 534) (tgt := 1943) dL_law_531 rfl (by decide) (fun c => ?_) (fun c => ?_)
  · rw [if_pos c] at hf
    obtain ⟨v9, ev9, hf⟩ := bd_ex hf
    refine V.iinc (q := 1946) (v := v9) (L' := [.retAddr 1000, .ref a1, .ref a2, .ref a3, .int v9, Jk, Jk]) dL_law_1943 rfl rfl (Option.some.inj ev9) (by decide) rfl rfl ?_
    refine V.goto (q := 23) dL_law_1946 (by decide) ?_
    exact hk23 _ _ _ _ _ hf
  · rw [if_neg c] at hf
    refine V.iconst (q := 535) (v := 0) (by decide) dL_law_534 rfl ?_
    obtain ⟨rfl, rfl⟩ := ret_inj hf
    exact V.ret (r := some (.int 0)) (Or.inl rfl) dL_law_535
def bL_law_462 (Ls : Nat) (xs : Nat → Int32) (k23 : MH → Nat → Nat → Nat → Int32 → Option (Int32 × MH)) (h : MH) (a1 : Nat) (a2 : Nat) (a3 : Nat) (x4 : Int32) : Option (Int32 × MH) := bd (sld Ls xs (x4 + 1)) fun v1 => bd (sld Ls xs (x4 + 2)) fun v2 => bd (ck h a1 11) fun _ => bd2 (fX11_hand h a1 v1 v2) fun v4 h1 => bd (sld Ls xs (x4 + 1)) fun v5 => bd (sld Ls xs (x4 + 2)) fun v6 => bd (ck h1 a2 13) fun _ => bd2 (fX13_hand h1 a2 v5 v6) fun v8 h2 => if v4 = v8 then (bd (some (x4 + 6)) fun v9 => k23 h2 a1 a2 a3 v9) else (some (0, h2))
set_option maxRecDepth 20000 in
theorem tL_law_462 {Ls : Nat} {xs : Nat → Int32} {r : Int32} {h' : MH} (k23 : MH → Nat → Nat → Nat → Int32 → Option (Int32 × MH)) (hk23 : ∀ (h : MH) (a1 : Nat) (a2 : Nat) (a3 : Nat) (x4 : Int32), k23 h a1 a2 a3 x4 = some (r, h') → V (PL Ls xs) mL_law 18 (some (.int r)) h' h 23 [.retAddr 1000, .ref a1, .ref a2, .ref a3, .int x4, Jk, Jk] [])  {h : MH} {a1 : Nat} {a2 : Nat} {a3 : Nat} {x4 : Int32} (hf : bL_law_462 Ls xs k23 h a1 a2 a3 x4 = some (r, h')) : V (PL Ls xs) mL_law 18 (some (.int r)) h' h 462 [.retAddr 1000, .ref a1, .ref a2, .ref a3, .int x4, Jk, Jk] [] := by
  unfold bL_law_462 at hf
  refine V.aload_n (q := 463) rfl dL_law_462 rfl rfl ?_
  refine V.aloadT_n (q := 464) rfl (by decide) tk_1000 dL_law_463 rfl rfl ?_
  refine V.iload (q := 466) dL_law_464 rfl rfl ?_
  refine V.iconst (q := 467) (v := 1) (by decide) dL_law_466 rfl ?_
  refine V.iadd (q := 468) dL_law_467 rfl ?_
  obtain ⟨v1, ev1, hf⟩ := bd_ex hf
  refine V.sld (q := 469) PL_sc ev1 dL_law_468 rfl ?_
  refine V.aloadT_n (q := 470) rfl (by decide) tk_1000 dL_law_469 rfl rfl ?_
  refine V.iload (q := 472) dL_law_470 rfl rfl ?_
  refine V.iconst (q := 473) (v := 2) (by decide) dL_law_472 rfl ?_
  refine V.iadd (q := 474) dL_law_473 rfl ?_
  obtain ⟨v2, ev2, hf⟩ := bd_ex hf
  refine V.sld (q := 475) PL_sc ev2 dL_law_474 rfl ?_
  obtain ⟨_, e3, hf⟩ := bd_ex hf
  obtain ⟨v4, h1, eh1, hf⟩ := bd2_ex hf
  refine V.callV (q := 478) (ci := 11) (vs := [.int v1, .int v2]) (st := []) (S2 := [.int v4]) okX11_hand imX11_hand seX11_hand rfl lkL_46 (tX11_hand eh1) rfl (ck_is e3) (by decide) rfl (Nat.le_of_ble_eq_true rfl) (Nat.le_of_ble_eq_true rfl) rfl dL_law_475 rfl rfl ?_
  refine V.aload_n (q := 479) rfl dL_law_478 rfl rfl ?_
  refine V.aloadT_n (q := 480) rfl (by decide) tk_1000 dL_law_479 rfl rfl ?_
  refine V.iload (q := 482) dL_law_480 rfl rfl ?_
  refine V.iconst (q := 483) (v := 1) (by decide) dL_law_482 rfl ?_
  refine V.iadd (q := 484) dL_law_483 rfl ?_
  obtain ⟨v5, ev5, hf⟩ := bd_ex hf
  refine V.sld (q := 485) PL_sc ev5 dL_law_484 rfl ?_
  refine V.aloadT_n (q := 486) rfl (by decide) tk_1000 dL_law_485 rfl rfl ?_
  refine V.iload (q := 488) dL_law_486 rfl rfl ?_
  refine V.iconst (q := 489) (v := 2) (by decide) dL_law_488 rfl ?_
  refine V.iadd (q := 490) dL_law_489 rfl ?_
  obtain ⟨v6, ev6, hf⟩ := bd_ex hf
  refine V.sld (q := 491) PL_sc ev6 dL_law_490 rfl ?_
  obtain ⟨_, e7, hf⟩ := bd_ex hf
  obtain ⟨v8, h2, eh2, hf⟩ := bd2_ex hf
  refine V.callV (q := 494) (ci := 13) (vs := [.int v5, .int v6]) (st := [.int v4]) (S2 := [.int v8, .int v4]) okX13_hand imX13_hand seX13_hand rfl lkL_49 (tX13_hand eh2) rfl (ck_is e7) (by decide) rfl (Nat.le_of_ble_eq_true rfl) (Nat.le_of_ble_eq_true rfl) rfl dL_law_491 rfl rfl ?_
  refine V.icmp_eq (q := 497) (tgt := 1943) dL_law_494 rfl (by decide) (fun c => ?_) (fun c => ?_)
  · rw [if_pos c] at hf
    obtain ⟨v9, ev9, hf⟩ := bd_ex hf
    refine V.iinc (q := 1946) (v := v9) (L' := [.retAddr 1000, .ref a1, .ref a2, .ref a3, .int v9, Jk, Jk]) dL_law_1943 rfl rfl (Option.some.inj ev9) (by decide) rfl rfl ?_
    refine V.goto (q := 23) dL_law_1946 (by decide) ?_
    exact hk23 _ _ _ _ _ hf
  · rw [if_neg c] at hf
    refine V.iconst (q := 498) (v := 0) (by decide) dL_law_497 rfl ?_
    obtain ⟨rfl, rfl⟩ := ret_inj hf
    exact V.ret (r := some (.int 0)) (Or.inl rfl) dL_law_498
def bL_law_425 (Ls : Nat) (xs : Nat → Int32) (k23 : MH → Nat → Nat → Nat → Int32 → Option (Int32 × MH)) (h : MH) (a1 : Nat) (a2 : Nat) (a3 : Nat) (x4 : Int32) : Option (Int32 × MH) := bd (sld Ls xs (x4 + 1)) fun v1 => bd (sld Ls xs (x4 + 2)) fun v2 => bd (ck h a1 11) fun _ => bd2 (fX11_stamp h a1 v1 v2) fun v4 h1 => bd (sld Ls xs (x4 + 1)) fun v5 => bd (sld Ls xs (x4 + 2)) fun v6 => bd (ck h1 a2 13) fun _ => bd2 (fX13_stamp h1 a2 v5 v6) fun v8 h2 => if v4 = v8 then (bd (some (x4 + 6)) fun v9 => k23 h2 a1 a2 a3 v9) else (some (0, h2))
set_option maxRecDepth 20000 in
theorem tL_law_425 {Ls : Nat} {xs : Nat → Int32} {r : Int32} {h' : MH} (k23 : MH → Nat → Nat → Nat → Int32 → Option (Int32 × MH)) (hk23 : ∀ (h : MH) (a1 : Nat) (a2 : Nat) (a3 : Nat) (x4 : Int32), k23 h a1 a2 a3 x4 = some (r, h') → V (PL Ls xs) mL_law 18 (some (.int r)) h' h 23 [.retAddr 1000, .ref a1, .ref a2, .ref a3, .int x4, Jk, Jk] [])  {h : MH} {a1 : Nat} {a2 : Nat} {a3 : Nat} {x4 : Int32} (hf : bL_law_425 Ls xs k23 h a1 a2 a3 x4 = some (r, h')) : V (PL Ls xs) mL_law 18 (some (.int r)) h' h 425 [.retAddr 1000, .ref a1, .ref a2, .ref a3, .int x4, Jk, Jk] [] := by
  unfold bL_law_425 at hf
  refine V.aload_n (q := 426) rfl dL_law_425 rfl rfl ?_
  refine V.aloadT_n (q := 427) rfl (by decide) tk_1000 dL_law_426 rfl rfl ?_
  refine V.iload (q := 429) dL_law_427 rfl rfl ?_
  refine V.iconst (q := 430) (v := 1) (by decide) dL_law_429 rfl ?_
  refine V.iadd (q := 431) dL_law_430 rfl ?_
  obtain ⟨v1, ev1, hf⟩ := bd_ex hf
  refine V.sld (q := 432) PL_sc ev1 dL_law_431 rfl ?_
  refine V.aloadT_n (q := 433) rfl (by decide) tk_1000 dL_law_432 rfl rfl ?_
  refine V.iload (q := 435) dL_law_433 rfl rfl ?_
  refine V.iconst (q := 436) (v := 2) (by decide) dL_law_435 rfl ?_
  refine V.iadd (q := 437) dL_law_436 rfl ?_
  obtain ⟨v2, ev2, hf⟩ := bd_ex hf
  refine V.sld (q := 438) PL_sc ev2 dL_law_437 rfl ?_
  obtain ⟨_, e3, hf⟩ := bd_ex hf
  obtain ⟨v4, h1, eh1, hf⟩ := bd2_ex hf
  refine V.callV (q := 441) (ci := 11) (vs := [.int v1, .int v2]) (st := []) (S2 := [.int v4]) okX11_stamp imX11_stamp seX11_stamp rfl lkL_42 (tX11_stamp eh1) rfl (ck_is e3) (by decide) rfl (Nat.le_of_ble_eq_true rfl) (Nat.le_of_ble_eq_true rfl) rfl dL_law_438 rfl rfl ?_
  refine V.aload_n (q := 442) rfl dL_law_441 rfl rfl ?_
  refine V.aloadT_n (q := 443) rfl (by decide) tk_1000 dL_law_442 rfl rfl ?_
  refine V.iload (q := 445) dL_law_443 rfl rfl ?_
  refine V.iconst (q := 446) (v := 1) (by decide) dL_law_445 rfl ?_
  refine V.iadd (q := 447) dL_law_446 rfl ?_
  obtain ⟨v5, ev5, hf⟩ := bd_ex hf
  refine V.sld (q := 448) PL_sc ev5 dL_law_447 rfl ?_
  refine V.aloadT_n (q := 449) rfl (by decide) tk_1000 dL_law_448 rfl rfl ?_
  refine V.iload (q := 451) dL_law_449 rfl rfl ?_
  refine V.iconst (q := 452) (v := 2) (by decide) dL_law_451 rfl ?_
  refine V.iadd (q := 453) dL_law_452 rfl ?_
  obtain ⟨v6, ev6, hf⟩ := bd_ex hf
  refine V.sld (q := 454) PL_sc ev6 dL_law_453 rfl ?_
  obtain ⟨_, e7, hf⟩ := bd_ex hf
  obtain ⟨v8, h2, eh2, hf⟩ := bd2_ex hf
  refine V.callV (q := 457) (ci := 13) (vs := [.int v5, .int v6]) (st := [.int v4]) (S2 := [.int v8, .int v4]) okX13_stamp imX13_stamp seX13_stamp rfl lkL_45 (tX13_stamp eh2) rfl (ck_is e7) (by decide) rfl (Nat.le_of_ble_eq_true rfl) (Nat.le_of_ble_eq_true rfl) rfl dL_law_454 rfl rfl ?_
  refine V.icmp_eq (q := 460) (tgt := 1943) dL_law_457 rfl (by decide) (fun c => ?_) (fun c => ?_)
  · rw [if_pos c] at hf
    obtain ⟨v9, ev9, hf⟩ := bd_ex hf
    refine V.iinc (q := 1946) (v := v9) (L' := [.retAddr 1000, .ref a1, .ref a2, .ref a3, .int v9, Jk, Jk]) dL_law_1943 rfl rfl (Option.some.inj ev9) (by decide) rfl rfl ?_
    refine V.goto (q := 23) dL_law_1946 (by decide) ?_
    exact hk23 _ _ _ _ _ hf
  · rw [if_neg c] at hf
    refine V.iconst (q := 461) (v := 0) (by decide) dL_law_460 rfl ?_
    obtain ⟨rfl, rfl⟩ := ret_inj hf
    exact V.ret (r := some (.int 0)) (Or.inl rfl) dL_law_461
def bL_law_388 (Ls : Nat) (xs : Nat → Int32) (k23 : MH → Nat → Nat → Nat → Int32 → Option (Int32 × MH)) (h : MH) (a1 : Nat) (a2 : Nat) (a3 : Nat) (x4 : Int32) : Option (Int32 × MH) := bd (sld Ls xs (x4 + 1)) fun v1 => bd (sld Ls xs (x4 + 2)) fun v2 => bd (ck h a1 11) fun _ => bd2 (fX11_paper h a1 v1 v2) fun v4 h1 => bd (sld Ls xs (x4 + 1)) fun v5 => bd (sld Ls xs (x4 + 2)) fun v6 => bd (ck h1 a2 13) fun _ => bd2 (fX13_paper h1 a2 v5 v6) fun v8 h2 => if v4 = v8 then (bd (some (x4 + 6)) fun v9 => k23 h2 a1 a2 a3 v9) else (some (0, h2))
set_option maxRecDepth 20000 in
theorem tL_law_388 {Ls : Nat} {xs : Nat → Int32} {r : Int32} {h' : MH} (k23 : MH → Nat → Nat → Nat → Int32 → Option (Int32 × MH)) (hk23 : ∀ (h : MH) (a1 : Nat) (a2 : Nat) (a3 : Nat) (x4 : Int32), k23 h a1 a2 a3 x4 = some (r, h') → V (PL Ls xs) mL_law 18 (some (.int r)) h' h 23 [.retAddr 1000, .ref a1, .ref a2, .ref a3, .int x4, Jk, Jk] [])  {h : MH} {a1 : Nat} {a2 : Nat} {a3 : Nat} {x4 : Int32} (hf : bL_law_388 Ls xs k23 h a1 a2 a3 x4 = some (r, h')) : V (PL Ls xs) mL_law 18 (some (.int r)) h' h 388 [.retAddr 1000, .ref a1, .ref a2, .ref a3, .int x4, Jk, Jk] [] := by
  unfold bL_law_388 at hf
  refine V.aload_n (q := 389) rfl dL_law_388 rfl rfl ?_
  refine V.aloadT_n (q := 390) rfl (by decide) tk_1000 dL_law_389 rfl rfl ?_
  refine V.iload (q := 392) dL_law_390 rfl rfl ?_
  refine V.iconst (q := 393) (v := 1) (by decide) dL_law_392 rfl ?_
  refine V.iadd (q := 394) dL_law_393 rfl ?_
  obtain ⟨v1, ev1, hf⟩ := bd_ex hf
  refine V.sld (q := 395) PL_sc ev1 dL_law_394 rfl ?_
  refine V.aloadT_n (q := 396) rfl (by decide) tk_1000 dL_law_395 rfl rfl ?_
  refine V.iload (q := 398) dL_law_396 rfl rfl ?_
  refine V.iconst (q := 399) (v := 2) (by decide) dL_law_398 rfl ?_
  refine V.iadd (q := 400) dL_law_399 rfl ?_
  obtain ⟨v2, ev2, hf⟩ := bd_ex hf
  refine V.sld (q := 401) PL_sc ev2 dL_law_400 rfl ?_
  obtain ⟨_, e3, hf⟩ := bd_ex hf
  obtain ⟨v4, h1, eh1, hf⟩ := bd2_ex hf
  refine V.callV (q := 404) (ci := 11) (vs := [.int v1, .int v2]) (st := []) (S2 := [.int v4]) okX11_paper imX11_paper seX11_paper rfl lkL_37 (tX11_paper eh1) rfl (ck_is e3) (by decide) rfl (Nat.le_of_ble_eq_true rfl) (Nat.le_of_ble_eq_true rfl) rfl dL_law_401 rfl rfl ?_
  refine V.aload_n (q := 405) rfl dL_law_404 rfl rfl ?_
  refine V.aloadT_n (q := 406) rfl (by decide) tk_1000 dL_law_405 rfl rfl ?_
  refine V.iload (q := 408) dL_law_406 rfl rfl ?_
  refine V.iconst (q := 409) (v := 1) (by decide) dL_law_408 rfl ?_
  refine V.iadd (q := 410) dL_law_409 rfl ?_
  obtain ⟨v5, ev5, hf⟩ := bd_ex hf
  refine V.sld (q := 411) PL_sc ev5 dL_law_410 rfl ?_
  refine V.aloadT_n (q := 412) rfl (by decide) tk_1000 dL_law_411 rfl rfl ?_
  refine V.iload (q := 414) dL_law_412 rfl rfl ?_
  refine V.iconst (q := 415) (v := 2) (by decide) dL_law_414 rfl ?_
  refine V.iadd (q := 416) dL_law_415 rfl ?_
  obtain ⟨v6, ev6, hf⟩ := bd_ex hf
  refine V.sld (q := 417) PL_sc ev6 dL_law_416 rfl ?_
  obtain ⟨_, e7, hf⟩ := bd_ex hf
  obtain ⟨v8, h2, eh2, hf⟩ := bd2_ex hf
  refine V.callV (q := 420) (ci := 13) (vs := [.int v5, .int v6]) (st := [.int v4]) (S2 := [.int v8, .int v4]) okX13_paper imX13_paper seX13_paper rfl lkL_41 (tX13_paper eh2) rfl (ck_is e7) (by decide) rfl (Nat.le_of_ble_eq_true rfl) (Nat.le_of_ble_eq_true rfl) rfl dL_law_417 rfl rfl ?_
  refine V.icmp_eq (q := 423) (tgt := 1943) dL_law_420 rfl (by decide) (fun c => ?_) (fun c => ?_)
  · rw [if_pos c] at hf
    obtain ⟨v9, ev9, hf⟩ := bd_ex hf
    refine V.iinc (q := 1946) (v := v9) (L' := [.retAddr 1000, .ref a1, .ref a2, .ref a3, .int v9, Jk, Jk]) dL_law_1943 rfl rfl (Option.some.inj ev9) (by decide) rfl rfl ?_
    refine V.goto (q := 23) dL_law_1946 (by decide) ?_
    exact hk23 _ _ _ _ _ hf
  · rw [if_neg c] at hf
    refine V.iconst (q := 424) (v := 0) (by decide) dL_law_423 rfl ?_
    obtain ⟨rfl, rfl⟩ := ret_inj hf
    exact V.ret (r := some (.int 0)) (Or.inl rfl) dL_law_424
def bL_law_375 (Ls : Nat) (xs : Nat → Int32) (k23 : MH → Nat → Nat → Nat → Int32 → Option (Int32 × MH)) (h : MH) (a1 : Nat) (a2 : Nat) (a3 : Nat) (x4 : Int32) : Option (Int32 × MH) := bd (ck h a1 11) fun _ => bd2 (fX11_where h a1 ) fun v2 h1 => bd (ck h1 a2 13) fun _ => bd2 (fX13_where h1 a2 ) fun v4 h2 => if v2 = v4 then (bd (some (x4 + 6)) fun v5 => k23 h2 a1 a2 a3 v5) else (some (0, h2))
set_option maxRecDepth 20000 in
theorem tL_law_375 {Ls : Nat} {xs : Nat → Int32} {r : Int32} {h' : MH} (k23 : MH → Nat → Nat → Nat → Int32 → Option (Int32 × MH)) (hk23 : ∀ (h : MH) (a1 : Nat) (a2 : Nat) (a3 : Nat) (x4 : Int32), k23 h a1 a2 a3 x4 = some (r, h') → V (PL Ls xs) mL_law 18 (some (.int r)) h' h 23 [.retAddr 1000, .ref a1, .ref a2, .ref a3, .int x4, Jk, Jk] [])  {h : MH} {a1 : Nat} {a2 : Nat} {a3 : Nat} {x4 : Int32} (hf : bL_law_375 Ls xs k23 h a1 a2 a3 x4 = some (r, h')) : V (PL Ls xs) mL_law 18 (some (.int r)) h' h 375 [.retAddr 1000, .ref a1, .ref a2, .ref a3, .int x4, Jk, Jk] [] := by
  unfold bL_law_375 at hf
  refine V.aload_n (q := 376) rfl dL_law_375 rfl rfl ?_
  obtain ⟨_, e1, hf⟩ := bd_ex hf
  obtain ⟨v2, h1, eh1, hf⟩ := bd2_ex hf
  refine V.callV (q := 379) (ci := 11) (vs := []) (st := []) (S2 := [.int v2]) okX11_where imX11_where seX11_where rfl lkL_33 (tX11_where eh1) rfl (ck_is e1) (by decide) rfl (Nat.le_of_ble_eq_true rfl) (Nat.le_of_ble_eq_true rfl) rfl dL_law_376 rfl rfl ?_
  refine V.aload_n (q := 380) rfl dL_law_379 rfl rfl ?_
  obtain ⟨_, e3, hf⟩ := bd_ex hf
  obtain ⟨v4, h2, eh2, hf⟩ := bd2_ex hf
  refine V.callV (q := 383) (ci := 13) (vs := []) (st := [.int v2]) (S2 := [.int v4, .int v2]) okX13_where imX13_where seX13_where rfl lkL_36 (tX13_where eh2) rfl (ck_is e3) (by decide) rfl (Nat.le_of_ble_eq_true rfl) (Nat.le_of_ble_eq_true rfl) rfl dL_law_380 rfl rfl ?_
  refine V.icmp_eq (q := 386) (tgt := 1943) dL_law_383 rfl (by decide) (fun c => ?_) (fun c => ?_)
  · rw [if_pos c] at hf
    obtain ⟨v5, ev5, hf⟩ := bd_ex hf
    refine V.iinc (q := 1946) (v := v5) (L' := [.retAddr 1000, .ref a1, .ref a2, .ref a3, .int v5, Jk, Jk]) dL_law_1943 rfl rfl (Option.some.inj ev5) (by decide) rfl rfl ?_
    refine V.goto (q := 23) dL_law_1946 (by decide) ?_
    exact hk23 _ _ _ _ _ hf
  · rw [if_neg c] at hf
    refine V.iconst (q := 387) (v := 0) (by decide) dL_law_386 rfl ?_
    obtain ⟨rfl, rfl⟩ := ret_inj hf
    exact V.ret (r := some (.int 0)) (Or.inl rfl) dL_law_387
def bL_law_362 (Ls : Nat) (xs : Nat → Int32) (k23 : MH → Nat → Nat → Nat → Int32 → Option (Int32 × MH)) (h : MH) (a1 : Nat) (a2 : Nat) (a3 : Nat) (x4 : Int32) : Option (Int32 × MH) := bd (ck h a1 11) fun _ => bd2 (fX11_fault h a1 ) fun v2 h1 => bd (ck h1 a2 13) fun _ => bd2 (fX13_fault h1 a2 ) fun v4 h2 => if v2 = v4 then (bd (some (x4 + 6)) fun v5 => k23 h2 a1 a2 a3 v5) else (some (0, h2))
set_option maxRecDepth 20000 in
theorem tL_law_362 {Ls : Nat} {xs : Nat → Int32} {r : Int32} {h' : MH} (k23 : MH → Nat → Nat → Nat → Int32 → Option (Int32 × MH)) (hk23 : ∀ (h : MH) (a1 : Nat) (a2 : Nat) (a3 : Nat) (x4 : Int32), k23 h a1 a2 a3 x4 = some (r, h') → V (PL Ls xs) mL_law 18 (some (.int r)) h' h 23 [.retAddr 1000, .ref a1, .ref a2, .ref a3, .int x4, Jk, Jk] [])  {h : MH} {a1 : Nat} {a2 : Nat} {a3 : Nat} {x4 : Int32} (hf : bL_law_362 Ls xs k23 h a1 a2 a3 x4 = some (r, h')) : V (PL Ls xs) mL_law 18 (some (.int r)) h' h 362 [.retAddr 1000, .ref a1, .ref a2, .ref a3, .int x4, Jk, Jk] [] := by
  unfold bL_law_362 at hf
  refine V.aload_n (q := 363) rfl dL_law_362 rfl rfl ?_
  obtain ⟨_, e1, hf⟩ := bd_ex hf
  obtain ⟨v2, h1, eh1, hf⟩ := bd2_ex hf
  refine V.callV (q := 366) (ci := 11) (vs := []) (st := []) (S2 := [.int v2]) okX11_fault imX11_fault seX11_fault rfl lkL_28 (tX11_fault eh1) rfl (ck_is e1) (by decide) rfl (Nat.le_of_ble_eq_true rfl) (Nat.le_of_ble_eq_true rfl) rfl dL_law_363 rfl rfl ?_
  refine V.aload_n (q := 367) rfl dL_law_366 rfl rfl ?_
  obtain ⟨_, e3, hf⟩ := bd_ex hf
  obtain ⟨v4, h2, eh2, hf⟩ := bd2_ex hf
  refine V.callV (q := 370) (ci := 13) (vs := []) (st := [.int v2]) (S2 := [.int v4, .int v2]) okX13_fault imX13_fault seX13_fault rfl lkL_32 (tX13_fault eh2) rfl (ck_is e3) (by decide) rfl (Nat.le_of_ble_eq_true rfl) (Nat.le_of_ble_eq_true rfl) rfl dL_law_367 rfl rfl ?_
  refine V.icmp_eq (q := 373) (tgt := 1943) dL_law_370 rfl (by decide) (fun c => ?_) (fun c => ?_)
  · rw [if_pos c] at hf
    obtain ⟨v5, ev5, hf⟩ := bd_ex hf
    refine V.iinc (q := 1946) (v := v5) (L' := [.retAddr 1000, .ref a1, .ref a2, .ref a3, .int v5, Jk, Jk]) dL_law_1943 rfl rfl (Option.some.inj ev5) (by decide) rfl rfl ?_
    refine V.goto (q := 23) dL_law_1946 (by decide) ?_
    exact hk23 _ _ _ _ _ hf
  · rw [if_neg c] at hf
    refine V.iconst (q := 374) (v := 0) (by decide) dL_law_373 rfl ?_
    obtain ⟨rfl, rfl⟩ := ret_inj hf
    exact V.ret (r := some (.int 0)) (Or.inl rfl) dL_law_374
def bL_law_337 (Ls : Nat) (xs : Nat → Int32) (k23 : MH → Nat → Nat → Nat → Int32 → Option (Int32 × MH)) (h : MH) (a1 : Nat) (a2 : Nat) (a3 : Nat) (x4 : Int32) : Option (Int32 × MH) := bd (sld Ls xs (x4 + 1)) fun v1 => bd (ck h a1 11) fun _ => bd2 (fX11_office h a1 v1) fun v3 h1 => bd (sld Ls xs (x4 + 1)) fun v4 => bd (ck h1 a2 13) fun _ => bd2 (fX13_office h1 a2 v4) fun v6 h2 => if v3 = v6 then (bd (some (x4 + 6)) fun v7 => k23 h2 a1 a2 a3 v7) else (some (0, h2))
set_option maxRecDepth 20000 in
theorem tL_law_337 {Ls : Nat} {xs : Nat → Int32} {r : Int32} {h' : MH} (k23 : MH → Nat → Nat → Nat → Int32 → Option (Int32 × MH)) (hk23 : ∀ (h : MH) (a1 : Nat) (a2 : Nat) (a3 : Nat) (x4 : Int32), k23 h a1 a2 a3 x4 = some (r, h') → V (PL Ls xs) mL_law 18 (some (.int r)) h' h 23 [.retAddr 1000, .ref a1, .ref a2, .ref a3, .int x4, Jk, Jk] [])  {h : MH} {a1 : Nat} {a2 : Nat} {a3 : Nat} {x4 : Int32} (hf : bL_law_337 Ls xs k23 h a1 a2 a3 x4 = some (r, h')) : V (PL Ls xs) mL_law 18 (some (.int r)) h' h 337 [.retAddr 1000, .ref a1, .ref a2, .ref a3, .int x4, Jk, Jk] [] := by
  unfold bL_law_337 at hf
  refine V.aload_n (q := 338) rfl dL_law_337 rfl rfl ?_
  refine V.aloadT_n (q := 339) rfl (by decide) tk_1000 dL_law_338 rfl rfl ?_
  refine V.iload (q := 341) dL_law_339 rfl rfl ?_
  refine V.iconst (q := 342) (v := 1) (by decide) dL_law_341 rfl ?_
  refine V.iadd (q := 343) dL_law_342 rfl ?_
  obtain ⟨v1, ev1, hf⟩ := bd_ex hf
  refine V.sld (q := 344) PL_sc ev1 dL_law_343 rfl ?_
  obtain ⟨_, e2, hf⟩ := bd_ex hf
  obtain ⟨v3, h1, eh1, hf⟩ := bd2_ex hf
  refine V.callV (q := 347) (ci := 11) (vs := [.int v1]) (st := []) (S2 := [.int v3]) okX11_office imX11_office seX11_office rfl lkL_24 (tX11_office eh1) rfl (ck_is e2) (by decide) rfl (Nat.le_of_ble_eq_true rfl) (Nat.le_of_ble_eq_true rfl) rfl dL_law_344 rfl rfl ?_
  refine V.aload_n (q := 348) rfl dL_law_347 rfl rfl ?_
  refine V.aloadT_n (q := 349) rfl (by decide) tk_1000 dL_law_348 rfl rfl ?_
  refine V.iload (q := 351) dL_law_349 rfl rfl ?_
  refine V.iconst (q := 352) (v := 1) (by decide) dL_law_351 rfl ?_
  refine V.iadd (q := 353) dL_law_352 rfl ?_
  obtain ⟨v4, ev4, hf⟩ := bd_ex hf
  refine V.sld (q := 354) PL_sc ev4 dL_law_353 rfl ?_
  obtain ⟨_, e5, hf⟩ := bd_ex hf
  obtain ⟨v6, h2, eh2, hf⟩ := bd2_ex hf
  refine V.callV (q := 357) (ci := 13) (vs := [.int v4]) (st := [.int v3]) (S2 := [.int v6, .int v3]) okX13_office imX13_office seX13_office rfl lkL_27 (tX13_office eh2) rfl (ck_is e5) (by decide) rfl (Nat.le_of_ble_eq_true rfl) (Nat.le_of_ble_eq_true rfl) rfl dL_law_354 rfl rfl ?_
  refine V.icmp_eq (q := 360) (tgt := 1943) dL_law_357 rfl (by decide) (fun c => ?_) (fun c => ?_)
  · rw [if_pos c] at hf
    obtain ⟨v7, ev7, hf⟩ := bd_ex hf
    refine V.iinc (q := 1946) (v := v7) (L' := [.retAddr 1000, .ref a1, .ref a2, .ref a3, .int v7, Jk, Jk]) dL_law_1943 rfl rfl (Option.some.inj ev7) (by decide) rfl rfl ?_
    refine V.goto (q := 23) dL_law_1946 (by decide) ?_
    exact hk23 _ _ _ _ _ hf
  · rw [if_neg c] at hf
    refine V.iconst (q := 361) (v := 0) (by decide) dL_law_360 rfl ?_
    obtain ⟨rfl, rfl⟩ := ret_inj hf
    exact V.ret (r := some (.int 0)) (Or.inl rfl) dL_law_361
def bL_law_264 (Ls : Nat) (xs : Nat → Int32) (k23 : MH → Nat → Nat → Nat → Int32 → Option (Int32 × MH)) (h : MH) (a1 : Nat) (a2 : Nat) (a3 : Nat) (x4 : Int32) : Option (Int32 × MH) := bd (sld Ls xs (x4 + 1)) fun v1 => bd (sld Ls xs (x4 + 2)) fun v2 => bd (sld Ls xs (x4 + 3)) fun v3 => bd (sld Ls xs (x4 + 4)) fun v4 => bd (sld Ls xs (x4 + 5)) fun v5 => bd (ck h a1 11) fun _ => bd2 (fX11_feed h a1 v1 v2 v3 v4 v5) fun v7 h1 => bd (sld Ls xs (x4 + 1)) fun v8 => bd (sld Ls xs (x4 + 2)) fun v9 => bd (sld Ls xs (x4 + 3)) fun v10 => bd (sld Ls xs (x4 + 4)) fun v11 => bd (sld Ls xs (x4 + 5)) fun v12 => bd (ck h1 a2 13) fun _ => bd2 (fX13_feed h1 a2 v8 v9 v10 v11 v12) fun v14 h2 => if v7 = v14 then (bd (some (x4 + 6)) fun v15 => k23 h2 a1 a2 a3 v15) else (some (0, h2))
set_option maxRecDepth 20000 in
theorem tL_law_264 {Ls : Nat} {xs : Nat → Int32} {r : Int32} {h' : MH} (k23 : MH → Nat → Nat → Nat → Int32 → Option (Int32 × MH)) (hk23 : ∀ (h : MH) (a1 : Nat) (a2 : Nat) (a3 : Nat) (x4 : Int32), k23 h a1 a2 a3 x4 = some (r, h') → V (PL Ls xs) mL_law 18 (some (.int r)) h' h 23 [.retAddr 1000, .ref a1, .ref a2, .ref a3, .int x4, Jk, Jk] [])  {h : MH} {a1 : Nat} {a2 : Nat} {a3 : Nat} {x4 : Int32} (hf : bL_law_264 Ls xs k23 h a1 a2 a3 x4 = some (r, h')) : V (PL Ls xs) mL_law 18 (some (.int r)) h' h 264 [.retAddr 1000, .ref a1, .ref a2, .ref a3, .int x4, Jk, Jk] [] := by
  unfold bL_law_264 at hf
  refine V.aload_n (q := 265) rfl dL_law_264 rfl rfl ?_
  refine V.aloadT_n (q := 266) rfl (by decide) tk_1000 dL_law_265 rfl rfl ?_
  refine V.iload (q := 268) dL_law_266 rfl rfl ?_
  refine V.iconst (q := 269) (v := 1) (by decide) dL_law_268 rfl ?_
  refine V.iadd (q := 270) dL_law_269 rfl ?_
  obtain ⟨v1, ev1, hf⟩ := bd_ex hf
  refine V.sld (q := 271) PL_sc ev1 dL_law_270 rfl ?_
  refine V.aloadT_n (q := 272) rfl (by decide) tk_1000 dL_law_271 rfl rfl ?_
  refine V.iload (q := 274) dL_law_272 rfl rfl ?_
  refine V.iconst (q := 275) (v := 2) (by decide) dL_law_274 rfl ?_
  refine V.iadd (q := 276) dL_law_275 rfl ?_
  obtain ⟨v2, ev2, hf⟩ := bd_ex hf
  refine V.sld (q := 277) PL_sc ev2 dL_law_276 rfl ?_
  refine V.aloadT_n (q := 278) rfl (by decide) tk_1000 dL_law_277 rfl rfl ?_
  refine V.iload (q := 280) dL_law_278 rfl rfl ?_
  refine V.iconst (q := 281) (v := 3) (by decide) dL_law_280 rfl ?_
  refine V.iadd (q := 282) dL_law_281 rfl ?_
  obtain ⟨v3, ev3, hf⟩ := bd_ex hf
  refine V.sld (q := 283) PL_sc ev3 dL_law_282 rfl ?_
  refine V.aloadT_n (q := 284) rfl (by decide) tk_1000 dL_law_283 rfl rfl ?_
  refine V.iload (q := 286) dL_law_284 rfl rfl ?_
  refine V.iconst (q := 287) (v := 4) (by decide) dL_law_286 rfl ?_
  refine V.iadd (q := 288) dL_law_287 rfl ?_
  obtain ⟨v4, ev4, hf⟩ := bd_ex hf
  refine V.sld (q := 289) PL_sc ev4 dL_law_288 rfl ?_
  refine V.aloadT_n (q := 290) rfl (by decide) tk_1000 dL_law_289 rfl rfl ?_
  refine V.iload (q := 292) dL_law_290 rfl rfl ?_
  refine V.iconst (q := 293) (v := 5) (by decide) dL_law_292 rfl ?_
  refine V.iadd (q := 294) dL_law_293 rfl ?_
  obtain ⟨v5, ev5, hf⟩ := bd_ex hf
  refine V.sld (q := 295) PL_sc ev5 dL_law_294 rfl ?_
  obtain ⟨_, e6, hf⟩ := bd_ex hf
  obtain ⟨v7, h1, eh1, hf⟩ := bd2_ex hf
  refine V.callV (q := 298) (ci := 11) (vs := [.int v1, .int v2, .int v3, .int v4, .int v5]) (st := []) (S2 := [.int v7]) okX11_feed imX11_feed seX11_feed rfl lkL_19 (tX11_feed eh1) rfl (ck_is e6) (by decide) rfl (Nat.le_of_ble_eq_true rfl) (Nat.le_of_ble_eq_true rfl) rfl dL_law_295 rfl rfl ?_
  refine V.aload_n (q := 299) rfl dL_law_298 rfl rfl ?_
  refine V.aloadT_n (q := 300) rfl (by decide) tk_1000 dL_law_299 rfl rfl ?_
  refine V.iload (q := 302) dL_law_300 rfl rfl ?_
  refine V.iconst (q := 303) (v := 1) (by decide) dL_law_302 rfl ?_
  refine V.iadd (q := 304) dL_law_303 rfl ?_
  obtain ⟨v8, ev8, hf⟩ := bd_ex hf
  refine V.sld (q := 305) PL_sc ev8 dL_law_304 rfl ?_
  refine V.aloadT_n (q := 306) rfl (by decide) tk_1000 dL_law_305 rfl rfl ?_
  refine V.iload (q := 308) dL_law_306 rfl rfl ?_
  refine V.iconst (q := 309) (v := 2) (by decide) dL_law_308 rfl ?_
  refine V.iadd (q := 310) dL_law_309 rfl ?_
  obtain ⟨v9, ev9, hf⟩ := bd_ex hf
  refine V.sld (q := 311) PL_sc ev9 dL_law_310 rfl ?_
  refine V.aloadT_n (q := 312) rfl (by decide) tk_1000 dL_law_311 rfl rfl ?_
  refine V.iload (q := 314) dL_law_312 rfl rfl ?_
  refine V.iconst (q := 315) (v := 3) (by decide) dL_law_314 rfl ?_
  refine V.iadd (q := 316) dL_law_315 rfl ?_
  obtain ⟨v10, ev10, hf⟩ := bd_ex hf
  refine V.sld (q := 317) PL_sc ev10 dL_law_316 rfl ?_
  refine V.aloadT_n (q := 318) rfl (by decide) tk_1000 dL_law_317 rfl rfl ?_
  refine V.iload (q := 320) dL_law_318 rfl rfl ?_
  refine V.iconst (q := 321) (v := 4) (by decide) dL_law_320 rfl ?_
  refine V.iadd (q := 322) dL_law_321 rfl ?_
  obtain ⟨v11, ev11, hf⟩ := bd_ex hf
  refine V.sld (q := 323) PL_sc ev11 dL_law_322 rfl ?_
  refine V.aloadT_n (q := 324) rfl (by decide) tk_1000 dL_law_323 rfl rfl ?_
  refine V.iload (q := 326) dL_law_324 rfl rfl ?_
  refine V.iconst (q := 327) (v := 5) (by decide) dL_law_326 rfl ?_
  refine V.iadd (q := 328) dL_law_327 rfl ?_
  obtain ⟨v12, ev12, hf⟩ := bd_ex hf
  refine V.sld (q := 329) PL_sc ev12 dL_law_328 rfl ?_
  obtain ⟨_, e13, hf⟩ := bd_ex hf
  obtain ⟨v14, h2, eh2, hf⟩ := bd2_ex hf
  refine V.callV (q := 332) (ci := 13) (vs := [.int v8, .int v9, .int v10, .int v11, .int v12]) (st := [.int v7]) (S2 := [.int v14, .int v7]) okX13_feed imX13_feed seX13_feed rfl lkL_23 (tX13_feed eh2) rfl (ck_is e13) (by decide) rfl (Nat.le_of_ble_eq_true rfl) (Nat.le_of_ble_eq_true rfl) rfl dL_law_329 rfl rfl ?_
  refine V.icmp_eq (q := 335) (tgt := 1943) dL_law_332 rfl (by decide) (fun c => ?_) (fun c => ?_)
  · rw [if_pos c] at hf
    obtain ⟨v15, ev15, hf⟩ := bd_ex hf
    refine V.iinc (q := 1946) (v := v15) (L' := [.retAddr 1000, .ref a1, .ref a2, .ref a3, .int v15, Jk, Jk]) dL_law_1943 rfl rfl (Option.some.inj ev15) (by decide) rfl rfl ?_
    refine V.goto (q := 23) dL_law_1946 (by decide) ?_
    exact hk23 _ _ _ _ _ hf
  · rw [if_neg c] at hf
    refine V.iconst (q := 336) (v := 0) (by decide) dL_law_335 rfl ?_
    obtain ⟨rfl, rfl⟩ := ret_inj hf
    exact V.ret (r := some (.int 0)) (Or.inl rfl) dL_law_336
def bL_law_23 (Ls : Nat) (xs : Nat → Int32) (k23 : MH → Nat → Nat → Nat → Int32 → Option (Int32 × MH)) (h : MH) (a1 : Nat) (a2 : Nat) (a3 : Nat) (x4 : Int32) : Option (Int32 × MH) := bd (some (Int32.ofNat Ls)) fun v1 => if (v1 - 6) < x4 then (some (1, h)) else (bd (sld Ls xs x4) fun v2 => if (v2 &&& 63) = 0 then (bL_law_264 Ls xs k23 h a1 a2 a3 x4) else (if (v2 &&& 63) = 1 then (bL_law_337 Ls xs k23 h a1 a2 a3 x4) else (if (v2 &&& 63) = 2 then (bL_law_362 Ls xs k23 h a1 a2 a3 x4) else (if (v2 &&& 63) = 3 then (bL_law_375 Ls xs k23 h a1 a2 a3 x4) else (if (v2 &&& 63) = 4 then (bL_law_388 Ls xs k23 h a1 a2 a3 x4) else (if (v2 &&& 63) = 5 then (bL_law_425 Ls xs k23 h a1 a2 a3 x4) else (if (v2 &&& 63) = 6 then (bL_law_462 Ls xs k23 h a1 a2 a3 x4) else (if (v2 &&& 63) = 7 then (bL_law_499 Ls xs k23 h a1 a2 a3 x4) else (if (v2 &&& 63) = 8 then (bL_law_536 Ls xs k23 h a1 a2 a3 x4) else (if (v2 &&& 63) = 9 then (bL_law_573 Ls xs k23 h a1 a2 a3 x4) else (if (v2 &&& 63) = 10 then (bL_law_610 Ls xs k23 h a1 a2 a3 x4) else (if (v2 &&& 63) = 11 then (bL_law_647 Ls xs k23 h a1 a2 a3 x4) else (if (v2 &&& 63) = 12 then (bL_law_696 Ls xs k23 h a1 a2 a3 x4) else (if (v2 &&& 63) = 13 then (bL_law_733 Ls xs k23 h a1 a2 a3 x4) else (if (v2 &&& 63) = 14 then (bL_law_758 Ls xs k23 h a1 a2 a3 x4) else (if (v2 &&& 63) = 15 then (bL_law_795 Ls xs k23 h a1 a2 a3 x4) else (if (v2 &&& 63) = 16 then (bL_law_808 Ls xs k23 h a1 a2 a3 x4) else (if (v2 &&& 63) = 17 then (bL_law_833 Ls xs k23 h a1 a2 a3 x4) else (if (v2 &&& 63) = 18 then (bL_law_846 Ls xs k23 h a1 a2 a3 x4) else (if (v2 &&& 63) = 19 then (bL_law_859 Ls xs k23 h a1 a2 a3 x4) else (if (v2 &&& 63) = 20 then (bL_law_908 Ls xs k23 h a1 a2 a3 x4) else (if (v2 &&& 63) = 21 then (bL_law_933 Ls xs k23 h a1 a2 a3 x4) else (if (v2 &&& 63) = 22 then (bL_law_987 Ls xs k23 h a1 a2 a3 x4) else (if (v2 &&& 63) = 23 then (bL_law_1000 Ls xs k23 h a1 a2 a3 x4) else (if (v2 &&& 63) = 24 then (bL_law_1078 Ls xs k23 h a1 a2 a3 x4) else (if (v2 &&& 63) = 25 then (bL_law_1091 Ls xs k23 h a1 a2 a3 x4) else (if (v2 &&& 63) = 26 then (bL_law_1116 Ls xs k23 h a1 a2 a3 x4) else (if (v2 &&& 63) = 27 then (bL_law_1129 Ls xs k23 h a1 a2 a3 x4) else (if (v2 &&& 63) = 28 then (bL_law_1142 Ls xs k23 h a1 a2 a3 x4) else (if (v2 &&& 63) = 29 then (bL_law_1179 Ls xs k23 h a1 a2 a3 x4) else (if (v2 &&& 63) = 30 then (bL_law_1204 Ls xs k23 h a1 a2 a3 x4) else (if (v2 &&& 63) = 31 then (bL_law_1217 Ls xs k23 h a1 a2 a3 x4) else (if (v2 &&& 63) = 32 then (bL_law_1230 Ls xs k23 h a1 a2 a3 x4) else (if (v2 &&& 63) = 33 then (bL_law_1267 Ls xs k23 h a1 a2 a3 x4) else (if (v2 &&& 63) = 34 then (bL_law_1280 Ls xs k23 h a1 a2 a3 x4) else (if (v2 &&& 63) = 35 then (bL_law_1293 Ls xs k23 h a1 a2 a3 x4) else (if (v2 &&& 63) = 36 then (bL_law_1306 Ls xs k23 h a1 a2 a3 x4) else (if (v2 &&& 63) = 37 then (bL_law_1319 Ls xs k23 h a1 a2 a3 x4) else (if (v2 &&& 63) = 38 then (bL_law_1409 Ls xs k23 h a1 a2 a3 x4) else (if (v2 &&& 63) = 39 then (bL_law_1475 Ls xs k23 h a1 a2 a3 x4) else (if (v2 &&& 63) = 40 then (bL_law_1524 Ls xs k23 h a1 a2 a3 x4) else (if (v2 &&& 63) = 41 then (bL_law_1561 Ls xs k23 h a1 a2 a3 x4) else (if (v2 &&& 63) = 42 then (bL_law_1610 Ls xs k23 h a1 a2 a3 x4) else (if (v2 &&& 63) = 43 then (bL_law_1659 Ls xs k23 h a1 a2 a3 x4) else (if (v2 &&& 63) = 44 then (bL_law_1696 Ls xs k23 h a1 a2 a3 x4) else (if (v2 &&& 63) = 45 then (bL_law_1761 Ls xs k23 h a1 a2 a3 x4) else (if (v2 &&& 63) = 46 then (bL_law_1798 Ls xs k23 h a1 a2 a3 x4) else (if (v2 &&& 63) = 47 then (bL_law_1811 Ls xs k23 h a1 a2 a3 x4) else (if (v2 &&& 63) = 48 then (bL_law_1824 Ls xs k23 h a1 a2 a3 x4) else (if (v2 &&& 63) = 49 then (bL_law_1849 Ls xs k23 h a1 a2 a3 x4) else (if (v2 &&& 63) = 50 then (bL_law_1905 Ls xs k23 h a1 a2 a3 x4) else (if (v2 &&& 63) = 51 then (bL_law_1930 Ls xs k23 h a1 a2 a3 x4) else (bd (some (x4 + 6)) fun v3 => k23 h a1 a2 a3 v3)))))))))))))))))))))))))))))))))))))))))))))))))))))
set_option maxRecDepth 20000 in
theorem tL_law_23 {Ls : Nat} {xs : Nat → Int32} {r : Int32} {h' : MH} (k23 : MH → Nat → Nat → Nat → Int32 → Option (Int32 × MH)) (hk23 : ∀ (h : MH) (a1 : Nat) (a2 : Nat) (a3 : Nat) (x4 : Int32), k23 h a1 a2 a3 x4 = some (r, h') → V (PL Ls xs) mL_law 18 (some (.int r)) h' h 23 [.retAddr 1000, .ref a1, .ref a2, .ref a3, .int x4, Jk, Jk] [])  {h : MH} {a1 : Nat} {a2 : Nat} {a3 : Nat} {x4 : Int32} (hf : bL_law_23 Ls xs k23 h a1 a2 a3 x4 = some (r, h')) : V (PL Ls xs) mL_law 18 (some (.int r)) h' h 23 [.retAddr 1000, .ref a1, .ref a2, .ref a3, .int x4, Jk, Jk] [] := by
  unfold bL_law_23 at hf
  refine V.iload (q := 25) dL_law_23 rfl rfl ?_
  refine V.aloadT_n (q := 26) rfl (by decide) tk_1000 dL_law_25 rfl rfl ?_
  obtain ⟨v1, ev1, hf⟩ := bd_ex hf
  refine V.sln (q := 27) PL_sc dL_law_26 rfl ?_
  refine V.topI (Option.some.inj ev1) ?_
  refine V.bipush (q := 29) (v := 6) (by decide) dL_law_27 rfl ?_
  refine V.isub (q := 30) dL_law_29 rfl ?_
  refine V.icmp_gt (q := 33) (tgt := 1949) dL_law_30 rfl (by decide) (fun c => ?_) (fun c => ?_)
  · rw [if_pos c] at hf
    refine V.iconst (q := 1950) (v := 1) (by decide) dL_law_1949 rfl ?_
    obtain ⟨rfl, rfl⟩ := ret_inj hf
    exact V.ret (r := some (.int 1)) (Or.inr rfl) dL_law_1950
  · rw [if_neg c] at hf
    refine V.aloadT_n (q := 34) rfl (by decide) tk_1000 dL_law_33 rfl rfl ?_
    refine V.iload (q := 36) dL_law_34 rfl rfl ?_
    obtain ⟨v2, ev2, hf⟩ := bd_ex hf
    refine V.sld (q := 37) PL_sc ev2 dL_law_36 rfl ?_
    refine V.bipush (q := 39) (v := 63) (by decide) dL_law_37 rfl ?_
    refine V.iand (q := 40) dL_law_39 rfl ?_
    by_cases c0 : (v2 &&& 63) = 0
    · rw [if_pos c0] at hf
      refine V.topI c0 ?_
      refine V.tableIn (q := 264) (off := 224) dL_law_40 (by decide) (by decide) (by decide) (by decide) ?_
      exact tL_law_264 k23 hk23 hf
    rw [if_neg c0] at hf
    by_cases c1 : (v2 &&& 63) = 1
    · rw [if_pos c1] at hf
      refine V.topI c1 ?_
      refine V.tableIn (q := 337) (off := 297) dL_law_40 (by decide) (by decide) (by decide) (by decide) ?_
      exact tL_law_337 k23 hk23 hf
    rw [if_neg c1] at hf
    by_cases c2 : (v2 &&& 63) = 2
    · rw [if_pos c2] at hf
      refine V.topI c2 ?_
      refine V.tableIn (q := 362) (off := 322) dL_law_40 (by decide) (by decide) (by decide) (by decide) ?_
      exact tL_law_362 k23 hk23 hf
    rw [if_neg c2] at hf
    by_cases c3 : (v2 &&& 63) = 3
    · rw [if_pos c3] at hf
      refine V.topI c3 ?_
      refine V.tableIn (q := 375) (off := 335) dL_law_40 (by decide) (by decide) (by decide) (by decide) ?_
      exact tL_law_375 k23 hk23 hf
    rw [if_neg c3] at hf
    by_cases c4 : (v2 &&& 63) = 4
    · rw [if_pos c4] at hf
      refine V.topI c4 ?_
      refine V.tableIn (q := 388) (off := 348) dL_law_40 (by decide) (by decide) (by decide) (by decide) ?_
      exact tL_law_388 k23 hk23 hf
    rw [if_neg c4] at hf
    by_cases c5 : (v2 &&& 63) = 5
    · rw [if_pos c5] at hf
      refine V.topI c5 ?_
      refine V.tableIn (q := 425) (off := 385) dL_law_40 (by decide) (by decide) (by decide) (by decide) ?_
      exact tL_law_425 k23 hk23 hf
    rw [if_neg c5] at hf
    by_cases c6 : (v2 &&& 63) = 6
    · rw [if_pos c6] at hf
      refine V.topI c6 ?_
      refine V.tableIn (q := 462) (off := 422) dL_law_40 (by decide) (by decide) (by decide) (by decide) ?_
      exact tL_law_462 k23 hk23 hf
    rw [if_neg c6] at hf
    by_cases c7 : (v2 &&& 63) = 7
    · rw [if_pos c7] at hf
      refine V.topI c7 ?_
      refine V.tableIn (q := 499) (off := 459) dL_law_40 (by decide) (by decide) (by decide) (by decide) ?_
      exact tL_law_499 k23 hk23 hf
    rw [if_neg c7] at hf
    by_cases c8 : (v2 &&& 63) = 8
    · rw [if_pos c8] at hf
      refine V.topI c8 ?_
      refine V.tableIn (q := 536) (off := 496) dL_law_40 (by decide) (by decide) (by decide) (by decide) ?_
      exact tL_law_536 k23 hk23 hf
    rw [if_neg c8] at hf
    by_cases c9 : (v2 &&& 63) = 9
    · rw [if_pos c9] at hf
      refine V.topI c9 ?_
      refine V.tableIn (q := 573) (off := 533) dL_law_40 (by decide) (by decide) (by decide) (by decide) ?_
      exact tL_law_573 k23 hk23 hf
    rw [if_neg c9] at hf
    by_cases c10 : (v2 &&& 63) = 10
    · rw [if_pos c10] at hf
      refine V.topI c10 ?_
      refine V.tableIn (q := 610) (off := 570) dL_law_40 (by decide) (by decide) (by decide) (by decide) ?_
      exact tL_law_610 k23 hk23 hf
    rw [if_neg c10] at hf
    by_cases c11 : (v2 &&& 63) = 11
    · rw [if_pos c11] at hf
      refine V.topI c11 ?_
      refine V.tableIn (q := 647) (off := 607) dL_law_40 (by decide) (by decide) (by decide) (by decide) ?_
      exact tL_law_647 k23 hk23 hf
    rw [if_neg c11] at hf
    by_cases c12 : (v2 &&& 63) = 12
    · rw [if_pos c12] at hf
      refine V.topI c12 ?_
      refine V.tableIn (q := 696) (off := 656) dL_law_40 (by decide) (by decide) (by decide) (by decide) ?_
      exact tL_law_696 k23 hk23 hf
    rw [if_neg c12] at hf
    by_cases c13 : (v2 &&& 63) = 13
    · rw [if_pos c13] at hf
      refine V.topI c13 ?_
      refine V.tableIn (q := 733) (off := 693) dL_law_40 (by decide) (by decide) (by decide) (by decide) ?_
      exact tL_law_733 k23 hk23 hf
    rw [if_neg c13] at hf
    by_cases c14 : (v2 &&& 63) = 14
    · rw [if_pos c14] at hf
      refine V.topI c14 ?_
      refine V.tableIn (q := 758) (off := 718) dL_law_40 (by decide) (by decide) (by decide) (by decide) ?_
      exact tL_law_758 k23 hk23 hf
    rw [if_neg c14] at hf
    by_cases c15 : (v2 &&& 63) = 15
    · rw [if_pos c15] at hf
      refine V.topI c15 ?_
      refine V.tableIn (q := 795) (off := 755) dL_law_40 (by decide) (by decide) (by decide) (by decide) ?_
      exact tL_law_795 k23 hk23 hf
    rw [if_neg c15] at hf
    by_cases c16 : (v2 &&& 63) = 16
    · rw [if_pos c16] at hf
      refine V.topI c16 ?_
      refine V.tableIn (q := 808) (off := 768) dL_law_40 (by decide) (by decide) (by decide) (by decide) ?_
      exact tL_law_808 k23 hk23 hf
    rw [if_neg c16] at hf
    by_cases c17 : (v2 &&& 63) = 17
    · rw [if_pos c17] at hf
      refine V.topI c17 ?_
      refine V.tableIn (q := 833) (off := 793) dL_law_40 (by decide) (by decide) (by decide) (by decide) ?_
      exact tL_law_833 k23 hk23 hf
    rw [if_neg c17] at hf
    by_cases c18 : (v2 &&& 63) = 18
    · rw [if_pos c18] at hf
      refine V.topI c18 ?_
      refine V.tableIn (q := 846) (off := 806) dL_law_40 (by decide) (by decide) (by decide) (by decide) ?_
      exact tL_law_846 k23 hk23 hf
    rw [if_neg c18] at hf
    by_cases c19 : (v2 &&& 63) = 19
    · rw [if_pos c19] at hf
      refine V.topI c19 ?_
      refine V.tableIn (q := 859) (off := 819) dL_law_40 (by decide) (by decide) (by decide) (by decide) ?_
      exact tL_law_859 k23 hk23 hf
    rw [if_neg c19] at hf
    by_cases c20 : (v2 &&& 63) = 20
    · rw [if_pos c20] at hf
      refine V.topI c20 ?_
      refine V.tableIn (q := 908) (off := 868) dL_law_40 (by decide) (by decide) (by decide) (by decide) ?_
      exact tL_law_908 k23 hk23 hf
    rw [if_neg c20] at hf
    by_cases c21 : (v2 &&& 63) = 21
    · rw [if_pos c21] at hf
      refine V.topI c21 ?_
      refine V.tableIn (q := 933) (off := 893) dL_law_40 (by decide) (by decide) (by decide) (by decide) ?_
      exact tL_law_933 k23 hk23 hf
    rw [if_neg c21] at hf
    by_cases c22 : (v2 &&& 63) = 22
    · rw [if_pos c22] at hf
      refine V.topI c22 ?_
      refine V.tableIn (q := 987) (off := 947) dL_law_40 (by decide) (by decide) (by decide) (by decide) ?_
      exact tL_law_987 k23 hk23 hf
    rw [if_neg c22] at hf
    by_cases c23 : (v2 &&& 63) = 23
    · rw [if_pos c23] at hf
      refine V.topI c23 ?_
      refine V.tableIn (q := 1000) (off := 960) dL_law_40 (by decide) (by decide) (by decide) (by decide) ?_
      exact tL_law_1000 k23 hk23 hf
    rw [if_neg c23] at hf
    by_cases c24 : (v2 &&& 63) = 24
    · rw [if_pos c24] at hf
      refine V.topI c24 ?_
      refine V.tableIn (q := 1078) (off := 1038) dL_law_40 (by decide) (by decide) (by decide) (by decide) ?_
      exact tL_law_1078 k23 hk23 hf
    rw [if_neg c24] at hf
    by_cases c25 : (v2 &&& 63) = 25
    · rw [if_pos c25] at hf
      refine V.topI c25 ?_
      refine V.tableIn (q := 1091) (off := 1051) dL_law_40 (by decide) (by decide) (by decide) (by decide) ?_
      exact tL_law_1091 k23 hk23 hf
    rw [if_neg c25] at hf
    by_cases c26 : (v2 &&& 63) = 26
    · rw [if_pos c26] at hf
      refine V.topI c26 ?_
      refine V.tableIn (q := 1116) (off := 1076) dL_law_40 (by decide) (by decide) (by decide) (by decide) ?_
      exact tL_law_1116 k23 hk23 hf
    rw [if_neg c26] at hf
    by_cases c27 : (v2 &&& 63) = 27
    · rw [if_pos c27] at hf
      refine V.topI c27 ?_
      refine V.tableIn (q := 1129) (off := 1089) dL_law_40 (by decide) (by decide) (by decide) (by decide) ?_
      exact tL_law_1129 k23 hk23 hf
    rw [if_neg c27] at hf
    by_cases c28 : (v2 &&& 63) = 28
    · rw [if_pos c28] at hf
      refine V.topI c28 ?_
      refine V.tableIn (q := 1142) (off := 1102) dL_law_40 (by decide) (by decide) (by decide) (by decide) ?_
      exact tL_law_1142 k23 hk23 hf
    rw [if_neg c28] at hf
    by_cases c29 : (v2 &&& 63) = 29
    · rw [if_pos c29] at hf
      refine V.topI c29 ?_
      refine V.tableIn (q := 1179) (off := 1139) dL_law_40 (by decide) (by decide) (by decide) (by decide) ?_
      exact tL_law_1179 k23 hk23 hf
    rw [if_neg c29] at hf
    by_cases c30 : (v2 &&& 63) = 30
    · rw [if_pos c30] at hf
      refine V.topI c30 ?_
      refine V.tableIn (q := 1204) (off := 1164) dL_law_40 (by decide) (by decide) (by decide) (by decide) ?_
      exact tL_law_1204 k23 hk23 hf
    rw [if_neg c30] at hf
    by_cases c31 : (v2 &&& 63) = 31
    · rw [if_pos c31] at hf
      refine V.topI c31 ?_
      refine V.tableIn (q := 1217) (off := 1177) dL_law_40 (by decide) (by decide) (by decide) (by decide) ?_
      exact tL_law_1217 k23 hk23 hf
    rw [if_neg c31] at hf
    by_cases c32 : (v2 &&& 63) = 32
    · rw [if_pos c32] at hf
      refine V.topI c32 ?_
      refine V.tableIn (q := 1230) (off := 1190) dL_law_40 (by decide) (by decide) (by decide) (by decide) ?_
      exact tL_law_1230 k23 hk23 hf
    rw [if_neg c32] at hf
    by_cases c33 : (v2 &&& 63) = 33
    · rw [if_pos c33] at hf
      refine V.topI c33 ?_
      refine V.tableIn (q := 1267) (off := 1227) dL_law_40 (by decide) (by decide) (by decide) (by decide) ?_
      exact tL_law_1267 k23 hk23 hf
    rw [if_neg c33] at hf
    by_cases c34 : (v2 &&& 63) = 34
    · rw [if_pos c34] at hf
      refine V.topI c34 ?_
      refine V.tableIn (q := 1280) (off := 1240) dL_law_40 (by decide) (by decide) (by decide) (by decide) ?_
      exact tL_law_1280 k23 hk23 hf
    rw [if_neg c34] at hf
    by_cases c35 : (v2 &&& 63) = 35
    · rw [if_pos c35] at hf
      refine V.topI c35 ?_
      refine V.tableIn (q := 1293) (off := 1253) dL_law_40 (by decide) (by decide) (by decide) (by decide) ?_
      exact tL_law_1293 k23 hk23 hf
    rw [if_neg c35] at hf
    by_cases c36 : (v2 &&& 63) = 36
    · rw [if_pos c36] at hf
      refine V.topI c36 ?_
      refine V.tableIn (q := 1306) (off := 1266) dL_law_40 (by decide) (by decide) (by decide) (by decide) ?_
      exact tL_law_1306 k23 hk23 hf
    rw [if_neg c36] at hf
    by_cases c37 : (v2 &&& 63) = 37
    · rw [if_pos c37] at hf
      refine V.topI c37 ?_
      refine V.tableIn (q := 1319) (off := 1279) dL_law_40 (by decide) (by decide) (by decide) (by decide) ?_
      exact tL_law_1319 k23 hk23 hf
    rw [if_neg c37] at hf
    by_cases c38 : (v2 &&& 63) = 38
    · rw [if_pos c38] at hf
      refine V.topI c38 ?_
      refine V.tableIn (q := 1409) (off := 1369) dL_law_40 (by decide) (by decide) (by decide) (by decide) ?_
      exact tL_law_1409 k23 hk23 hf
    rw [if_neg c38] at hf
    by_cases c39 : (v2 &&& 63) = 39
    · rw [if_pos c39] at hf
      refine V.topI c39 ?_
      refine V.tableIn (q := 1475) (off := 1435) dL_law_40 (by decide) (by decide) (by decide) (by decide) ?_
      exact tL_law_1475 k23 hk23 hf
    rw [if_neg c39] at hf
    by_cases c40 : (v2 &&& 63) = 40
    · rw [if_pos c40] at hf
      refine V.topI c40 ?_
      refine V.tableIn (q := 1524) (off := 1484) dL_law_40 (by decide) (by decide) (by decide) (by decide) ?_
      exact tL_law_1524 k23 hk23 hf
    rw [if_neg c40] at hf
    by_cases c41 : (v2 &&& 63) = 41
    · rw [if_pos c41] at hf
      refine V.topI c41 ?_
      refine V.tableIn (q := 1561) (off := 1521) dL_law_40 (by decide) (by decide) (by decide) (by decide) ?_
      exact tL_law_1561 k23 hk23 hf
    rw [if_neg c41] at hf
    by_cases c42 : (v2 &&& 63) = 42
    · rw [if_pos c42] at hf
      refine V.topI c42 ?_
      refine V.tableIn (q := 1610) (off := 1570) dL_law_40 (by decide) (by decide) (by decide) (by decide) ?_
      exact tL_law_1610 k23 hk23 hf
    rw [if_neg c42] at hf
    by_cases c43 : (v2 &&& 63) = 43
    · rw [if_pos c43] at hf
      refine V.topI c43 ?_
      refine V.tableIn (q := 1659) (off := 1619) dL_law_40 (by decide) (by decide) (by decide) (by decide) ?_
      exact tL_law_1659 k23 hk23 hf
    rw [if_neg c43] at hf
    by_cases c44 : (v2 &&& 63) = 44
    · rw [if_pos c44] at hf
      refine V.topI c44 ?_
      refine V.tableIn (q := 1696) (off := 1656) dL_law_40 (by decide) (by decide) (by decide) (by decide) ?_
      exact tL_law_1696 k23 hk23 hf
    rw [if_neg c44] at hf
    by_cases c45 : (v2 &&& 63) = 45
    · rw [if_pos c45] at hf
      refine V.topI c45 ?_
      refine V.tableIn (q := 1761) (off := 1721) dL_law_40 (by decide) (by decide) (by decide) (by decide) ?_
      exact tL_law_1761 k23 hk23 hf
    rw [if_neg c45] at hf
    by_cases c46 : (v2 &&& 63) = 46
    · rw [if_pos c46] at hf
      refine V.topI c46 ?_
      refine V.tableIn (q := 1798) (off := 1758) dL_law_40 (by decide) (by decide) (by decide) (by decide) ?_
      exact tL_law_1798 k23 hk23 hf
    rw [if_neg c46] at hf
    by_cases c47 : (v2 &&& 63) = 47
    · rw [if_pos c47] at hf
      refine V.topI c47 ?_
      refine V.tableIn (q := 1811) (off := 1771) dL_law_40 (by decide) (by decide) (by decide) (by decide) ?_
      exact tL_law_1811 k23 hk23 hf
    rw [if_neg c47] at hf
    by_cases c48 : (v2 &&& 63) = 48
    · rw [if_pos c48] at hf
      refine V.topI c48 ?_
      refine V.tableIn (q := 1824) (off := 1784) dL_law_40 (by decide) (by decide) (by decide) (by decide) ?_
      exact tL_law_1824 k23 hk23 hf
    rw [if_neg c48] at hf
    by_cases c49 : (v2 &&& 63) = 49
    · rw [if_pos c49] at hf
      refine V.topI c49 ?_
      refine V.tableIn (q := 1849) (off := 1809) dL_law_40 (by decide) (by decide) (by decide) (by decide) ?_
      exact tL_law_1849 k23 hk23 hf
    rw [if_neg c49] at hf
    by_cases c50 : (v2 &&& 63) = 50
    · rw [if_pos c50] at hf
      refine V.topI c50 ?_
      refine V.tableIn (q := 1905) (off := 1865) dL_law_40 (by decide) (by decide) (by decide) (by decide) ?_
      exact tL_law_1905 k23 hk23 hf
    rw [if_neg c50] at hf
    by_cases c51 : (v2 &&& 63) = 51
    · rw [if_pos c51] at hf
      refine V.topI c51 ?_
      refine V.tableIn (q := 1930) (off := 1890) dL_law_40 (by decide) (by decide) (by decide) (by decide) ?_
      exact tL_law_1930 k23 hk23 hf
    rw [if_neg c51] at hf
    have hout : (v2 &&& 63).toInt < 0 ∨ 51 < (v2 &&& 63).toInt := tsw_out (lo := 0) (n := 51) (fun k h1 h2 => by
      have : k = 0 ∨ k = 1 ∨ k = 2 ∨ k = 3 ∨ k = 4 ∨ k = 5 ∨ k = 6 ∨ k = 7 ∨ k = 8 ∨ k = 9 ∨ k = 10 ∨ k = 11 ∨ k = 12 ∨ k = 13 ∨ k = 14 ∨ k = 15 ∨ k = 16 ∨ k = 17 ∨ k = 18 ∨ k = 19 ∨ k = 20 ∨ k = 21 ∨ k = 22 ∨ k = 23 ∨ k = 24 ∨ k = 25 ∨ k = 26 ∨ k = 27 ∨ k = 28 ∨ k = 29 ∨ k = 30 ∨ k = 31 ∨ k = 32 ∨ k = 33 ∨ k = 34 ∨ k = 35 ∨ k = 36 ∨ k = 37 ∨ k = 38 ∨ k = 39 ∨ k = 40 ∨ k = 41 ∨ k = 42 ∨ k = 43 ∨ k = 44 ∨ k = 45 ∨ k = 46 ∨ k = 47 ∨ k = 48 ∨ k = 49 ∨ k = 50 ∨ k = 51 := by omega
      rcases this with rfl | rfl | rfl | rfl | rfl | rfl | rfl | rfl | rfl | rfl | rfl | rfl | rfl | rfl | rfl | rfl | rfl | rfl | rfl | rfl | rfl | rfl | rfl | rfl | rfl | rfl | rfl | rfl | rfl | rfl | rfl | rfl | rfl | rfl | rfl | rfl | rfl | rfl | rfl | rfl | rfl | rfl | rfl | rfl | rfl | rfl | rfl | rfl | rfl | rfl | rfl | rfl
      · exact c0
      · exact c1
      · exact c2
      · exact c3
      · exact c4
      · exact c5
      · exact c6
      · exact c7
      · exact c8
      · exact c9
      · exact c10
      · exact c11
      · exact c12
      · exact c13
      · exact c14
      · exact c15
      · exact c16
      · exact c17
      · exact c18
      · exact c19
      · exact c20
      · exact c21
      · exact c22
      · exact c23
      · exact c24
      · exact c25
      · exact c26
      · exact c27
      · exact c28
      · exact c29
      · exact c30
      · exact c31
      · exact c32
      · exact c33
      · exact c34
      · exact c35
      · exact c36
      · exact c37
      · exact c38
      · exact c39
      · exact c40
      · exact c41
      · exact c42
      · exact c43
      · exact c44
      · exact c45
      · exact c46
      · exact c47
      · exact c48
      · exact c49
      · exact c50
      · exact c51) (by decide)
    refine V.tableOut (q := 1943) dL_law_40 hout (by decide) ?_
    obtain ⟨v3, ev3, hf⟩ := bd_ex hf
    refine V.iinc (q := 1946) (v := v3) (L' := [.retAddr 1000, .ref a1, .ref a2, .ref a3, .int v3, Jk, Jk]) dL_law_1943 rfl rfl (Option.some.inj ev3) (by decide) rfl rfl ?_
    refine V.goto (q := 23) dL_law_1946 (by decide) ?_
    exact hk23 _ _ _ _ _ hf
def fL_law_23 (Ls : Nat) (xs : Nat → Int32)  : Nat → MH → Nat → Nat → Nat → Int32 → Option (Int32 × MH)
  | 0 => fun _ _ _ _ _ => none
  | n + 1 => bL_law_23 Ls xs  (fL_law_23 Ls xs  n)
theorem tlL_law_23 {Ls : Nat} {xs : Nat → Int32} {r : Int32} {h' : MH}   : ∀ (n : Nat) (h : MH) (a1 : Nat) (a2 : Nat) (a3 : Nat) (x4 : Int32), fL_law_23 Ls xs  n h a1 a2 a3 x4 = some (r, h') → V (PL Ls xs) mL_law 18 (some (.int r)) h' h 23 [.retAddr 1000, .ref a1, .ref a2, .ref a3, .int x4, Jk, Jk] [] := by
  intro n
  induction n with
  | zero => intro h a1 a2 a3 x4 hf; exact nomatch (show (none : Option (Int32 × MH)) = some (r, h') from hf)
  | succ n ih => intro h a1 a2 a3 x4 hf; exact tL_law_23  (fL_law_23 Ls xs  n) ih hf
def fL_law (Ls : Nat) (xs : Nat → Int32) (h : MH)  : Option (Int32 × MH) := bd2 (nO h 11) fun b1 h1 => bd (fX11_init h1 b1 ) fun h2 => bd2 (nO h2 13) fun b2 h3 => bd (fX13_init h3 b2 ) fun h4 => bd2 (nO2 h4 16 1) fun b3 h5 => fL_law_23 Ls xs FU h5 b1 b2 b3 0
set_option maxRecDepth 20000 in
theorem tL_law {Ls : Nat} {xs : Nat → Int32} {r : Int32} {h' : MH} {h : MH}  (hf : fL_law Ls xs h  = some (r, h')) : V (PL Ls xs) mL_law 18 (some (.int r)) h' h 0 [.retAddr 1000, Jk, Jk, Jk, Jk, Jk, Jk] [] := by
  show V (PL Ls xs) mL_law 18 _ h' h 0 [.retAddr 1000, Jk, Jk, Jk, Jk, Jk, Jk] []
  unfold fL_law at hf
  obtain ⟨b1, h1, eh1, hf⟩ := bd2_ex hf
  obtain ⟨rfl, rfl⟩ := ret_inj eh1
  refine V.new (q := 3) nlL_8 dL_law_0 rfl ?_
  generalize hqh1 : nC h 11 0 = h1 at hf ⊢
  generalize hph1 : h.2.2.2.length = b1 at hf ⊢
  refine V.dupR (q := 4) dL_law_3 rfl ?_
  obtain ⟨h2, eh2, hf⟩ := bd_ex hf
  refine V.callI (q := 7) (vs := []) (st := [.ref b1]) (S2 := [.ref b1]) okX11_init imX11_init ⟨rfl, rfl⟩ lkL_15 (tX11_init eh2) rfl (by decide) rfl (Nat.le_of_ble_eq_true rfl) (Nat.le_of_ble_eq_true rfl) rfl dL_law_4 rfl rfl ?_
  refine V.astore_n (q := 8) (L' := [.retAddr 1000, .ref b1, Jk, Jk, Jk, Jk, Jk]) rfl dL_law_7 rfl (by decide) rfl rfl ?_
  obtain ⟨b2, h3, eh3, hf⟩ := bd2_ex hf
  obtain ⟨rfl, rfl⟩ := ret_inj eh3
  refine V.new (q := 11) nlL_16 dL_law_8 rfl ?_
  generalize hqh3 : nC h2 13 0 = h3 at hf ⊢
  generalize hph3 : h2.2.2.2.length = b2 at hf ⊢
  refine V.dupR (q := 12) dL_law_11 rfl ?_
  obtain ⟨h4, eh4, hf⟩ := bd_ex hf
  refine V.callI (q := 15) (vs := []) (st := [.ref b2]) (S2 := [.ref b2]) okX13_init imX13_init ⟨rfl, rfl⟩ lkL_18 (tX13_init eh4) rfl (by decide) rfl (Nat.le_of_ble_eq_true rfl) (Nat.le_of_ble_eq_true rfl) rfl dL_law_12 rfl rfl ?_
  refine V.astore_n (q := 16) (L' := [.retAddr 1000, .ref b1, .ref b2, Jk, Jk, Jk, Jk]) rfl dL_law_15 rfl (by decide) rfl rfl ?_
  refine V.iconst (q := 17) (v := 1) (by decide) dL_law_16 rfl ?_
  obtain ⟨b3, h5, eh5, hf⟩ := bd2_ex hf
  obtain ⟨rfl, rfl⟩ := ret_inj eh5
  refine V.newJ (q := 19) (N := 1) (by decide) (by decide) (by decide) dL_law_17 rfl ?_
  generalize hqh5 : nC h4 16 1 = h5 at hf ⊢
  generalize hph5 : h4.2.2.2.length = b3 at hf ⊢
  refine V.astore_n (q := 20) (L' := [.retAddr 1000, .ref b1, .ref b2, .ref b3, Jk, Jk, Jk]) rfl dL_law_19 rfl (by decide) rfl rfl ?_
  refine V.iconst (q := 21) (v := 0) (by decide) dL_law_20 rfl ?_
  refine V.istore (q := 23) (L' := [.retAddr 1000, .ref b1, .ref b2, .ref b3, .int 0, Jk, Jk]) dL_law_21 rfl (by decide) rfl rfl ?_
  exact tlL_law_23  FU _ _ _ _ _ hf
