theorem flX8_81 : fLk RX8 81 8 13 := ⟨RX8, TX8, 14, rfl, by decide, Or.inl (mT2 54 rfl rfl)⟩
theorem fpX8_81 {M : MD} (h : M.1.cls = RX8) : fPk M 81 8 13 := ⟨RX8, TX8, 14, rfl, by decide, Or.inl ⟨by rw [h]; exact mT2 54 rfl rfl, rfl⟩⟩
theorem lkX8_84 : Cond.methodLink RX8 84 yX10_begin ∈ TB := mT3 59 rfl rfl
theorem lkX8_88 : Cond.methodLink RX8 88 yX8_readLine ∈ TB := mT3 75 rfl rfl
theorem flX8_92 : fLk RX8 92 10 3 := ⟨RX10, TX10, 7, rfl, by decide, Or.inl (mT1 44 rfl rfl)⟩
theorem lkX8_95 : Cond.methodLink RX8 95 yX8_fail ∈ TB := mT3 83 rfl rfl
theorem lkX8_99 : Cond.methodLink RX8 99 yX10_advance ∈ TB := mT3 91 rfl rfl
theorem flX8_102 : fLk RX8 102 7 14 := ⟨RX7, TX7, 20, rfl, by decide, Or.inl (mT1 149 rfl rfl)⟩
theorem lkX8_105 : Cond.methodLink RX8 105 yX10_choice ∈ TB := mT3 79 rfl rfl
theorem lkX8_109 : Cond.methodLink RX8 109 yX8_isFull ∈ TB := mT3 87 rfl rfl
theorem lkX8_112 : Cond.methodLink RX8 112 yX8_readOffice ∈ TB := mT3 92 rfl rfl
theorem lkX8_115 : Cond.methodLink RX8 115 yX8_readMark ∈ TB := mT3 108 rfl rfl
theorem lkX8_118 : Cond.methodLink RX8 118 yX8_readPaper ∈ TB := mT3 120 rfl rfl
theorem lkX8_121 : Cond.methodLink RX8 121 yX8_readStamp ∈ TB := mT3 139 rfl rfl
theorem lkX8_124 : Cond.methodLink RX8 124 yX8_readRule ∈ TB := mT3 151 rfl rfl
theorem lkX8_127 : Cond.methodLink RX8 127 yX8_readHand ∈ TB := mT3 163 rfl rfl
theorem lkX8_130 : Cond.methodLink RX8 130 yX8_readWant ∈ TB := mT3 167 rfl rfl
theorem lkX8_133 : Cond.methodLink RX8 133 yX8_readPrint ∈ TB := mT3 171 rfl rfl
theorem flX8_136 : fLk RX8 136 7 13 := ⟨RX7, TX7, 20, rfl, by decide, Or.inl (mT1 145 rfl rfl)⟩
theorem flX8_139 : fLk RX8 139 7 15 := ⟨RX7, TX7, 20, rfl, by decide, Or.inl (mT1 163 rfl rfl)⟩
theorem flX8_142 : fLk RX8 142 7 16 := ⟨RX7, TX7, 20, rfl, by decide, Or.inl (mT1 166 rfl rfl)⟩
theorem flX8_145 : fLk RX8 145 7 17 := ⟨RX7, TX7, 20, rfl, by decide, Or.inl (mT1 171 rfl rfl)⟩
theorem flX8_148 : fLk RX8 148 7 19 := ⟨RX7, TX7, 20, rfl, by decide, Or.inl (mT1 180 rfl rfl)⟩
theorem lkX8_151 : Cond.methodLink RX8 151 yX8_takeFiller ∈ TB := mT3 96 rfl rfl
theorem lkX8_154 : Cond.methodLink RX8 154 yX8_takeWhole ∈ TB := mT3 100 rfl rfl
theorem flX8_158 : fLk RX8 158 7 12 := ⟨RX7, TX7, 20, rfl, by decide, Or.inl (mT1 141 rfl rfl)⟩
theorem fpX8_158 {M : MD} (h : M.1.cls = RX8) : fPk M 158 7 12 := ⟨RX7, TX7, 20, rfl, by decide, Or.inl ⟨by rw [h]; exact mT1 141 rfl rfl, rfl⟩⟩
theorem lkX8_161 : Cond.methodLink RX8 161 yX8_takeNewName ∈ TB := mT3 112 rfl rfl
theorem fpX8_136 {M : MD} (h : M.1.cls = RX8) : fPk M 136 7 13 := ⟨RX7, TX7, 20, rfl, by decide, Or.inl ⟨by rw [h]; exact mT1 145 rfl rfl, rfl⟩⟩
theorem flX8_165 : fLk RX8 165 7 0 := ⟨RX7, TX7, 20, rfl, by decide, Or.inl (mT1 95 rfl rfl)⟩
theorem lkX8_168 : Cond.methodLink RX8 168 yX8_takeMarks ∈ TB := mT3 124 rfl rfl
theorem lkX8_172 : Cond.methodLink RX8 172 yX4_setMarks ∈ TB := mT3 135 rfl rfl
theorem flX8_176 : fLk RX8 176 7 1 := ⟨RX7, TX7, 20, rfl, by decide, Or.inl (mT1 100 rfl rfl)⟩
theorem fpX8_102 {M : MD} (h : M.1.cls = RX8) : fPk M 102 7 14 := ⟨RX7, TX7, 20, rfl, by decide, Or.inl ⟨by rw [h]; exact mT1 149 rfl rfl, rfl⟩⟩
theorem lkX8_179 : Cond.methodLink RX8 179 yX4_setInk ∈ TB := mT3 143 rfl rfl
theorem flX8_182 : fLk RX8 182 7 2 := ⟨RX7, TX7, 20, rfl, by decide, Or.inl (mT1 103 rfl rfl)⟩
theorem lkX8_185 : Cond.methodLink RX8 185 yX8_takeChoice ∈ TB := mT3 147 rfl rfl
theorem flX8_188 : fLk RX8 188 7 3 := ⟨RX7, TX7, 20, rfl, by decide, Or.inl (mT1 108 rfl rfl)⟩
theorem fpX8_139 {M : MD} (h : M.1.cls = RX8) : fPk M 139 7 15 := ⟨RX7, TX7, 20, rfl, by decide, Or.inl ⟨by rw [h]; exact mT1 163 rfl rfl, rfl⟩⟩
theorem flX8_191 : fLk RX8 191 7 4 := ⟨RX7, TX7, 20, rfl, by decide, Or.inl (mT1 111 rfl rfl)⟩
theorem lkX8_194 : Cond.methodLink RX8 194 yX8_takeOldName ∈ TB := mT3 155 rfl rfl
theorem flX8_197 : fLk RX8 197 7 6 := ⟨RX7, TX7, 20, rfl, by decide, Or.inl (mT1 119 rfl rfl)⟩
theorem flX8_200 : fLk RX8 200 7 5 := ⟨RX7, TX7, 20, rfl, by decide, Or.inl (mT1 116 rfl rfl)⟩
theorem lkX8_203 : Cond.methodLink RX8 203 yX4_setVerdict ∈ TB := mT3 159 rfl rfl
theorem fpX8_142 {M : MD} (h : M.1.cls = RX8) : fPk M 142 7 16 := ⟨RX7, TX7, 20, rfl, by decide, Or.inl ⟨by rw [h]; exact mT1 166 rfl rfl, rfl⟩⟩
theorem flX8_206 : fLk RX8 206 7 7 := ⟨RX7, TX7, 20, rfl, by decide, Or.inl (mT1 123 rfl rfl)⟩
theorem flX8_209 : fLk RX8 209 7 8 := ⟨RX7, TX7, 20, rfl, by decide, Or.inl (mT1 128 rfl rfl)⟩
theorem fpX8_145 {M : MD} (h : M.1.cls = RX8) : fPk M 145 7 17 := ⟨RX7, TX7, 20, rfl, by decide, Or.inl ⟨by rw [h]; exact mT1 171 rfl rfl, rfl⟩⟩
theorem lkX8_212 : Cond.methodLink RX8 212 yX8_findOldName ∈ TB := mT3 128 rfl rfl
theorem flX8_215 : fLk RX8 215 7 18 := ⟨RX7, TX7, 20, rfl, by decide, Or.inl (mT1 176 rfl rfl)⟩
theorem fpX8_215 {M : MD} (h : M.1.cls = RX8) : fPk M 215 7 18 := ⟨RX7, TX7, 20, rfl, by decide, Or.inl ⟨by rw [h]; exact mT1 176 rfl rfl, rfl⟩⟩
theorem flX8_218 : fLk RX8 218 7 9 := ⟨RX7, TX7, 20, rfl, by decide, Or.inl (mT1 132 rfl rfl)⟩
theorem flX8_221 : fLk RX8 221 7 10 := ⟨RX7, TX7, 20, rfl, by decide, Or.inl (mT1 135 rfl rfl)⟩
theorem flX8_224 : fLk RX8 224 7 11 := ⟨RX7, TX7, 20, rfl, by decide, Or.inl (mT1 138 rfl rfl)⟩
theorem fpX8_148 {M : MD} (h : M.1.cls = RX8) : fPk M 148 7 19 := ⟨RX7, TX7, 20, rfl, by decide, Or.inl ⟨by rw [h]; exact mT1 180 rfl rfl, rfl⟩⟩
theorem lnX8_227 : Cond.methodLinkNest RX8 227 yX11_hasBit "StampViews" ∈ nestW := mNw 7 (by decide +kernel)
theorem lkX8_230 : Cond.methodLink RX8 230 yX10_value ∈ TB := mT3 104 rfl rfl
theorem lkX8_233 : Cond.methodLink RX8 233 yX8_findName ∈ TB := mT3 116 rfl rfl
theorem flX8_236 : fLk RX8 236 10 6 := ⟨RX10, TX10, 7, rfl, by decide, Or.inl (mT1 50 rfl rfl)⟩
theorem flX8_240 : fLk RX8 240 10 4 := ⟨RX10, TX10, 7, rfl, by decide, Or.inl (mT1 47 rfl rfl)⟩
theorem oiX9_3 : Cond.methodLink RX9 3 objectInit ∈ TB := mT2 177 rfl rfl
theorem flX9_9 : fLk RX9 9 9 0 := ⟨RX9, TX9, 1, rfl, by decide, Or.inl (mT2 178 rfl rfl)⟩
theorem fqX9_9 {M : MD} (h : M.1.cls = RX9) (hn : M.1.name = "<init>") : fPk M 9 9 0 := ⟨RX9, TX9, 1, rfl, by decide, Or.inr (Or.inr ⟨by rw [h]; exact mT2 178 rfl rfl, rfl, hn, by rw [h]; rfl⟩)⟩
theorem flX9_15 : fLk RX9 15 5 1 := ⟨RX5, TX5, 2, rfl, by decide, Or.inl (mT2 102 rfl rfl)⟩
theorem flX9_21 : fLk RX9 21 7 19 := ⟨RX7, TX7, 20, rfl, by decide, Or.inl (mT1 178 rfl rfl)⟩
theorem flX9_27 : fLk RX9 27 7 9 := ⟨RX7, TX7, 20, rfl, by decide, Or.inl (mT1 131 rfl rfl)⟩
theorem lkX9_31 : Cond.methodLink RX9 31 yX5_sayOn ∈ TB := mT4 201 rfl rfl
theorem flX9_35 : fLk RX9 35 7 10 := ⟨RX7, TX7, 20, rfl, by decide, Or.inl (mT1 134 rfl rfl)⟩
theorem flX9_38 : fLk RX9 38 7 11 := ⟨RX7, TX7, 20, rfl, by decide, Or.inl (mT1 137 rfl rfl)⟩
theorem lkX9_41 : Cond.methodLink RX9 41 yX5_hundredths ∈ TB := mT4 202 rfl rfl
theorem flX9_45 : fLk RX9 45 7 15 := ⟨RX7, TX7, 20, rfl, by decide, Or.inl (mT1 159 rfl rfl)⟩
theorem lkX9_48 : Cond.methodLink RX9 48 yX9_weight ∈ TB := mT4 211 rfl rfl
theorem flX9_52 : fLk RX9 52 7 13 := ⟨RX7, TX7, 20, rfl, by decide, Or.inl (mT1 146 rfl rfl)⟩
theorem lnX9_55 : Cond.methodLinkNest RX9 55 yX11_hasBit "StampViews" ∈ nestW := mNw 9 (by decide +kernel)
theorem flX9_59 : fLk RX9 59 5 0 := ⟨RX5, TX5, 2, rfl, by decide, Or.inl (mT2 99 rfl rfl)⟩
theorem lkX9_63 : Cond.methodLink RX9 63 yX4_marksOf ∈ TB := mT5 12 rfl rfl
theorem lkX9_69 : Cond.methodLink RX9 69 yX9_sayOfLaw ∈ TB := mT5 13 rfl rfl
theorem lkX9_72 : Cond.methodLink RX9 72 yX5_printBy ∈ TB := mT5 18 rfl rfl
theorem lkX9_75 : Cond.methodLink RX9 75 yX9_lawCount ∈ TB := mT5 4 rfl rfl
theorem lkX9_79 : Cond.methodLink RX9 79 yX9_isFitting ∈ TB := mT5 8 rfl rfl
theorem lkX9_83 : Cond.methodLink RX9 83 yX9_fittingLaws ∈ TB := mT5 33 rfl rfl
theorem lkX9_87 : Cond.methodLink RX9 87 yX9_lawsThatSay ∈ TB := mT5 34 rfl rfl
theorem lkX9_91 : Cond.methodLink RX9 91 Lib.Math.max.name ∈ TB := mT5 54 rfl rfl
theorem flX9_96 : fLk RX9 96 7 14 := ⟨RX7, TX7, 20, rfl, by decide, Or.inl (mT1 155 rfl rfl)⟩
theorem lkX9_99 : Cond.methodLink RX9 99 yX9_mostLeft ∈ TB := mT5 50 rfl rfl
theorem lkX9_103 : Cond.methodLink RX9 103 yX9_paperToTryOf ∈ TB := mT5 46 rfl rfl
theorem oiX10_3 : Cond.methodLink RX10 3 objectInit ∈ TB := mT1 39 rfl rfl
theorem flX10_11 : fLk RX10 11 10 0 := ⟨RX10, TX10, 7, rfl, by decide, Or.inl (mT1 40 rfl rfl)⟩
theorem fqX10_11 {M : MD} (h : M.1.cls = RX10) (hn : M.1.name = "<init>") : fPk M 11 10 0 := ⟨RX10, TX10, 7, rfl, by decide, Or.inr (Or.inr ⟨by rw [h]; exact mT1 40 rfl rfl, rfl, hn, by rw [h]; rfl⟩)⟩
theorem flX10_15 : fLk RX10 15 10 1 := ⟨RX10, TX10, 7, rfl, by decide, Or.inl (mT1 41 rfl rfl)⟩
theorem fpX10_15 {M : MD} (h : M.1.cls = RX10) : fPk M 15 10 1 := ⟨RX10, TX10, 7, rfl, by decide, Or.inl ⟨by rw [h]; exact mT1 41 rfl rfl, rfl⟩⟩
theorem flX10_19 : fLk RX10 19 10 2 := ⟨RX10, TX10, 7, rfl, by decide, Or.inl (mT1 43 rfl rfl)⟩
theorem fpX10_19 {M : MD} (h : M.1.cls = RX10) : fPk M 19 10 2 := ⟨RX10, TX10, 7, rfl, by decide, Or.inl ⟨by rw [h]; exact mT1 43 rfl rfl, rfl⟩⟩
theorem flX10_22 : fLk RX10 22 10 5 := ⟨RX10, TX10, 7, rfl, by decide, Or.inl (mT1 48 rfl rfl)⟩
theorem fpX10_22 {M : MD} (h : M.1.cls = RX10) : fPk M 22 10 5 := ⟨RX10, TX10, 7, rfl, by decide, Or.inl ⟨by rw [h]; exact mT1 48 rfl rfl, rfl⟩⟩
theorem lkX10_25 : Cond.methodLink RX10 25 yX10_advance ∈ TB := mT3 63 rfl rfl
theorem flX10_28 : fLk RX10 28 10 4 := ⟨RX10, TX10, 7, rfl, by decide, Or.inl (mT1 46 rfl rfl)⟩
theorem fpX10_28 {M : MD} (h : M.1.cls = RX10) : fPk M 28 10 4 := ⟨RX10, TX10, 7, rfl, by decide, Or.inl ⟨by rw [h]; exact mT1 46 rfl rfl, rfl⟩⟩
theorem flX10_31 : fLk RX10 31 10 3 := ⟨RX10, TX10, 7, rfl, by decide, Or.inl (mT1 45 rfl rfl)⟩
theorem fpX10_31 {M : MD} (h : M.1.cls = RX10) : fPk M 31 10 3 := ⟨RX10, TX10, 7, rfl, by decide, Or.inl ⟨by rw [h]; exact mT1 45 rfl rfl, rfl⟩⟩
theorem flX10_34 : fLk RX10 34 10 6 := ⟨RX10, TX10, 7, rfl, by decide, Or.inl (mT1 49 rfl rfl)⟩
theorem fpX10_34 {M : MD} (h : M.1.cls = RX10) : fPk M 34 10 6 := ⟨RX10, TX10, 7, rfl, by decide, Or.inl ⟨by rw [h]; exact mT1 49 rfl rfl, rfl⟩⟩
theorem lkX10_38 : Cond.methodLink RX10 38 yX10_sortAt ∈ TB := mT3 67 rfl rfl
theorem lkX10_42 : Cond.methodLink RX10 42 yX10_spelling ∈ TB := mT3 71 rfl rfl
theorem lkX10_46 : Cond.methodLink RX10 46 yJ0_length_8abf5 ∈ TB := mT1 227 rfl rfl
theorem lkX10_51 : Cond.methodLink RX10 51 yJ0_charAt_5068e ∈ TB := mT1 237 rfl rfl
theorem kcJ6_265 : Cond.constant RJ6 265 1431655765 ∈ TB := mT4 173 rfl rfl
theorem kcJ6_266 : Cond.constant RJ6 266 858993459 ∈ TB := mT4 174 rfl rfl
theorem kcJ6_267 : Cond.constant RJ6 267 252645135 ∈ TB := mT4 175 rfl rfl
theorem kcJ13_314 : Cond.constantLong RJ13 314 6148914691236517205 ∈ TB := mT5 22 rfl rfl
theorem kcJ13_316 : Cond.constantLong RJ13 316 3689348814741910323 ∈ TB := mT5 23 rfl rfl
theorem kcJ13_318 : Cond.constantLong RJ13 318 1085102592571150095 ∈ TB := mT5 24 rfl rfl
theorem fjJ0_9 : Cond.fieldLink RJ0 9 "java/lang/String" "value" "[B" ∈ TB := mT9 179 rfl rfl
theorem lkJ0_335 : Cond.methodLink RJ0 335 yJ0_coder_7d493 ∈ TB := mT1 231 rfl rfl
theorem lkJ0_492 : Cond.methodLink RJ0 492 yJ0_isLatin1_aae02 ∈ TB := mT2 1 rfl rfl
theorem lkJ0_495 : Cond.methodLink RJ0 495 yJ1_charAt_3b067 ∈ TB := mT2 5 rfl rfl
theorem fjJ0_38 : Cond.fieldLink RJ0 38 "java/lang/String" "COMPACT_STRINGS" "Z" ∈ TB := mT1 235 rfl rfl
theorem fjJ0_15 : Cond.fieldLink RJ0 15 "java/lang/String" "coder" "B" ∈ TB := mT9 180 rfl rfl
theorem fjJ0_1053 : Cond.fieldLink RJ0 1053 "jdk/internal/util/Preconditions" "SIOOBE_FORMATTER" "Ljava/util/function/BiFunction;" ∈ TB := mT2 11 rfl rfl
theorem lkJ0_1059 : Cond.methodLink RJ0 1059 yJ3_checkIndex_8e157 ∈ TB := mT2 13 rfl rfl
theorem lkJ1_9 : Cond.methodLink RJ1 9 yJ0_checkIndex_df160 ∈ TB := mT2 8 rfl rfl
theorem oiX11_1 : Cond.methodLink RX11 1 objectInit ∈ TB := mT1 31 rfl rfl
theorem nlX11_7 : nLk RX11 7 10 := ⟨RX10, TX10, 7, rfl, mT1 34 rfl rfl, mT1 35 rfl rfl, mT1 2 rfl rfl⟩
theorem lnX11_9 : Cond.methodLinkNest RX11 9 yX10_init "StampViews" ∈ nestW := mNw 0 (by decide +kernel)
theorem flX11_10 : fLk RX11 10 11 0 := ⟨RX11, TX11, 13, rfl, by decide, Or.inl (mT2 227 rfl rfl)⟩
theorem fqX11_10 {M : MD} (h : M.1.cls = RX11) (hn : M.1.name = "<init>") : fPk M 10 11 0 := ⟨RX11, TX11, 13, rfl, by decide, Or.inr (Or.inr ⟨by rw [h]; exact mT2 227 rfl rfl, rfl, hn, by rw [h]; rfl⟩)⟩
theorem nlX11_16 : nLk RX11 16 8 := ⟨RX8, TX8, 14, rfl, mT1 67 rfl rfl, mT1 68 rfl rfl, mT1 3 rfl rfl⟩
theorem lkX11_18 : Cond.methodLink RX11 18 yX8_init ∈ TB := mT1 69 rfl rfl
theorem flX11_21 : fLk RX11 21 11 1 := ⟨RX11, TX11, 13, rfl, by decide, Or.inl (mT2 228 rfl rfl)⟩
theorem fqX11_21 {M : MD} (h : M.1.cls = RX11) (hn : M.1.name = "<init>") : fPk M 21 11 1 := ⟨RX11, TX11, 13, rfl, by decide, Or.inr (Or.inr ⟨by rw [h]; exact mT2 228 rfl rfl, rfl, hn, by rw [h]; rfl⟩)⟩
theorem nlX11_25 : nLk RX11 25 5 := ⟨RX5, TX5, 2, rfl, mT2 85 rfl rfl, mT2 86 rfl rfl, mT1 10 rfl rfl⟩
theorem lnX11_27 : Cond.methodLinkNest RX11 27 yX5_init "StampViews" ∈ nestW := mNw 3 (by decide +kernel)
theorem flX11_28 : fLk RX11 28 11 2 := ⟨RX11, TX11, 13, rfl, by decide, Or.inl (mT2 229 rfl rfl)⟩
theorem fqX11_28 {M : MD} (h : M.1.cls = RX11) (hn : M.1.name = "<init>") : fPk M 28 11 2 := ⟨RX11, TX11, 13, rfl, by decide, Or.inr (Or.inr ⟨by rw [h]; exact mT2 229 rfl rfl, rfl, hn, by rw [h]; rfl⟩)⟩
theorem nlX11_32 : nLk RX11 32 6 := ⟨RX6, TX6, 5, rfl, mT2 112 rfl rfl, mT2 113 rfl rfl, mT1 11 rfl rfl⟩
theorem lnX11_34 : Cond.methodLinkNest RX11 34 yX6_init "StampViews" ∈ nestW := mNw 6 (by decide +kernel)
theorem flX11_35 : fLk RX11 35 11 3 := ⟨RX11, TX11, 13, rfl, by decide, Or.inl (mT2 230 rfl rfl)⟩
theorem fqX11_35 {M : MD} (h : M.1.cls = RX11) (hn : M.1.name = "<init>") : fPk M 35 11 3 := ⟨RX11, TX11, 13, rfl, by decide, Or.inr (Or.inr ⟨by rw [h]; exact mT2 230 rfl rfl, rfl, hn, by rw [h]; rfl⟩)⟩
theorem nlX11_39 : nLk RX11 39 3 := ⟨RX3, TX3, 9, rfl, mT2 138 rfl rfl, mT2 139 rfl rfl, mT1 12 rfl rfl⟩
theorem lkX11_41 : Cond.methodLink RX11 41 yX3_init ∈ TB := mT2 140 rfl rfl
theorem flX11_44 : fLk RX11 44 11 4 := ⟨RX11, TX11, 13, rfl, by decide, Or.inl (mT2 231 rfl rfl)⟩
theorem fqX11_44 {M : MD} (h : M.1.cls = RX11) (hn : M.1.name = "<init>") : fPk M 44 11 4 := ⟨RX11, TX11, 13, rfl, by decide, Or.inr (Or.inr ⟨by rw [h]; exact mT2 231 rfl rfl, rfl, hn, by rw [h]; rfl⟩)⟩
theorem nlX11_48 : nLk RX11 48 9 := ⟨RX9, TX9, 1, rfl, mT2 172 rfl rfl, mT2 173 rfl rfl, mT1 13 rfl rfl⟩
theorem lkX11_50 : Cond.methodLink RX11 50 yX9_init ∈ TB := mT2 174 rfl rfl
theorem flX11_51 : fLk RX11 51 11 5 := ⟨RX11, TX11, 13, rfl, by decide, Or.inl (mT2 232 rfl rfl)⟩
theorem fqX11_51 {M : MD} (h : M.1.cls = RX11) (hn : M.1.name = "<init>") : fPk M 51 11 5 := ⟨RX11, TX11, 13, rfl, by decide, Or.inr (Or.inr ⟨by rw [h]; exact mT2 232 rfl rfl, rfl, hn, by rw [h]; rfl⟩)⟩
theorem nlX11_55 : nLk RX11 55 0 := ⟨RX0, TX0, 1, rfl, mT2 182 rfl rfl, mT2 183 rfl rfl, mT1 14 rfl rfl⟩
theorem lkX11_57 : Cond.methodLink RX11 57 yX0_init ∈ TB := mT2 184 rfl rfl
theorem flX11_58 : fLk RX11 58 11 6 := ⟨RX11, TX11, 13, rfl, by decide, Or.inl (mT2 233 rfl rfl)⟩
theorem fqX11_58 {M : MD} (h : M.1.cls = RX11) (hn : M.1.name = "<init>") : fPk M 58 11 6 := ⟨RX11, TX11, 13, rfl, by decide, Or.inr (Or.inr ⟨by rw [h]; exact mT2 233 rfl rfl, rfl, hn, by rw [h]; rfl⟩)⟩
theorem nlX11_62 : nLk RX11 62 2 := ⟨RX2, TX2, 1, rfl, mT2 192 rfl rfl, mT2 193 rfl rfl, mT1 15 rfl rfl⟩
theorem lkX11_64 : Cond.methodLink RX11 64 yX2_init ∈ TB := mT2 194 rfl rfl
theorem flX11_65 : fLk RX11 65 11 7 := ⟨RX11, TX11, 13, rfl, by decide, Or.inl (mT2 234 rfl rfl)⟩
theorem fqX11_65 {M : MD} (h : M.1.cls = RX11) (hn : M.1.name = "<init>") : fPk M 65 11 7 := ⟨RX11, TX11, 13, rfl, by decide, Or.inr (Or.inr ⟨by rw [h]; exact mT2 234 rfl rfl, rfl, hn, by rw [h]; rfl⟩)⟩
theorem nlX11_69 : nLk RX11 69 1 := ⟨RX1, TX1, 5, rfl, mT2 202 rfl rfl, mT2 203 rfl rfl, mT1 16 rfl rfl⟩
theorem lkX11_71 : Cond.methodLink RX11 71 yX1_init ∈ TB := mT2 204 rfl rfl
theorem flX11_72 : fLk RX11 72 11 8 := ⟨RX11, TX11, 13, rfl, by decide, Or.inl (mT2 235 rfl rfl)⟩
theorem fqX11_72 {M : MD} (h : M.1.cls = RX11) (hn : M.1.name = "<init>") : fPk M 72 11 8 := ⟨RX11, TX11, 13, rfl, by decide, Or.inr (Or.inr ⟨by rw [h]; exact mT2 235 rfl rfl, rfl, hn, by rw [h]; rfl⟩)⟩
theorem flX11_76 : fLk RX11 76 11 9 := ⟨RX11, TX11, 13, rfl, by decide, Or.inl (mT2 236 rfl rfl)⟩
theorem fpX11_76 {M : MD} (h : M.1.cls = RX11) : fPk M 76 11 9 := ⟨RX11, TX11, 13, rfl, by decide, Or.inl ⟨by rw [h]; exact mT2 236 rfl rfl, rfl⟩⟩
theorem flX11_80 : fLk RX11 80 11 10 := ⟨RX11, TX11, 13, rfl, by decide, Or.inl (mT2 237 rfl rfl)⟩
theorem fpX11_80 {M : MD} (h : M.1.cls = RX11) : fPk M 80 11 10 := ⟨RX11, TX11, 13, rfl, by decide, Or.inl ⟨by rw [h]; exact mT2 237 rfl rfl, rfl⟩⟩
theorem flX11_84 : fLk RX11 84 11 11 := ⟨RX11, TX11, 13, rfl, by decide, Or.inl (mT2 238 rfl rfl)⟩
theorem fpX11_84 {M : MD} (h : M.1.cls = RX11) : fPk M 84 11 11 := ⟨RX11, TX11, 13, rfl, by decide, Or.inl ⟨by rw [h]; exact mT2 238 rfl rfl, rfl⟩⟩
theorem flX11_87 : fLk RX11 87 11 12 := ⟨RX11, TX11, 13, rfl, by decide, Or.inl (mT2 239 rfl rfl)⟩
theorem fpX11_87 {M : MD} (h : M.1.cls = RX11) : fPk M 87 11 12 := ⟨RX11, TX11, 13, rfl, by decide, Or.inl ⟨by rw [h]; exact mT2 239 rfl rfl, rfl⟩⟩
theorem lkX11_90 : Cond.methodLink RX11 90 yX10_hasRoom ∈ TB := mT3 31 rfl rfl
theorem lkX11_94 : Cond.methodLink RX11 94 yX10_put ∈ TB := mT3 35 rfl rfl
theorem flX11_98 : fLk RX11 98 10 1 := ⟨RX10, TX10, 7, rfl, by decide, Or.inl (mT1 42 rfl rfl)⟩
theorem lkX11_101 : Cond.methodLink RX11 101 yX11_refuse ∈ TB := mT3 43 rfl rfl
theorem lkX11_105 : Cond.methodLink RX11 105 yX8_readText ∈ TB := mT3 47 rfl rfl
theorem fpX11_98 {M : MD} (h : M.1.cls = RX11) : fPk M 98 10 1 := ⟨RX10, TX10, 7, rfl, by decide, Or.inl ⟨by rw [h]; exact mT1 42 rfl rfl, rfl⟩⟩
theorem flX11_109 : fLk RX11 109 8 12 := ⟨RX8, TX8, 14, rfl, by decide, Or.inl (mT2 53 rfl rfl)⟩
theorem flX11_112 : fLk RX11 112 8 13 := ⟨RX8, TX8, 14, rfl, by decide, Or.inl (mT2 55 rfl rfl)⟩
theorem lkX11_115 : Cond.methodLink RX11 115 yX11_openOffice ∈ TB := mT3 175 rfl rfl
theorem flX11_118 : fLk RX11 118 5 1 := ⟨RX5, TX5, 2, rfl, by decide, Or.inl (mT2 106 rfl rfl)⟩
theorem flX11_122 : fLk RX11 122 7 14 := ⟨RX7, TX7, 20, rfl, by decide, Or.inl (mT1 153 rfl rfl)⟩
theorem lkX11_127 : Cond.methodLink RX11 127 yX11_answer ∈ TB := mT3 187 rfl rfl
theorem lkX11_130 : Cond.methodLink RX11 130 yX5_hasPaper ∈ TB := mT3 203 rfl rfl
theorem flX11_133 : fLk RX11 133 7 0 := ⟨RX7, TX7, 20, rfl, by decide, Or.inl (mT1 94 rfl rfl)⟩
theorem flX11_137 : fLk RX11 137 5 0 := ⟨RX5, TX5, 2, rfl, by decide, Or.inl (mT2 98 rfl rfl)⟩
theorem lkX11_141 : Cond.methodLink RX11 141 yX4_marksOf ∈ TB := mT3 207 rfl rfl
theorem flX11_146 : fLk RX11 146 7 1 := ⟨RX7, TX7, 20, rfl, by decide, Or.inl (mT1 99 rfl rfl)⟩
theorem lkX11_149 : Cond.methodLink RX11 149 yX4_latestOn ∈ TB := mT3 211 rfl rfl
theorem lkX11_152 : Cond.methodLink RX11 152 yX5_hasStamp ∈ TB := mT3 219 rfl rfl
theorem lkX11_155 : Cond.methodLink RX11 155 yX4_inkOf ∈ TB := mT3 223 rfl rfl
theorem flX11_158 : fLk RX11 158 7 2 := ⟨RX7, TX7, 20, rfl, by decide, Or.inl (mT1 102 rfl rfl)⟩
theorem flX11_161 : fLk RX11 161 7 3 := ⟨RX7, TX7, 20, rfl, by decide, Or.inl (mT1 107 rfl rfl)⟩
theorem lkX11_164 : Cond.methodLink RX11 164 yX7_rulesOf ∈ TB := mT3 227 rfl rfl
theorem lkX11_167 : Cond.methodLink RX11 167 yX4_pressesOfStamp ∈ TB := mT3 231 rfl rfl
theorem lkX11_170 : Cond.methodLink RX11 170 yX5_hasHand ∈ TB := mT3 239 rfl rfl
theorem flX11_173 : fLk RX11 173 7 7 := ⟨RX7, TX7, 20, rfl, by decide, Or.inl (mT1 122 rfl rfl)⟩
theorem flX11_176 : fLk RX11 176 7 8 := ⟨RX7, TX7, 20, rfl, by decide, Or.inl (mT1 127 rfl rfl)⟩
theorem lkX11_179 : Cond.methodLink RX11 179 yX4_pressesOfHand ∈ TB := mT4 3 rfl rfl
theorem lkX11_182 : Cond.methodLink RX11 182 yX5_hasRule ∈ TB := mT4 11 rfl rfl
theorem flX11_185 : fLk RX11 185 7 4 := ⟨RX7, TX7, 20, rfl, by decide, Or.inl (mT1 112 rfl rfl)⟩
theorem flX11_188 : fLk RX11 188 7 5 := ⟨RX7, TX7, 20, rfl, by decide, Or.inl (mT1 115 rfl rfl)⟩
theorem flX11_191 : fLk RX11 191 7 6 := ⟨RX7, TX7, 20, rfl, by decide, Or.inl (mT1 120 rfl rfl)⟩
theorem lkX11_194 : Cond.methodLink RX11 194 yX4_verdictOf ∈ TB := mT4 15 rfl rfl
theorem lkX11_197 : Cond.methodLink RX11 197 yX5_sayOn ∈ TB := mT4 23 rfl rfl
theorem lkX11_201 : Cond.methodLink RX11 201 yX5_firstRule ∈ TB := mT4 41 rfl rfl
theorem lkX11_204 : Cond.methodLink RX11 204 yX7_markSets ∈ TB := mT4 46 rfl rfl
theorem lkX11_208 : Cond.methodLink RX11 208 yX5_sayOf ∈ TB := mT4 50 rfl rfl
theorem lkX11_211 : Cond.methodLink RX11 211 yX5_hasAll ∈ TB := mT4 55 rfl rfl
theorem lkX11_215 : Cond.methodLink RX11 215 yX5_printBy ∈ TB := mT4 62 rfl rfl
theorem lkX11_218 : Cond.methodLink RX11 218 yX11_isVerdict ∈ TB := mT4 70 rfl rfl
theorem lkX11_221 : Cond.methodLink RX11 221 yX5_stampsThatSay ∈ TB := mT4 73 rfl rfl
theorem lkX11_224 : Cond.methodLink RX11 224 yX5_rulesNeverFirst ∈ TB := mT4 81 rfl rfl
theorem lkX11_227 : Cond.methodLink RX11 227 yX5_setsSaidUnlike ∈ TB := mT4 90 rfl rfl
theorem lkX11_230 : Cond.methodLink RX11 230 yX3_mostWants ∈ TB := mT4 98 rfl rfl
theorem lkX11_233 : Cond.methodLink RX11 233 yX3_pairFor ∈ TB := mT4 146 rfl rfl
theorem lkX11_236 : Cond.methodLink RX11 236 yX3_stampToFill ∈ TB := mT4 155 rfl rfl
theorem lkX11_239 : Cond.methodLink RX11 239 yX5_fewestMarksForYes ∈ TB := mT4 163 rfl rfl
theorem lkX11_242 : Cond.methodLink RX11 242 yX5_fewestChanges ∈ TB := mT4 181 rfl rfl
theorem lkX11_246 : Cond.methodLink RX11 246 yX5_markForMostYes ∈ TB := mT4 189 rfl rfl
theorem lkX11_249 : Cond.methodLink RX11 249 yX9_weight ∈ TB := mT4 197 rfl rfl
theorem lkX11_253 : Cond.methodLink RX11 253 yX9_allWeights ∈ TB := mT4 207 rfl rfl
theorem lkX11_257 : Cond.methodLink RX11 257 yX11_answerPart ∈ TB := mT4 212 rfl rfl
theorem lkX11_261 : Cond.methodLink RX11 261 yX9_heaviest ∈ TB := mT4 223 rfl rfl
theorem lkX11_264 : Cond.methodLink RX11 264 yX9_weightOfPrint ∈ TB := mT4 231 rfl rfl
theorem kcX11_268 : Cond.constantLong RX11 268 100 ∈ TB := mT4 235 rfl rfl
theorem lkX11_270 : Cond.methodLink RX11 270 yX9_fittingLaws ∈ TB := mT5 0 rfl rfl
theorem lkX11_273 : Cond.methodLink RX11 273 yJ13_bitCount_95d88 ∈ TB := mT5 19 rfl rfl
theorem lkX11_279 : Cond.methodLink RX11 279 yX9_verdictsByLaws ∈ TB := mT5 29 rfl rfl
theorem lkX11_282 : Cond.methodLink RX11 282 yX9_paperToTry ∈ TB := mT5 42 rfl rfl
theorem lkX11_285 : Cond.methodLink RX11 285 yX9_fewestLeft ∈ TB := mT5 61 rfl rfl
theorem lkX11_288 : Cond.methodLink RX11 288 yX0_goodBehind ∈ TB := mT5 73 rfl rfl
theorem lkX11_291 : Cond.methodLink RX11 291 yX0_monthsToSettle ∈ TB := mT5 95 rfl rfl
theorem lkX11_294 : Cond.methodLink RX11 294 yX0_unchangedSets ∈ TB := mT5 103 rfl rfl
theorem lkX11_297 : Cond.methodLink RX11 297 yX2_gain ∈ TB := mT5 111 rfl rfl
theorem lkX11_300 : Cond.methodLink RX11 300 yX11_troubleOfGame ∈ TB := mT5 121 rfl rfl
theorem lkX11_303 : Cond.methodLink RX11 303 yX2_leastOfMost ∈ TB := mT5 125 rfl rfl
theorem lkX11_306 : Cond.methodLink RX11 306 yX2_mostOfLeast ∈ TB := mT5 140 rfl rfl
theorem lkX11_309 : Cond.methodLink RX11 309 yX2_stampOfClerk ∈ TB := mT5 152 rfl rfl
theorem lkX11_312 : Cond.methodLink RX11 312 yX2_evenPairs ∈ TB := mT5 161 rfl rfl
theorem lkX11_315 : Cond.methodLink RX11 315 yX5_hundredths ∈ TB := mT5 169 rfl rfl
theorem lkX11_318 : Cond.methodLink RX11 318 yX5_worthOfYes ∈ TB := mT5 174 rfl rfl
theorem lkX11_322 : Cond.methodLink RX11 322 yX11_troubleOfDraws ∈ TB := mT5 184 rfl rfl
theorem lkX11_326 : Cond.methodLink RX11 326 yX1_run ∈ TB := mT5 189 rfl rfl
theorem flX11_330 : fLk RX11 330 1 1 := ⟨RX1, TX1, 5, rfl, by decide, Or.inl (mT2 210 rfl rfl)⟩
theorem flX11_333 : fLk RX11 333 1 3 := ⟨RX1, TX1, 5, rfl, by decide, Or.inl (mT2 214 rfl rfl)⟩
theorem flX11_336 : fLk RX11 336 1 2 := ⟨RX1, TX1, 5, rfl, by decide, Or.inl (mT2 212 rfl rfl)⟩
theorem lkX11_339 : Cond.methodLink RX11 339 yX6_remember ∈ TB := mT5 216 rfl rfl
theorem lkX11_343 : Cond.methodLink RX11 343 yX4_pressOnce ∈ TB := mT5 224 rfl rfl
theorem lkX11_347 : Cond.methodLink RX11 347 yX11_deny ∈ TB := mT5 232 rfl rfl
theorem lkX11_350 : Cond.methodLink RX11 350 yX4_setVerdict ∈ TB := mT5 236 rfl rfl
theorem lkX11_353 : Cond.methodLink RX11 353 yX11_allow ∈ TB := mT5 237 rfl rfl
theorem lkX11_356 : Cond.methodLink RX11 356 yX5_hasMark ∈ TB := mT6 5 rfl rfl
theorem lkX11_359 : Cond.methodLink RX11 359 yX11_hasBit ∈ TB := mT6 9 rfl rfl
theorem lkX11_363 : Cond.methodLink RX11 363 yX4_setMarks ∈ TB := mT6 10 rfl rfl
theorem lkX11_366 : Cond.methodLink RX11 366 yX4_setInk ∈ TB := mT6 15 rfl rfl
theorem flX11_369 : fLk RX11 369 6 3 := ⟨RX6, TX6, 5, rfl, by decide, Or.inl (mT2 124 rfl rfl)⟩
theorem lkX11_372 : Cond.methodLink RX11 372 yX6_takeBack ∈ TB := mT6 20 rfl rfl
theorem lkX11_375 : Cond.methodLink RX11 375 yX6_hasRoomForImage ∈ TB := mT6 29 rfl rfl
theorem lkX11_378 : Cond.methodLink RX11 378 yX6_keepImage ∈ TB := mT6 33 rfl rfl
theorem flX11_382 : fLk RX11 382 6 4 := ⟨RX6, TX6, 5, rfl, by decide, Or.inl (mT2 126 rfl rfl)⟩
theorem lkX11_385 : Cond.methodLink RX11 385 yX6_returnTo ∈ TB := mT6 41 rfl rfl
theorem flX11_396 : fLk RX11 396 7 12 := ⟨RX7, TX7, 20, rfl, by decide, Or.inl (mT1 142 rfl rfl)⟩
theorem flX11_399 : fLk RX11 399 7 13 := ⟨RX7, TX7, 20, rfl, by decide, Or.inl (mT1 147 rfl rfl)⟩
theorem flX11_402 : fLk RX11 402 7 15 := ⟨RX7, TX7, 20, rfl, by decide, Or.inl (mT1 164 rfl rfl)⟩
theorem flX11_405 : fLk RX11 405 7 16 := ⟨RX7, TX7, 20, rfl, by decide, Or.inl (mT1 168 rfl rfl)⟩
theorem flX11_408 : fLk RX11 408 7 17 := ⟨RX7, TX7, 20, rfl, by decide, Or.inl (mT1 174 rfl rfl)⟩
theorem flX11_411 : fLk RX11 411 7 18 := ⟨RX7, TX7, 20, rfl, by decide, Or.inl (mT1 177 rfl rfl)⟩
theorem flX11_414 : fLk RX11 414 7 19 := ⟨RX7, TX7, 20, rfl, by decide, Or.inl (mT1 181 rfl rfl)⟩
theorem lkX11_417 : Cond.methodLink RX11 417 yX4_pressesSoFar ∈ TB := mT6 49 rfl rfl
theorem lkX11_420 : Cond.methodLink RX11 420 yX11_commonDivisor ∈ TB := mT4 216 rfl rfl
theorem kcX11_424 : Cond.constant RX11 424 65536 ∈ TB := mT5 188 rfl rfl
theorem flX11_425 : fLk RX11 425 8 9 := ⟨RX8, TX8, 14, rfl, by decide, Or.inl (mT2 49 rfl rfl)⟩
theorem fpX11_425 {M : MD} (h : M.1.cls = RX11) : fPk M 425 8 9 := ⟨RX8, TX8, 14, rfl, by decide, Or.inl ⟨by rw [h]; exact mT2 49 rfl rfl, rfl⟩⟩
theorem fpX11_118 {M : MD} (h : M.1.cls = RX11) : fPk M 118 5 1 := ⟨RX5, TX5, 2, rfl, by decide, Or.inl ⟨by rw [h]; exact mT2 106 rfl rfl, rfl⟩⟩
theorem flX11_426 : fLk RX11 426 8 5 := ⟨RX8, TX8, 14, rfl, by decide, Or.inl (mT2 44 rfl rfl)⟩
theorem flX11_429 : fLk RX11 429 4 0 := ⟨RX4, TX4, 1, rfl, by decide, Or.inl (mT1 80 rfl rfl)⟩
theorem lkX11_432 : Cond.methodLink RX11 432 yX4_copyFrom ∈ TB := mT3 179 rfl rfl
theorem lkX11_436 : Cond.methodLink RX11 436 yX6_forget ∈ TB := mT3 183 rfl rfl
theorem oiX12_3 : Cond.methodLink RX12 3 objectInit ∈ TB := mT7 9 rfl rfl
theorem flX12_9 : fLk RX12 9 12 0 := ⟨RX12, TX12, 27, rfl, by decide, Or.inl (mT7 10 rfl rfl)⟩
theorem fpX12_9 {M : MD} (h : M.1.cls = RX12) : fPk M 9 12 0 := ⟨RX12, TX12, 27, rfl, by decide, Or.inl ⟨by rw [h]; exact mT7 10 rfl rfl, rfl⟩⟩
theorem flX12_15 : fLk RX12 15 12 9 := ⟨RX12, TX12, 27, rfl, by decide, Or.inl (mT7 21 rfl rfl)⟩
theorem fqX12_15 {M : MD} (h : M.1.cls = RX12) (hn : M.1.name = "<init>") : fPk M 15 12 9 := ⟨RX12, TX12, 27, rfl, by decide, Or.inr (Or.inr ⟨by rw [h]; exact mT7 21 rfl rfl, rfl, hn, by rw [h]; rfl⟩)⟩
theorem flX12_19 : fLk RX12 19 12 10 := ⟨RX12, TX12, 27, rfl, by decide, Or.inl (mT7 23 rfl rfl)⟩
theorem fqX12_19 {M : MD} (h : M.1.cls = RX12) (hn : M.1.name = "<init>") : fPk M 19 12 10 := ⟨RX12, TX12, 27, rfl, by decide, Or.inr (Or.inr ⟨by rw [h]; exact mT7 23 rfl rfl, rfl, hn, by rw [h]; rfl⟩)⟩
theorem flX12_22 : fLk RX12 22 12 11 := ⟨RX12, TX12, 27, rfl, by decide, Or.inl (mT7 25 rfl rfl)⟩
theorem fqX12_22 {M : MD} (h : M.1.cls = RX12) (hn : M.1.name = "<init>") : fPk M 22 12 11 := ⟨RX12, TX12, 27, rfl, by decide, Or.inr (Or.inr ⟨by rw [h]; exact mT7 25 rfl rfl, rfl, hn, by rw [h]; rfl⟩)⟩
theorem flX12_25 : fLk RX12 25 12 12 := ⟨RX12, TX12, 27, rfl, by decide, Or.inl (mT7 27 rfl rfl)⟩
theorem fqX12_25 {M : MD} (h : M.1.cls = RX12) (hn : M.1.name = "<init>") : fPk M 25 12 12 := ⟨RX12, TX12, 27, rfl, by decide, Or.inr (Or.inr ⟨by rw [h]; exact mT7 27 rfl rfl, rfl, hn, by rw [h]; rfl⟩)⟩
theorem flX12_28 : fLk RX12 28 12 13 := ⟨RX12, TX12, 27, rfl, by decide, Or.inl (mT7 29 rfl rfl)⟩
theorem fqX12_28 {M : MD} (h : M.1.cls = RX12) (hn : M.1.name = "<init>") : fPk M 28 12 13 := ⟨RX12, TX12, 27, rfl, by decide, Or.inr (Or.inr ⟨by rw [h]; exact mT7 29 rfl rfl, rfl, hn, by rw [h]; rfl⟩)⟩
theorem flX12_31 : fLk RX12 31 12 14 := ⟨RX12, TX12, 27, rfl, by decide, Or.inl (mT7 31 rfl rfl)⟩
theorem fqX12_31 {M : MD} (h : M.1.cls = RX12) (hn : M.1.name = "<init>") : fPk M 31 12 14 := ⟨RX12, TX12, 27, rfl, by decide, Or.inr (Or.inr ⟨by rw [h]; exact mT7 31 rfl rfl, rfl, hn, by rw [h]; rfl⟩)⟩
theorem flX12_34 : fLk RX12 34 12 15 := ⟨RX12, TX12, 27, rfl, by decide, Or.inl (mT7 33 rfl rfl)⟩
theorem fqX12_34 {M : MD} (h : M.1.cls = RX12) (hn : M.1.name = "<init>") : fPk M 34 12 15 := ⟨RX12, TX12, 27, rfl, by decide, Or.inr (Or.inr ⟨by rw [h]; exact mT7 33 rfl rfl, rfl, hn, by rw [h]; rfl⟩)⟩
theorem flX12_37 : fLk RX12 37 12 16 := ⟨RX12, TX12, 27, rfl, by decide, Or.inl (mT7 35 rfl rfl)⟩
theorem fqX12_37 {M : MD} (h : M.1.cls = RX12) (hn : M.1.name = "<init>") : fPk M 37 12 16 := ⟨RX12, TX12, 27, rfl, by decide, Or.inr (Or.inr ⟨by rw [h]; exact mT7 35 rfl rfl, rfl, hn, by rw [h]; rfl⟩)⟩
theorem flX12_40 : fLk RX12 40 12 17 := ⟨RX12, TX12, 27, rfl, by decide, Or.inl (mT7 37 rfl rfl)⟩
theorem fqX12_40 {M : MD} (h : M.1.cls = RX12) (hn : M.1.name = "<init>") : fPk M 40 12 17 := ⟨RX12, TX12, 27, rfl, by decide, Or.inr (Or.inr ⟨by rw [h]; exact mT7 37 rfl rfl, rfl, hn, by rw [h]; rfl⟩)⟩
theorem flX12_43 : fLk RX12 43 12 18 := ⟨RX12, TX12, 27, rfl, by decide, Or.inl (mT7 39 rfl rfl)⟩
theorem fqX12_43 {M : MD} (h : M.1.cls = RX12) (hn : M.1.name = "<init>") : fPk M 43 12 18 := ⟨RX12, TX12, 27, rfl, by decide, Or.inr (Or.inr ⟨by rw [h]; exact mT7 39 rfl rfl, rfl, hn, by rw [h]; rfl⟩)⟩
theorem flX12_46 : fLk RX12 46 12 19 := ⟨RX12, TX12, 27, rfl, by decide, Or.inl (mT7 41 rfl rfl)⟩
theorem fqX12_46 {M : MD} (h : M.1.cls = RX12) (hn : M.1.name = "<init>") : fPk M 46 12 19 := ⟨RX12, TX12, 27, rfl, by decide, Or.inr (Or.inr ⟨by rw [h]; exact mT7 41 rfl rfl, rfl, hn, by rw [h]; rfl⟩)⟩
theorem flX12_49 : fLk RX12 49 12 20 := ⟨RX12, TX12, 27, rfl, by decide, Or.inl (mT7 43 rfl rfl)⟩
theorem fqX12_49 {M : MD} (h : M.1.cls = RX12) (hn : M.1.name = "<init>") : fPk M 49 12 20 := ⟨RX12, TX12, 27, rfl, by decide, Or.inr (Or.inr ⟨by rw [h]; exact mT7 43 rfl rfl, rfl, hn, by rw [h]; rfl⟩)⟩
theorem flX12_52 : fLk RX12 52 12 21 := ⟨RX12, TX12, 27, rfl, by decide, Or.inl (mT7 45 rfl rfl)⟩
theorem fqX12_52 {M : MD} (h : M.1.cls = RX12) (hn : M.1.name = "<init>") : fPk M 52 12 21 := ⟨RX12, TX12, 27, rfl, by decide, Or.inr (Or.inr ⟨by rw [h]; exact mT7 45 rfl rfl, rfl, hn, by rw [h]; rfl⟩)⟩
theorem flX12_55 : fLk RX12 55 12 22 := ⟨RX12, TX12, 27, rfl, by decide, Or.inl (mT7 47 rfl rfl)⟩
theorem fqX12_55 {M : MD} (h : M.1.cls = RX12) (hn : M.1.name = "<init>") : fPk M 55 12 22 := ⟨RX12, TX12, 27, rfl, by decide, Or.inr (Or.inr ⟨by rw [h]; exact mT7 47 rfl rfl, rfl, hn, by rw [h]; rfl⟩)⟩
theorem flX12_58 : fLk RX12 58 12 23 := ⟨RX12, TX12, 27, rfl, by decide, Or.inl (mT7 49 rfl rfl)⟩
theorem fqX12_58 {M : MD} (h : M.1.cls = RX12) (hn : M.1.name = "<init>") : fPk M 58 12 23 := ⟨RX12, TX12, 27, rfl, by decide, Or.inr (Or.inr ⟨by rw [h]; exact mT7 49 rfl rfl, rfl, hn, by rw [h]; rfl⟩)⟩
theorem flX12_61 : fLk RX12 61 12 24 := ⟨RX12, TX12, 27, rfl, by decide, Or.inl (mT7 51 rfl rfl)⟩
theorem fqX12_61 {M : MD} (h : M.1.cls = RX12) (hn : M.1.name = "<init>") : fPk M 61 12 24 := ⟨RX12, TX12, 27, rfl, by decide, Or.inr (Or.inr ⟨by rw [h]; exact mT7 51 rfl rfl, rfl, hn, by rw [h]; rfl⟩)⟩
theorem flX12_65 : fLk RX12 65 12 25 := ⟨RX12, TX12, 27, rfl, by decide, Or.inl (mT7 53 rfl rfl)⟩
theorem fqX12_65 {M : MD} (h : M.1.cls = RX12) (hn : M.1.name = "<init>") : fPk M 65 12 25 := ⟨RX12, TX12, 27, rfl, by decide, Or.inr (Or.inr ⟨by rw [h]; exact mT7 53 rfl rfl, rfl, hn, by rw [h]; rfl⟩)⟩
theorem flX12_68 : fLk RX12 68 12 26 := ⟨RX12, TX12, 27, rfl, by decide, Or.inl (mT7 55 rfl rfl)⟩
theorem fqX12_68 {M : MD} (h : M.1.cls = RX12) (hn : M.1.name = "<init>") : fPk M 68 12 26 := ⟨RX12, TX12, 27, rfl, by decide, Or.inr (Or.inr ⟨by rw [h]; exact mT7 55 rfl rfl, rfl, hn, by rw [h]; rfl⟩)⟩
theorem flX12_71 : fLk RX12 71 12 8 := ⟨RX12, TX12, 27, rfl, by decide, Or.inl (mT7 19 rfl rfl)⟩
theorem oiX13_3 : Cond.methodLink RX13 3 objectInit ∈ TB := mT6 136 rfl rfl
theorem flX13_9 : fLk RX13 9 13 2 := ⟨RX13, TX13, 30, rfl, by decide, Or.inl (mT6 139 rfl rfl)⟩
theorem fpX13_9 {M : MD} (h : M.1.cls = RX13) : fPk M 9 13 2 := ⟨RX13, TX13, 30, rfl, by decide, Or.inl ⟨by rw [h]; exact mT6 139 rfl rfl, rfl⟩⟩
theorem flX13_13 : fLk RX13 13 13 5 := ⟨RX13, TX13, 30, rfl, by decide, Or.inl (mT6 142 rfl rfl)⟩
theorem fqX13_13 {M : MD} (h : M.1.cls = RX13) (hn : M.1.name = "<init>") : fPk M 13 13 5 := ⟨RX13, TX13, 30, rfl, by decide, Or.inr (Or.inr ⟨by rw [h]; exact mT6 142 rfl rfl, rfl, hn, by rw [h]; rfl⟩)⟩
theorem flX13_17 : fLk RX13 17 13 15 := ⟨RX13, TX13, 30, rfl, by decide, Or.inl (mT6 152 rfl rfl)⟩
theorem fqX13_17 {M : MD} (h : M.1.cls = RX13) (hn : M.1.name = "<init>") : fPk M 17 13 15 := ⟨RX13, TX13, 30, rfl, by decide, Or.inr (Or.inr ⟨by rw [h]; exact mT6 152 rfl rfl, rfl, hn, by rw [h]; rfl⟩)⟩
theorem flX13_21 : fLk RX13 21 13 16 := ⟨RX13, TX13, 30, rfl, by decide, Or.inl (mT6 153 rfl rfl)⟩
theorem fqX13_21 {M : MD} (h : M.1.cls = RX13) (hn : M.1.name = "<init>") : fPk M 21 13 16 := ⟨RX13, TX13, 30, rfl, by decide, Or.inr (Or.inr ⟨by rw [h]; exact mT6 153 rfl rfl, rfl, hn, by rw [h]; rfl⟩)⟩
theorem flX13_24 : fLk RX13 24 13 17 := ⟨RX13, TX13, 30, rfl, by decide, Or.inl (mT6 154 rfl rfl)⟩
theorem fqX13_24 {M : MD} (h : M.1.cls = RX13) (hn : M.1.name = "<init>") : fPk M 24 13 17 := ⟨RX13, TX13, 30, rfl, by decide, Or.inr (Or.inr ⟨by rw [h]; exact mT6 154 rfl rfl, rfl, hn, by rw [h]; rfl⟩)⟩
theorem flX13_27 : fLk RX13 27 13 20 := ⟨RX13, TX13, 30, rfl, by decide, Or.inl (mT6 157 rfl rfl)⟩
theorem fqX13_27 {M : MD} (h : M.1.cls = RX13) (hn : M.1.name = "<init>") : fPk M 27 13 20 := ⟨RX13, TX13, 30, rfl, by decide, Or.inr (Or.inr ⟨by rw [h]; exact mT6 157 rfl rfl, rfl, hn, by rw [h]; rfl⟩)⟩
theorem flX13_30 : fLk RX13 30 13 21 := ⟨RX13, TX13, 30, rfl, by decide, Or.inl (mT6 158 rfl rfl)⟩
theorem fqX13_30 {M : MD} (h : M.1.cls = RX13) (hn : M.1.name = "<init>") : fPk M 30 13 21 := ⟨RX13, TX13, 30, rfl, by decide, Or.inr (Or.inr ⟨by rw [h]; exact mT6 158 rfl rfl, rfl, hn, by rw [h]; rfl⟩)⟩
theorem flX13_33 : fLk RX13 33 13 22 := ⟨RX13, TX13, 30, rfl, by decide, Or.inl (mT6 159 rfl rfl)⟩
theorem fqX13_33 {M : MD} (h : M.1.cls = RX13) (hn : M.1.name = "<init>") : fPk M 33 13 22 := ⟨RX13, TX13, 30, rfl, by decide, Or.inr (Or.inr ⟨by rw [h]; exact mT6 159 rfl rfl, rfl, hn, by rw [h]; rfl⟩)⟩
theorem flX13_36 : fLk RX13 36 13 23 := ⟨RX13, TX13, 30, rfl, by decide, Or.inl (mT6 160 rfl rfl)⟩
theorem fqX13_36 {M : MD} (h : M.1.cls = RX13) (hn : M.1.name = "<init>") : fPk M 36 13 23 := ⟨RX13, TX13, 30, rfl, by decide, Or.inr (Or.inr ⟨by rw [h]; exact mT6 160 rfl rfl, rfl, hn, by rw [h]; rfl⟩)⟩
theorem flX13_39 : fLk RX13 39 13 24 := ⟨RX13, TX13, 30, rfl, by decide, Or.inl (mT6 161 rfl rfl)⟩
theorem fqX13_39 {M : MD} (h : M.1.cls = RX13) (hn : M.1.name = "<init>") : fPk M 39 13 24 := ⟨RX13, TX13, 30, rfl, by decide, Or.inr (Or.inr ⟨by rw [h]; exact mT6 161 rfl rfl, rfl, hn, by rw [h]; rfl⟩)⟩
theorem flX13_42 : fLk RX13 42 13 28 := ⟨RX13, TX13, 30, rfl, by decide, Or.inl (mT6 165 rfl rfl)⟩
theorem fqX13_42 {M : MD} (h : M.1.cls = RX13) (hn : M.1.name = "<init>") : fPk M 42 13 28 := ⟨RX13, TX13, 30, rfl, by decide, Or.inr (Or.inr ⟨by rw [h]; exact mT6 165 rfl rfl, rfl, hn, by rw [h]; rfl⟩)⟩
theorem flX13_45 : fLk RX13 45 13 29 := ⟨RX13, TX13, 30, rfl, by decide, Or.inl (mT6 166 rfl rfl)⟩
theorem fqX13_45 {M : MD} (h : M.1.cls = RX13) (hn : M.1.name = "<init>") : fPk M 45 13 29 := ⟨RX13, TX13, 30, rfl, by decide, Or.inr (Or.inr ⟨by rw [h]; exact mT6 166 rfl rfl, rfl, hn, by rw [h]; rfl⟩)⟩
theorem flX13_48 : fLk RX13 48 13 0 := ⟨RX13, TX13, 30, rfl, by decide, Or.inl (mT6 137 rfl rfl)⟩
theorem flX13_51 : fLk RX13 51 13 1 := ⟨RX13, TX13, 30, rfl, by decide, Or.inl (mT6 138 rfl rfl)⟩
theorem fpX13_51 {M : MD} (h : M.1.cls = RX13) : fPk M 51 13 1 := ⟨RX13, TX13, 30, rfl, by decide, Or.inl ⟨by rw [h]; exact mT6 138 rfl rfl, rfl⟩⟩
theorem lkX13_54 : Cond.methodLink RX13 54 yX13_refused ∈ TB := mT7 0 rfl rfl
theorem lkX13_58 : Cond.methodLink RX13 58 yX13_good1 ∈ TB := mT8 19 rfl rfl
theorem lkX13_61 : Cond.methodLink RX13 61 yX13_common ∈ TB := mT8 197 rfl rfl
theorem flX13_65 : fLk RX13 65 13 7 := ⟨RX13, TX13, 30, rfl, by decide, Or.inl (mT6 144 rfl rfl)⟩
theorem lkX13_68 : Cond.methodLink RX13 68 yJ0_length_8abf5 ∈ TB := mT7 143 rfl rfl
theorem kcX13_74 : Cond.constantLong RX13 74 32 ∈ TB := mT7 123 rfl rfl
theorem lkX13_76 : Cond.methodLink RX13 76 yJ0_charAt_5068e ∈ TB := mT7 144 rfl rfl
theorem flX13_80 : fLk RX13 80 13 9 := ⟨RX13, TX13, 30, rfl, by decide, Or.inl (mT6 146 rfl rfl)⟩
theorem flX13_83 : fLk RX13 83 13 8 := ⟨RX13, TX13, 30, rfl, by decide, Or.inl (mT6 145 rfl rfl)⟩
theorem lkX13_86 : Cond.methodLink RX13 86 yX13_byteAt ∈ TB := mT7 116 rfl rfl
theorem fpX13_83 {M : MD} (h : M.1.cls = RX13) : fPk M 83 13 8 := ⟨RX13, TX13, 30, rfl, by decide, Or.inl ⟨by rw [h]; exact mT6 145 rfl rfl, rfl⟩⟩
theorem flX13_89 : fLk RX13 89 13 10 := ⟨RX13, TX13, 30, rfl, by decide, Or.inl (mT6 147 rfl rfl)⟩
theorem fpX13_89 {M : MD} (h : M.1.cls = RX13) : fPk M 89 13 10 := ⟨RX13, TX13, 30, rfl, by decide, Or.inl ⟨by rw [h]; exact mT6 147 rfl rfl, rfl⟩⟩
theorem fpX13_80 {M : MD} (h : M.1.cls = RX13) : fPk M 80 13 9 := ⟨RX13, TX13, 30, rfl, by decide, Or.inl ⟨by rw [h]; exact mT6 146 rfl rfl, rfl⟩⟩
theorem lkX13_92 : Cond.methodLink RX13 92 yX13_isLetter ∈ TB := mT7 120 rfl rfl
theorem flX13_96 : fLk RX13 96 13 14 := ⟨RX13, TX13, 30, rfl, by decide, Or.inl (mT6 151 rfl rfl)⟩
theorem fpX13_96 {M : MD} (h : M.1.cls = RX13) : fPk M 96 13 14 := ⟨RX13, TX13, 30, rfl, by decide, Or.inl ⟨by rw [h]; exact mT6 151 rfl rfl, rfl⟩⟩
theorem lkX13_100 : Cond.methodLink RX13 100 yX13_isDigit ∈ TB := mT7 124 rfl rfl
theorem flX13_103 : fLk RX13 103 13 11 := ⟨RX13, TX13, 30, rfl, by decide, Or.inl (mT6 148 rfl rfl)⟩
theorem fpX13_103 {M : MD} (h : M.1.cls = RX13) : fPk M 103 13 11 := ⟨RX13, TX13, 30, rfl, by decide, Or.inl ⟨by rw [h]; exact mT6 148 rfl rfl, rfl⟩⟩
theorem flX13_106 : fLk RX13 106 13 12 := ⟨RX13, TX13, 30, rfl, by decide, Or.inl (mT6 149 rfl rfl)⟩
theorem fpX13_106 {M : MD} (h : M.1.cls = RX13) : fPk M 106 13 12 := ⟨RX13, TX13, 30, rfl, by decide, Or.inl ⟨by rw [h]; exact mT6 149 rfl rfl, rfl⟩⟩
theorem flX13_109 : fLk RX13 109 13 13 := ⟨RX13, TX13, 30, rfl, by decide, Or.inl (mT6 150 rfl rfl)⟩
theorem fpX13_109 {M : MD} (h : M.1.cls = RX13) : fPk M 109 13 13 := ⟨RX13, TX13, 30, rfl, by decide, Or.inl ⟨by rw [h]; exact mT6 150 rfl rfl, rfl⟩⟩
theorem lkX13_112 : Cond.methodLink RX13 112 yX13_packed ∈ TB := mT7 140 rfl rfl
theorem lkX13_116 : Cond.methodLink RX13 116 yX13_goesOn ∈ TB := mT7 112 rfl rfl
theorem lkX13_119 : Cond.methodLink RX13 119 yX13_isWord ∈ TB := mT7 136 rfl rfl
theorem lkX13_123 : Cond.methodLink RX13 123 yX13_flaw ∈ TB := mT7 149 rfl rfl
theorem lkX13_127 : Cond.methodLink RX13 127 yX13_in ∈ TB := mT7 166 rfl rfl
theorem lkX13_131 : Cond.methodLink RX13 131 yX13_needs ∈ TB := mT7 158 rfl rfl
theorem lkX13_135 : Cond.methodLink RX13 135 yX13_readWhole ∈ TB := mT7 162 rfl rfl
theorem flX13_157 : fLk RX13 157 13 4 := ⟨RX13, TX13, 30, rfl, by decide, Or.inl (mT6 141 rfl rfl)⟩
theorem flX13_161 : fLk RX13 161 12 0 := ⟨RX12, TX12, 27, rfl, by decide, Or.inr ⟨"StampViewsModel", mNw 18 (by decide +kernel)⟩⟩
theorem lkX13_166 : Cond.methodLink RX13 166 yX13_isName ∈ TB := mT7 182 rfl rfl
theorem lkX13_170 : Cond.methodLink RX13 170 yX12_find ∈ TB := mT7 193 rfl rfl
theorem flX13_174 : fLk RX13 174 12 24 := ⟨RX12, TX12, 27, rfl, by decide, Or.inr ⟨"StampViewsModel", mNw 42 (by decide +kernel)⟩⟩
theorem flX13_178 : fLk RX13 178 12 8 := ⟨RX12, TX12, 27, rfl, by decide, Or.inr ⟨"StampViewsModel", mNw 26 (by decide +kernel)⟩⟩
theorem flX13_181 : fLk RX13 181 12 25 := ⟨RX12, TX12, 27, rfl, by decide, Or.inr ⟨"StampViewsModel", mNw 43 (by decide +kernel)⟩⟩
theorem flX13_184 : fLk RX13 184 12 26 := ⟨RX12, TX12, 27, rfl, by decide, Or.inr ⟨"StampViewsModel", mNw 44 (by decide +kernel)⟩⟩
theorem fpX13_178 {M : MD} (h : M.1.cls = RX13) : fPk M 178 12 8 := ⟨RX12, TX12, 27, rfl, by decide, Or.inr (Or.inl ⟨"StampViewsModel", by rw [h]; exact mNw 26 (by decide +kernel), rfl⟩)⟩
theorem lkX13_187 : Cond.methodLink RX13 187 yX13_knownOne ∈ TB := mT7 214 rfl rfl
theorem lkX13_196 : Cond.methodLink RX13 196 yX13_eats ∈ TB := mT7 210 rfl rfl
theorem lkX13_199 : Cond.methodLink RX13 199 yX13_bit ∈ TB := mT7 218 rfl rfl
theorem lkX13_203 : Cond.methodLink RX13 203 yX13_readLine ∈ TB := mT7 131 rfl rfl
theorem flX13_206 : fLk RX13 206 12 2 := ⟨RX12, TX12, 27, rfl, by decide, Or.inr ⟨"StampViewsModel", mNw 20 (by decide +kernel)⟩⟩
theorem lkX13_209 : Cond.methodLink RX13 209 yX13_readOffice ∈ TB := mT7 145 rfl rfl
theorem lkX13_212 : Cond.methodLink RX13 212 yX13_readMark ∈ TB := mT7 170 rfl rfl
theorem lkX13_215 : Cond.methodLink RX13 215 yX13_readPaper ∈ TB := mT7 201 rfl rfl
theorem lkX13_218 : Cond.methodLink RX13 218 yX13_readStamp ∈ TB := mT7 221 rfl rfl
theorem lkX13_221 : Cond.methodLink RX13 221 yX13_readRule ∈ TB := mT7 234 rfl rfl
theorem lkX13_224 : Cond.methodLink RX13 224 yX13_readHand ∈ TB := mT8 2 rfl rfl
theorem lkX13_227 : Cond.methodLink RX13 227 yX13_readWant ∈ TB := mT8 11 rfl rfl
theorem lkX13_230 : Cond.methodLink RX13 230 yX13_readPrint ∈ TB := mT8 15 rfl rfl
theorem lkX13_234 : Cond.methodLink RX13 234 yX13_readPart ∈ TB := mT7 154 rfl rfl
theorem fpX13_161 {M : MD} (h : M.1.cls = RX13) : fPk M 161 12 0 := ⟨RX12, TX12, 27, rfl, by decide, Or.inr (Or.inl ⟨"StampViewsModel", by rw [h]; exact mNw 18 (by decide +kernel), rfl⟩)⟩
theorem flX13_238 : fLk RX13 238 12 1 := ⟨RX12, TX12, 27, rfl, by decide, Or.inr ⟨"StampViewsModel", mNw 19 (by decide +kernel)⟩⟩
theorem lkX13_241 : Cond.methodLink RX13 241 yX13_lineBegins ∈ TB := mT7 174 rfl rfl
theorem lkX13_245 : Cond.methodLink RX13 245 yX13_readFresh ∈ TB := mT7 178 rfl rfl
theorem lkX13_249 : Cond.methodLink RX13 249 yX13_names ∈ TB := mT7 197 rfl rfl
theorem fpX13_238 {M : MD} (h : M.1.cls = RX13) : fPk M 238 12 1 := ⟨RX12, TX12, 27, rfl, by decide, Or.inr (Or.inl ⟨"StampViewsModel", by rw [h]; exact mNw 19 (by decide +kernel), rfl⟩)⟩
theorem lkX13_254 : Cond.methodLink RX13 254 yX13_readMarks ∈ TB := mT7 206 rfl rfl
theorem flX13_257 : fLk RX13 257 12 9 := ⟨RX12, TX12, 27, rfl, by decide, Or.inr ⟨"StampViewsModel", mNw 27 (by decide +kernel)⟩⟩
theorem flX13_259 : fLk RX13 259 12 10 := ⟨RX12, TX12, 27, rfl, by decide, Or.inr ⟨"StampViewsModel", mNw 28 (by decide +kernel)⟩⟩
theorem fpX13_206 {M : MD} (h : M.1.cls = RX13) : fPk M 206 12 2 := ⟨RX12, TX12, 27, rfl, by decide, Or.inr (Or.inl ⟨"StampViewsModel", by rw [h]; exact mNw 20 (by decide +kernel), rfl⟩)⟩
theorem flX13_262 : fLk RX13 262 12 3 := ⟨RX12, TX12, 27, rfl, by decide, Or.inr ⟨"StampViewsModel", mNw 21 (by decide +kernel)⟩⟩
theorem lkX13_269 : Cond.methodLink RX13 269 yX13_readVerdict ∈ TB := mT7 227 rfl rfl
theorem flX13_272 : fLk RX13 272 12 12 := ⟨RX12, TX12, 27, rfl, by decide, Or.inr ⟨"StampViewsModel", mNw 30 (by decide +kernel)⟩⟩
theorem flX13_274 : fLk RX13 274 12 13 := ⟨RX12, TX12, 27, rfl, by decide, Or.inr ⟨"StampViewsModel", mNw 31 (by decide +kernel)⟩⟩
theorem flX13_277 : fLk RX13 277 12 14 := ⟨RX12, TX12, 27, rfl, by decide, Or.inr ⟨"StampViewsModel", mNw 32 (by decide +kernel)⟩⟩
theorem fpX13_262 {M : MD} (h : M.1.cls = RX13) : fPk M 262 12 3 := ⟨RX12, TX12, 27, rfl, by decide, Or.inr (Or.inl ⟨"StampViewsModel", by rw [h]; exact mNw 21 (by decide +kernel), rfl⟩)⟩
theorem flX13_280 : fLk RX13 280 12 4 := ⟨RX12, TX12, 27, rfl, by decide, Or.inr ⟨"StampViewsModel", mNw 22 (by decide +kernel)⟩⟩
theorem lkX13_283 : Cond.methodLink RX13 283 yX13_readKnown ∈ TB := mT7 238 rfl rfl
theorem flX13_286 : fLk RX13 286 12 15 := ⟨RX12, TX12, 27, rfl, by decide, Or.inr ⟨"StampViewsModel", mNw 33 (by decide +kernel)⟩⟩
theorem flX13_289 : fLk RX13 289 12 16 := ⟨RX12, TX12, 27, rfl, by decide, Or.inr ⟨"StampViewsModel", mNw 34 (by decide +kernel)⟩⟩
theorem flX13_292 : fLk RX13 292 12 17 := ⟨RX12, TX12, 27, rfl, by decide, Or.inr ⟨"StampViewsModel", mNw 35 (by decide +kernel)⟩⟩
theorem flX13_295 : fLk RX13 295 12 18 := ⟨RX12, TX12, 27, rfl, by decide, Or.inr ⟨"StampViewsModel", mNw 36 (by decide +kernel)⟩⟩
theorem fpX13_280 {M : MD} (h : M.1.cls = RX13) : fPk M 280 12 4 := ⟨RX12, TX12, 27, rfl, by decide, Or.inr (Or.inl ⟨"StampViewsModel", by rw [h]; exact mNw 22 (by decide +kernel), rfl⟩)⟩
theorem flX13_298 : fLk RX13 298 12 5 := ⟨RX12, TX12, 27, rfl, by decide, Or.inr ⟨"StampViewsModel", mNw 23 (by decide +kernel)⟩⟩
theorem flX13_311 : fLk RX13 311 12 19 := ⟨RX12, TX12, 27, rfl, by decide, Or.inr ⟨"StampViewsModel", mNw 37 (by decide +kernel)⟩⟩
theorem flX13_313 : fLk RX13 313 12 20 := ⟨RX12, TX12, 27, rfl, by decide, Or.inr ⟨"StampViewsModel", mNw 38 (by decide +kernel)⟩⟩
theorem fpX13_298 {M : MD} (h : M.1.cls = RX13) : fPk M 298 12 5 := ⟨RX12, TX12, 27, rfl, by decide, Or.inr (Or.inl ⟨"StampViewsModel", by rw [h]; exact mNw 23 (by decide +kernel), rfl⟩)⟩
theorem flX13_315 : fLk RX13 315 12 11 := ⟨RX12, TX12, 27, rfl, by decide, Or.inr ⟨"StampViewsModel", mNw 29 (by decide +kernel)⟩⟩
theorem flX13_317 : fLk RX13 317 12 6 := ⟨RX12, TX12, 27, rfl, by decide, Or.inr ⟨"StampViewsModel", mNw 24 (by decide +kernel)⟩⟩
theorem fpX13_317 {M : MD} (h : M.1.cls = RX13) : fPk M 317 12 6 := ⟨RX12, TX12, 27, rfl, by decide, Or.inr (Or.inl ⟨"StampViewsModel", by rw [h]; exact mNw 24 (by decide +kernel), rfl⟩)⟩
theorem flX13_320 : fLk RX13 320 12 7 := ⟨RX12, TX12, 27, rfl, by decide, Or.inr ⟨"StampViewsModel", mNw 25 (by decide +kernel)⟩⟩
theorem flX13_323 : fLk RX13 323 12 21 := ⟨RX12, TX12, 27, rfl, by decide, Or.inr ⟨"StampViewsModel", mNw 39 (by decide +kernel)⟩⟩
theorem flX13_326 : fLk RX13 326 12 22 := ⟨RX12, TX12, 27, rfl, by decide, Or.inr ⟨"StampViewsModel", mNw 40 (by decide +kernel)⟩⟩
theorem flX13_329 : fLk RX13 329 12 23 := ⟨RX12, TX12, 27, rfl, by decide, Or.inr ⟨"StampViewsModel", mNw 41 (by decide +kernel)⟩⟩
theorem fpX13_320 {M : MD} (h : M.1.cls = RX13) : fPk M 320 12 7 := ⟨RX12, TX12, 27, rfl, by decide, Or.inr (Or.inl ⟨"StampViewsModel", by rw [h]; exact mNw 25 (by decide +kernel), rfl⟩)⟩
theorem fpX13_48 {M : MD} (h : M.1.cls = RX13) : fPk M 48 13 0 := ⟨RX13, TX13, 30, rfl, by decide, Or.inl ⟨by rw [h]; exact mT6 137 rfl rfl, rfl⟩⟩
theorem flX13_331 : fLk RX13 331 13 6 := ⟨RX13, TX13, 30, rfl, by decide, Or.inl (mT6 143 rfl rfl)⟩
theorem fpX13_331 {M : MD} (h : M.1.cls = RX13) : fPk M 331 13 6 := ⟨RX13, TX13, 30, rfl, by decide, Or.inl ⟨by rw [h]; exact mT6 143 rfl rfl, rfl⟩⟩
theorem fpX13_65 {M : MD} (h : M.1.cls = RX13) : fPk M 65 13 7 := ⟨RX13, TX13, 30, rfl, by decide, Or.inl ⟨by rw [h]; exact mT6 144 rfl rfl, rfl⟩⟩
theorem nlX13_162 : nLk RX13 162 12 := ⟨RX12, TX12, 27, rfl, mT7 4 rfl rfl, mT7 5 rfl rfl, mT1 18 rfl rfl⟩
theorem lkX13_334 : Cond.methodLink RX13 334 yX12_init ∈ TB := mT7 6 rfl rfl
theorem fpX13_157 {M : MD} (h : M.1.cls = RX13) : fPk M 157 13 4 := ⟨RX13, TX13, 30, rfl, by decide, Or.inl ⟨by rw [h]; exact mT6 141 rfl rfl, rfl⟩⟩
theorem lkX13_335 : Cond.methodLink RX13 335 yX13_readAll ∈ TB := mT7 127 rfl rfl
theorem flX13_338 : fLk RX13 338 13 3 := ⟨RX13, TX13, 30, rfl, by decide, Or.inl (mT6 140 rfl rfl)⟩
theorem fpX13_338 {M : MD} (h : M.1.cls = RX13) : fPk M 338 13 3 := ⟨RX13, TX13, 30, rfl, by decide, Or.inl ⟨by rw [h]; exact mT6 140 rfl rfl, rfl⟩⟩
theorem flX13_340 : fLk RX13 340 13 18 := ⟨RX13, TX13, 30, rfl, by decide, Or.inl (mT6 155 rfl rfl)⟩
theorem fpX13_340 {M : MD} (h : M.1.cls = RX13) : fPk M 340 13 18 := ⟨RX13, TX13, 30, rfl, by decide, Or.inl ⟨by rw [h]; exact mT6 155 rfl rfl, rfl⟩⟩
theorem flX13_343 : fLk RX13 343 13 19 := ⟨RX13, TX13, 30, rfl, by decide, Or.inl (mT6 156 rfl rfl)⟩
theorem fpX13_343 {M : MD} (h : M.1.cls = RX13) : fPk M 343 13 19 := ⟨RX13, TX13, 30, rfl, by decide, Or.inl ⟨by rw [h]; exact mT6 156 rfl rfl, rfl⟩⟩
theorem lkX13_346 : Cond.methodLink RX13 346 yX13_ruleFor ∈ TB := mT8 75 rfl rfl
theorem lkX13_349 : Cond.methodLink RX13 349 yX13_saysBy ∈ TB := mT8 71 rfl rfl
theorem lkX13_352 : Cond.methodLink RX13 352 yX13_printsBy ∈ TB := mT8 95 rfl rfl
theorem lkX13_355 : Cond.methodLink RX13 355 yX13_isPaper ∈ TB := mT8 35 rfl rfl
theorem lkX13_358 : Cond.methodLink RX13 358 yX13_isStamp ∈ TB := mT8 43 rfl rfl
theorem lkX13_361 : Cond.methodLink RX13 361 yX13_isHand ∈ TB := mT8 51 rfl rfl
theorem lkX13_364 : Cond.methodLink RX13 364 yX13_isRule ∈ TB := mT8 59 rfl rfl
theorem lkX13_367 : Cond.methodLink RX13 367 yX13_saysNow ∈ TB := mT8 67 rfl rfl
theorem lkX13_370 : Cond.methodLink RX13 370 yX13_allMarks ∈ TB := mT8 87 rfl rfl
theorem lkX13_373 : Cond.methodLink RX13 373 yX13_isVerdict ∈ TB := mT8 103 rfl rfl
theorem lkX13_376 : Cond.methodLink RX13 376 yX13_pairsMany ∈ TB := mT8 126 rfl rfl
theorem lkX13_379 : Cond.methodLink RX13 379 yX13_canBe ∈ TB := mT8 138 rfl rfl
theorem lkX13_382 : Cond.methodLink RX13 382 yX13_counts ∈ TB := mT8 130 rfl rfl
theorem lkX13_385 : Cond.methodLink RX13 385 yX13_nextPair ∈ TB := mT8 134 rfl rfl
theorem lkX13_388 : Cond.methodLink RX13 388 yX13_wantsFrom ∈ TB := mT8 142 rfl rfl
theorem lkX13_391 : Cond.methodLink RX13 391 yX13_asInk ∈ TB := mT8 118 rfl rfl
theorem lkX13_394 : Cond.methodLink RX13 394 yX13_keeps ∈ TB := mT8 122 rfl rfl
theorem lkX13_397 : Cond.methodLink RX13 397 yX13_allSay ∈ TB := mT8 158 rfl rfl
theorem lkX13_400 : Cond.methodLink RX13 400 yX13_bits ∈ TB := mT8 162 rfl rfl
theorem lkX13_403 : Cond.methodLink RX13 403 yX13_yesSaid ∈ TB := mT8 173 rfl rfl
theorem lkX13_406 : Cond.methodLink RX13 406 yX13_partOf ∈ TB := mT8 185 rfl rfl
theorem lkX13_410 : Cond.methodLink RX13 410 yX13_fitsPrints ∈ TB := mT8 181 rfl rfl
theorem lkX13_414 : Cond.methodLink RX13 414 yX13_fitAll ∈ TB := mT8 189 rfl rfl
theorem lkX13_417 : Cond.methodLink RX13 417 yX13_fraction ∈ TB := mT8 193 rfl rfl
theorem kcX13_421 : Cond.constantLong RX13 421 100 ∈ TB := mT8 208 rfl rfl
theorem lkX13_423 : Cond.methodLink RX13 423 yX13_lawOf ∈ TB := mT8 225 rfl rfl
theorem lkX13_426 : Cond.methodLink RX13 426 yX13_lawsAll ∈ TB := mT8 217 rfl rfl
theorem lkX13_429 : Cond.methodLink RX13 429 yX13_lawFits ∈ TB := mT8 221 rfl rfl
theorem lkX13_432 : Cond.methodLink RX13 432 yX13_lawsFor ∈ TB := mT8 213 rfl rfl
theorem flX13_435 : fLk RX13 435 13 25 := ⟨RX13, TX13, 30, rfl, by decide, Or.inl (mT6 162 rfl rfl)⟩
theorem fpX13_435 {M : MD} (h : M.1.cls = RX13) : fPk M 435 13 25 := ⟨RX13, TX13, 30, rfl, by decide, Or.inl ⟨by rw [h]; exact mT6 162 rfl rfl, rfl⟩⟩
theorem lkX13_438 : Cond.methodLink RX13 438 yX13_tries ∈ TB := mT8 237 rfl rfl
theorem lkX13_441 : Cond.methodLink RX13 441 yX13_allStamps ∈ TB := mT9 13 rfl rfl
theorem lkX13_444 : Cond.methodLink RX13 444 yX13_month ∈ TB := mT9 17 rfl rfl
theorem lkX13_447 : Cond.methodLink RX13 447 yX13_hasBy ∈ TB := mT9 33 rfl rfl
theorem lkX13_450 : Cond.methodLink RX13 450 yX13_givesMost ∈ TB := mT9 49 rfl rfl
theorem lkX13_453 : Cond.methodLink RX13 453 yX13_refusesGame ∈ TB := mT9 41 rfl rfl
theorem lkX13_456 : Cond.methodLink RX13 456 yX13_pick ∈ TB := mT9 45 rfl rfl
theorem lkX13_459 : Cond.methodLink RX13 459 yX13_hasLeast ∈ TB := mT9 57 rfl rfl
theorem kcX13_462 : Cond.constant RX13 462 65536 ∈ TB := mT9 85 rfl rfl
theorem kcX13_463 : Cond.constantLong RX13 463 75 ∈ TB := mT9 94 rfl rfl
theorem flX13_465 : fLk RX13 465 13 26 := ⟨RX13, TX13, 30, rfl, by decide, Or.inl (mT6 163 rfl rfl)⟩
theorem kcX13_468 : Cond.constantLong RX13 468 74 ∈ TB := mT9 95 rfl rfl
theorem kcX13_470 : Cond.constantLong RX13 470 65537 ∈ TB := mT9 96 rfl rfl
theorem fpX13_465 {M : MD} (h : M.1.cls = RX13) : fPk M 465 13 26 := ⟨RX13, TX13, 30, rfl, by decide, Or.inl ⟨by rw [h]; exact mT6 163 rfl rfl, rfl⟩⟩
theorem flX13_472 : fLk RX13 472 13 27 := ⟨RX13, TX13, 30, rfl, by decide, Or.inl (mT6 164 rfl rfl)⟩
theorem fpX13_472 {M : MD} (h : M.1.cls = RX13) : fPk M 472 13 27 := ⟨RX13, TX13, 30, rfl, by decide, Or.inl ⟨by rw [h]; exact mT6 164 rfl rfl, rfl⟩⟩
theorem lkX13_475 : Cond.methodLink RX13 475 yX13_drawn ∈ TB := mT9 90 rfl rfl
theorem lkX13_478 : Cond.methodLink RX13 478 yX13_refusesPresses ∈ TB := mT9 81 rfl rfl
theorem lkX13_481 : Cond.methodLink RX13 481 yX13_pressesAll ∈ TB := mT9 86 rfl rfl
theorem lkX13_484 : Cond.methodLink RX13 484 yX13_remembers ∈ TB := mT9 109 rfl rfl
theorem lkX13_487 : Cond.methodLink RX13 487 yX13_denied ∈ TB := mT9 117 rfl rfl
theorem lkX13_490 : Cond.methodLink RX13 490 yX13_granted ∈ TB := mT9 121 rfl rfl
theorem lkX13_493 : Cond.methodLink RX13 493 yX13_pressedAll ∈ TB := mT9 153 rfl rfl
theorem lkL_7 : Cond.methodLink RL 7 yX11_led ∈ TB := mT6 62 rfl rfl
