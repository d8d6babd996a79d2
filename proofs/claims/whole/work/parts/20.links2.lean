abbrev mX13_byRule : MD := (yX13_byRule, cX13_byRule, 3, some .int)
theorem okX13_byRule : mOK mX13_byRule 2 := ⟨by decide +kernel, by decide, mT8 82 rfl rfl, mT1 17 rfl rfl, by decide +kernel⟩
theorem imX13_byRule : Cond.instanceMethod yX13_byRule ∈ TB := mT8 80 rfl rfl
theorem seX13_byRule : Cond.selects RX13 yX13_byRule yX13_byRule ∈ TB := mT8 81 rfl rfl
abbrev mX13_saysOf : MD := (yX13_saysOf, cX13_saysOf, 3, some .int)
theorem okX13_saysOf : mOK mX13_saysOf 2 := ⟨by decide +kernel, by decide, mT8 86 rfl rfl, mT1 17 rfl rfl, by decide +kernel⟩
theorem imX13_saysOf : Cond.instanceMethod yX13_saysOf ∈ TB := mT8 84 rfl rfl
theorem seX13_saysOf : Cond.selects RX13 yX13_saysOf yX13_saysOf ∈ TB := mT8 85 rfl rfl
abbrev mX13_prints : MD := (yX13_prints, cX13_prints, 4, some .int)
theorem okX13_prints : mOK mX13_prints 3 := ⟨by decide +kernel, by decide, mT8 94 rfl rfl, mT1 17 rfl rfl, by decide +kernel⟩
theorem imX13_prints : Cond.instanceMethod yX13_prints ∈ TB := mT8 92 rfl rfl
theorem seX13_prints : Cond.selects RX13 yX13_prints yX13_prints ∈ TB := mT8 93 rfl rfl
abbrev mX13_sayers : MD := (yX13_sayers, cX13_sayers, 5, some .int)
theorem okX13_sayers : mOK mX13_sayers 2 := ⟨by decide +kernel, by decide, mT8 102 rfl rfl, mT1 17 rfl rfl, by decide +kernel⟩
theorem imX13_sayers : Cond.instanceMethod yX13_sayers ∈ TB := mT8 100 rfl rfl
theorem seX13_sayers : Cond.selects RX13 yX13_sayers yX13_sayers ∈ TB := mT8 101 rfl rfl
abbrev mX13_idleRules : MD := (yX13_idleRules, cX13_idleRules, 5, some .int)
theorem okX13_idleRules : mOK mX13_idleRules 1 := ⟨by decide +kernel, by decide, mT8 109 rfl rfl, mT1 17 rfl rfl, by decide +kernel⟩
theorem imX13_idleRules : Cond.instanceMethod yX13_idleRules ∈ TB := mT8 107 rfl rfl
theorem seX13_idleRules : Cond.selects RX13 yX13_idleRules yX13_idleRules ∈ TB := mT8 108 rfl rfl
abbrev mX13_differ : MD := (yX13_differ, cX13_differ, 5, some .int)
theorem okX13_differ : mOK mX13_differ 2 := ⟨by decide +kernel, by decide, mT8 113 rfl rfl, mT1 17 rfl rfl, by decide +kernel⟩
theorem imX13_differ : Cond.instanceMethod yX13_differ ∈ TB := mT8 111 rfl rfl
theorem seX13_differ : Cond.selects RX13 yX13_differ yX13_differ ∈ TB := mT8 112 rfl rfl
abbrev mX13_pairsMany : MD := (yX13_pairsMany, cX13_pairsMany, 1, some .int)
theorem okX13_pairsMany : mOK mX13_pairsMany 0 := ⟨by decide +kernel, by decide, mT8 129 rfl rfl, mT1 17 rfl rfl, by decide +kernel⟩
theorem imX13_pairsMany : Cond.instanceMethod yX13_pairsMany ∈ TB := mT8 128 rfl rfl
theorem seX13_pairsMany : Cond.selects RX13 yX13_pairsMany yX13_pairsMany ∈ TB := mTb 90 (by decide +kernel) rfl
abbrev mX13_canBe : MD := (yX13_canBe, cX13_canBe, 5, some .boolean)
theorem okX13_canBe : mOK mX13_canBe 2 := ⟨by decide +kernel, by decide, mT8 141 rfl rfl, mT1 17 rfl rfl, by decide +kernel⟩
theorem imX13_canBe : Cond.instanceMethod yX13_canBe ∈ TB := mT8 140 rfl rfl
theorem seX13_canBe : Cond.selects RX13 yX13_canBe yX13_canBe ∈ TB := mTb 93 (by decide +kernel) rfl
abbrev mX13_counts : MD := (yX13_counts, cX13_counts, 3, none)
theorem okX13_counts : mOK mX13_counts 2 := ⟨by decide +kernel, by decide, mT8 133 rfl rfl, mT1 17 rfl rfl, by decide +kernel⟩
theorem imX13_counts : Cond.instanceMethod yX13_counts ∈ TB := mT8 132 rfl rfl
theorem seX13_counts : Cond.selects RX13 yX13_counts yX13_counts ∈ TB := mTb 91 (by decide +kernel) rfl
abbrev mX13_wantsFrom : MD := (yX13_wantsFrom, cX13_wantsFrom, 4, some .int)
theorem okX13_wantsFrom : mOK mX13_wantsFrom 1 := ⟨by decide +kernel, by decide, mT8 145 rfl rfl, mT1 17 rfl rfl, by decide +kernel⟩
theorem imX13_wantsFrom : Cond.instanceMethod yX13_wantsFrom ∈ TB := mT8 144 rfl rfl
theorem seX13_wantsFrom : Cond.selects RX13 yX13_wantsFrom yX13_wantsFrom ∈ TB := mTb 94 (by decide +kernel) rfl
abbrev mX13_nextPair : MD := (yX13_nextPair, cX13_nextPair, 4, some .int)
theorem okX13_nextPair : mOK mX13_nextPair 2 := ⟨by decide +kernel, by decide, mT8 137 rfl rfl, mT1 17 rfl rfl, by decide +kernel⟩
theorem imX13_nextPair : Cond.instanceMethod yX13_nextPair ∈ TB := mT8 136 rfl rfl
theorem seX13_nextPair : Cond.selects RX13 yX13_nextPair yX13_nextPair ∈ TB := mTb 92 (by decide +kernel) rfl
abbrev mX13_keeps : MD := (yX13_keeps, cX13_keeps, 6, some .int)
theorem okX13_keeps : mOK mX13_keeps 0 := ⟨by decide +kernel, by decide, mT8 125 rfl rfl, mT1 17 rfl rfl, by decide +kernel⟩
theorem imX13_keeps : Cond.instanceMethod yX13_keeps ∈ TB := mT8 124 rfl rfl
theorem seX13_keeps : Cond.selects RX13 yX13_keeps yX13_keeps ∈ TB := mTb 89 (by decide +kernel) rfl
abbrev mX13_asInk : MD := (yX13_asInk, cX13_asInk, 2, none)
theorem okX13_asInk : mOK mX13_asInk 0 := ⟨by decide +kernel, by decide, mT8 121 rfl rfl, mT1 17 rfl rfl, by decide +kernel⟩
theorem imX13_asInk : Cond.instanceMethod yX13_asInk ∈ TB := mT8 120 rfl rfl
theorem seX13_asInk : Cond.selects RX13 yX13_asInk yX13_asInk ∈ TB := mTb 88 (by decide +kernel) rfl
abbrev mX13_kept : MD := (yX13_kept, cX13_kept, 1, some .int)
theorem okX13_kept : mOK mX13_kept 0 := ⟨by decide +kernel, by decide, mT8 117 rfl rfl, mT1 17 rfl rfl, by decide +kernel⟩
theorem imX13_kept : Cond.instanceMethod yX13_kept ∈ TB := mT8 115 rfl rfl
theorem seX13_kept : Cond.selects RX13 yX13_kept yX13_kept ∈ TB := mT8 116 rfl rfl
abbrev mX13_keptBy : MD := (yX13_keptBy, cX13_keptBy, 2, some .int)
theorem okX13_keptBy : mOK mX13_keptBy 1 := ⟨by decide +kernel, by decide, mT8 149 rfl rfl, mT1 17 rfl rfl, by decide +kernel⟩
theorem imX13_keptBy : Cond.instanceMethod yX13_keptBy ∈ TB := mT8 147 rfl rfl
theorem seX13_keptBy : Cond.selects RX13 yX13_keptBy yX13_keptBy ∈ TB := mT8 148 rfl rfl
abbrev mX13_toFill : MD := (yX13_toFill, cX13_toFill, 3, some .int)
theorem okX13_toFill : mOK mX13_toFill 0 := ⟨by decide +kernel, by decide, mT8 153 rfl rfl, mT1 17 rfl rfl, by decide +kernel⟩
theorem imX13_toFill : Cond.instanceMethod yX13_toFill ∈ TB := mT8 151 rfl rfl
theorem seX13_toFill : Cond.selects RX13 yX13_toFill yX13_toFill ∈ TB := mT8 152 rfl rfl
abbrev mX13_allSay : MD := (yX13_allSay, cX13_allSay, 3, some .boolean)
theorem okX13_allSay : mOK mX13_allSay 1 := ⟨by decide +kernel, by decide, mT8 161 rfl rfl, mT1 17 rfl rfl, by decide +kernel⟩
theorem imX13_allSay : Cond.instanceMethod yX13_allSay ∈ TB := mT8 160 rfl rfl
theorem seX13_allSay : Cond.selects RX13 yX13_allSay yX13_allSay ∈ TB := mTb 95 (by decide +kernel) rfl
abbrev mX13_worded : MD := (yX13_worded, cX13_worded, 3, some .int)
theorem okX13_worded : mOK mX13_worded 0 := ⟨by decide +kernel, by decide, mT8 157 rfl rfl, mT1 17 rfl rfl, by decide +kernel⟩
theorem imX13_worded : Cond.instanceMethod yX13_worded ∈ TB := mT8 155 rfl rfl
theorem seX13_worded : Cond.selects RX13 yX13_worded yX13_worded ∈ TB := mT8 156 rfl rfl
abbrev mX13_reword : MD := (yX13_reword, cX13_reword, 6, some .int)
theorem okX13_reword : mOK mX13_reword 3 := ⟨by decide +kernel, by decide, mT8 168 rfl rfl, mT1 17 rfl rfl, by decide +kernel⟩
theorem imX13_reword : Cond.instanceMethod yX13_reword ∈ TB := mT8 166 rfl rfl
theorem seX13_reword : Cond.selects RX13 yX13_reword yX13_reword ∈ TB := mT8 167 rfl rfl
abbrev mX13_yesSaid : MD := (yX13_yesSaid, cX13_yesSaid, 4, some .int)
theorem okX13_yesSaid : mOK mX13_yesSaid 1 := ⟨by decide +kernel, by decide, mT8 176 rfl rfl, mT1 17 rfl rfl, by decide +kernel⟩
theorem imX13_yesSaid : Cond.instanceMethod yX13_yesSaid ∈ TB := mT8 175 rfl rfl
theorem seX13_yesSaid : Cond.selects RX13 yX13_yesSaid yX13_yesSaid ∈ TB := mTb 96 (by decide +kernel) rfl
abbrev mX13_bestMark : MD := (yX13_bestMark, cX13_bestMark, 6, some .int)
theorem okX13_bestMark : mOK mX13_bestMark 1 := ⟨by decide +kernel, by decide, mT8 172 rfl rfl, mT1 17 rfl rfl, by decide +kernel⟩
theorem imX13_bestMark : Cond.instanceMethod yX13_bestMark ∈ TB := mT8 170 rfl rfl
theorem seX13_bestMark : Cond.selects RX13 yX13_bestMark yX13_bestMark ∈ TB := mT8 171 rfl rfl
abbrev mX13_fitsPrints : MD := (yX13_fitsPrints, cX13_fitsPrints, 5, some .long)
theorem okX13_fitsPrints : mOK mX13_fitsPrints 1 := ⟨by decide +kernel, by decide, mT8 184 rfl rfl, mT1 17 rfl rfl, by decide +kernel⟩
theorem imX13_fitsPrints : Cond.instanceMethod yX13_fitsPrints ∈ TB := mT8 183 rfl rfl
theorem seX13_fitsPrints : Cond.selects RX13 yX13_fitsPrints yX13_fitsPrints ∈ TB := mTb 97 (by decide +kernel) rfl
abbrev mX13_fitAll : MD := (yX13_fitAll, cX13_fitAll, 4, some .long)
theorem okX13_fitAll : mOK mX13_fitAll 0 := ⟨by decide +kernel, by decide, mT8 192 rfl rfl, mT1 17 rfl rfl, by decide +kernel⟩
theorem imX13_fitAll : Cond.instanceMethod yX13_fitAll ∈ TB := mT8 191 rfl rfl
theorem seX13_fitAll : Cond.selects RX13 yX13_fitAll yX13_fitAll ∈ TB := mTb 99 (by decide +kernel) rfl
abbrev mX13_odds : MD := (yX13_odds, cX13_odds, 3, some .long)
theorem okX13_odds : mOK mX13_odds 2 := ⟨by decide +kernel, by decide, mT8 180 rfl rfl, mT1 17 rfl rfl, by decide +kernel⟩
theorem imX13_odds : Cond.instanceMethod yX13_odds ∈ TB := mT8 178 rfl rfl
theorem seX13_odds : Cond.selects RX13 yX13_odds yX13_odds ∈ TB := mT8 179 rfl rfl
abbrev mX13_likeliest : MD := (yX13_likeliest, cX13_likeliest, 5, some .int)
theorem okX13_likeliest : mOK mX13_likeliest 0 := ⟨by decide +kernel, by decide, mT8 203 rfl rfl, mT1 17 rfl rfl, by decide +kernel⟩
theorem imX13_likeliest : Cond.instanceMethod yX13_likeliest ∈ TB := mT8 201 rfl rfl
theorem seX13_likeliest : Cond.selects RX13 yX13_likeliest yX13_likeliest ∈ TB := mT8 202 rfl rfl
abbrev mX13_next : MD := (yX13_next, cX13_next, 8, some .long)
theorem okX13_next : mOK mX13_next 4 := ⟨by decide +kernel, by decide, mT8 207 rfl rfl, mT1 17 rfl rfl, by decide +kernel⟩
theorem imX13_next : Cond.instanceMethod yX13_next ∈ TB := mT8 205 rfl rfl
theorem seX13_next : Cond.selects RX13 yX13_next yX13_next ∈ TB := mT8 206 rfl rfl
abbrev mX13_lawsAll : MD := (yX13_lawsAll, cX13_lawsAll, 1, some .int)
theorem okX13_lawsAll : mOK mX13_lawsAll 0 := ⟨by decide +kernel, by decide, mT8 220 rfl rfl, mT1 17 rfl rfl, by decide +kernel⟩
theorem imX13_lawsAll : Cond.instanceMethod yX13_lawsAll ∈ TB := mT8 219 rfl rfl
theorem seX13_lawsAll : Cond.selects RX13 yX13_lawsAll yX13_lawsAll ∈ TB := mTb 102 (by decide +kernel) rfl
abbrev mX13_lawOf : MD := (yX13_lawOf, cX13_lawOf, 8, some .int)
theorem okX13_lawOf : mOK mX13_lawOf 2 := ⟨by decide +kernel, by decide, mT8 228 rfl rfl, mT1 17 rfl rfl, by decide +kernel⟩
theorem imX13_lawOf : Cond.instanceMethod yX13_lawOf ∈ TB := mT8 227 rfl rfl
theorem seX13_lawOf : Cond.selects RX13 yX13_lawOf yX13_lawOf ∈ TB := mTb 104 (by decide +kernel) rfl
abbrev mX13_lawFits : MD := (yX13_lawFits, cX13_lawFits, 3, some .boolean)
theorem okX13_lawFits : mOK mX13_lawFits 1 := ⟨by decide +kernel, by decide, mT8 224 rfl rfl, mT1 17 rfl rfl, by decide +kernel⟩
theorem imX13_lawFits : Cond.instanceMethod yX13_lawFits ∈ TB := mT8 223 rfl rfl
theorem seX13_lawFits : Cond.selects RX13 yX13_lawFits yX13_lawFits ∈ TB := mTb 103 (by decide +kernel) rfl
abbrev mX13_lawsFor : MD := (yX13_lawsFor, cX13_lawsFor, 5, some .int)
theorem okX13_lawsFor : mOK mX13_lawsFor 2 := ⟨by decide +kernel, by decide, mT8 216 rfl rfl, mT1 17 rfl rfl, by decide +kernel⟩
theorem imX13_lawsFor : Cond.instanceMethod yX13_lawsFor ∈ TB := mT8 215 rfl rfl
theorem seX13_lawsFor : Cond.selects RX13 yX13_lawsFor yX13_lawsFor ∈ TB := mTb 101 (by decide +kernel) rfl
abbrev mX13_laws : MD := (yX13_laws, cX13_laws, 1, some .int)
theorem okX13_laws : mOK mX13_laws 0 := ⟨by decide +kernel, by decide, mT8 212 rfl rfl, mT1 17 rfl rfl, by decide +kernel⟩
theorem imX13_laws : Cond.instanceMethod yX13_laws ∈ TB := mT8 210 rfl rfl
theorem seX13_laws : Cond.selects RX13 yX13_laws yX13_laws ∈ TB := mT8 211 rfl rfl
abbrev mX13_lawSays : MD := (yX13_lawSays, cX13_lawSays, 4, some .int)
theorem okX13_lawSays : mOK mX13_lawSays 1 := ⟨by decide +kernel, by decide, mT8 232 rfl rfl, mT1 17 rfl rfl, by decide +kernel⟩
theorem imX13_lawSays : Cond.instanceMethod yX13_lawSays ∈ TB := mT8 230 rfl rfl
theorem seX13_lawSays : Cond.selects RX13 yX13_lawSays yX13_lawSays ∈ TB := mT8 231 rfl rfl
abbrev mX13_tries : MD := (yX13_tries, cX13_tries, 5, some .int)
theorem okX13_tries : mOK mX13_tries 0 := ⟨by decide +kernel, by decide, mT9 0 rfl rfl, mT1 17 rfl rfl, by decide +kernel⟩
theorem imX13_tries : Cond.instanceMethod yX13_tries ∈ TB := mT8 239 rfl rfl
theorem seX13_tries : Cond.selects RX13 yX13_tries yX13_tries ∈ TB := mTb 105 (by decide +kernel) rfl
abbrev mX13_tryNext : MD := (yX13_tryNext, cX13_tryNext, 1, some .int)
theorem okX13_tryNext : mOK mX13_tryNext 0 := ⟨by decide +kernel, by decide, mT8 236 rfl rfl, mT1 17 rfl rfl, by decide +kernel⟩
theorem imX13_tryNext : Cond.instanceMethod yX13_tryNext ∈ TB := mT8 234 rfl rfl
theorem seX13_tryNext : Cond.selects RX13 yX13_tryNext yX13_tryNext ∈ TB := mT8 235 rfl rfl
abbrev mX13_tryLeaves : MD := (yX13_tryLeaves, cX13_tryLeaves, 1, some .int)
theorem okX13_tryLeaves : mOK mX13_tryLeaves 0 := ⟨by decide +kernel, by decide, mT9 4 rfl rfl, mT1 17 rfl rfl, by decide +kernel⟩
theorem imX13_tryLeaves : Cond.instanceMethod yX13_tryLeaves ∈ TB := mT9 2 rfl rfl
theorem seX13_tryLeaves : Cond.selects RX13 yX13_tryLeaves yX13_tryLeaves ∈ TB := mT9 3 rfl rfl
abbrev mX13_judges : MD := (yX13_judges, cX13_judges, 3, some .int)
theorem okX13_judges : mOK mX13_judges 2 := ⟨by decide +kernel, by decide, mT9 8 rfl rfl, mT1 17 rfl rfl, by decide +kernel⟩
theorem imX13_judges : Cond.instanceMethod yX13_judges ∈ TB := mT9 6 rfl rfl
theorem seX13_judges : Cond.selects RX13 yX13_judges yX13_judges ∈ TB := mT9 7 rfl rfl
abbrev mX13_month : MD := (yX13_month, cX13_month, 7, some .int)
theorem okX13_month : mOK mX13_month 1 := ⟨by decide +kernel, by decide, mT9 20 rfl rfl, mT1 17 rfl rfl, by decide +kernel⟩
theorem imX13_month : Cond.instanceMethod yX13_month ∈ TB := mT9 19 rfl rfl
theorem seX13_month : Cond.selects RX13 yX13_month yX13_month ∈ TB := mTb 107 (by decide +kernel) rfl
abbrev mX13_allStamps : MD := (yX13_allStamps, cX13_allStamps, 1, some .int)
theorem okX13_allStamps : mOK mX13_allStamps 0 := ⟨by decide +kernel, by decide, mT9 16 rfl rfl, mT1 17 rfl rfl, by decide +kernel⟩
theorem imX13_allStamps : Cond.instanceMethod yX13_allStamps ∈ TB := mT9 15 rfl rfl
theorem seX13_allStamps : Cond.selects RX13 yX13_allStamps yX13_allStamps ∈ TB := mTb 106 (by decide +kernel) rfl
abbrev mX13_good : MD := (yX13_good, cX13_good, 4, some .int)
theorem okX13_good : mOK mX13_good 1 := ⟨by decide +kernel, by decide, mT9 12 rfl rfl, mT1 17 rfl rfl, by decide +kernel⟩
theorem imX13_good : Cond.instanceMethod yX13_good ∈ TB := mT9 10 rfl rfl
theorem seX13_good : Cond.selects RX13 yX13_good yX13_good ∈ TB := mT9 11 rfl rfl
abbrev mX13_settled : MD := (yX13_settled, cX13_settled, 3, some .int)
theorem okX13_settled : mOK mX13_settled 0 := ⟨by decide +kernel, by decide, mT9 24 rfl rfl, mT1 17 rfl rfl, by decide +kernel⟩
theorem imX13_settled : Cond.instanceMethod yX13_settled ∈ TB := mT9 22 rfl rfl
theorem seX13_settled : Cond.selects RX13 yX13_settled yX13_settled ∈ TB := mT9 23 rfl rfl
abbrev mX13_steady : MD := (yX13_steady, cX13_steady, 3, some .int)
theorem okX13_steady : mOK mX13_steady 0 := ⟨by decide +kernel, by decide, mT9 28 rfl rfl, mT1 17 rfl rfl, by decide +kernel⟩
theorem imX13_steady : Cond.instanceMethod yX13_steady ∈ TB := mT9 26 rfl rfl
theorem seX13_steady : Cond.selects RX13 yX13_steady yX13_steady ∈ TB := mT9 27 rfl rfl
abbrev mX13_hasBy : MD := (yX13_hasBy, cX13_hasBy, 4, some .int)
theorem okX13_hasBy : mOK mX13_hasBy 2 := ⟨by decide +kernel, by decide, mT9 36 rfl rfl, mT1 17 rfl rfl, by decide +kernel⟩
theorem imX13_hasBy : Cond.instanceMethod yX13_hasBy ∈ TB := mT9 35 rfl rfl
theorem seX13_hasBy : Cond.selects RX13 yX13_hasBy yX13_hasBy ∈ TB := mTb 108 (by decide +kernel) rfl
abbrev mX13_has : MD := (yX13_has, cX13_has, 3, some .int)
theorem okX13_has : mOK mX13_has 2 := ⟨by decide +kernel, by decide, mT9 32 rfl rfl, mT1 17 rfl rfl, by decide +kernel⟩
theorem imX13_has : Cond.instanceMethod yX13_has ∈ TB := mT9 30 rfl rfl
theorem seX13_has : Cond.selects RX13 yX13_has yX13_has ∈ TB := mT9 31 rfl rfl
abbrev mX13_givesMost : MD := (yX13_givesMost, cX13_givesMost, 4, some .int)
theorem okX13_givesMost : mOK mX13_givesMost 1 := ⟨by decide +kernel, by decide, mT9 52 rfl rfl, mT1 17 rfl rfl, by decide +kernel⟩
theorem imX13_givesMost : Cond.instanceMethod yX13_givesMost ∈ TB := mT9 51 rfl rfl
theorem seX13_givesMost : Cond.selects RX13 yX13_givesMost yX13_givesMost ∈ TB := mTb 111 (by decide +kernel) rfl
abbrev mX13_hasLeast : MD := (yX13_hasLeast, cX13_hasLeast, 4, some .int)
theorem okX13_hasLeast : mOK mX13_hasLeast 1 := ⟨by decide +kernel, by decide, mT9 60 rfl rfl, mT1 17 rfl rfl, by decide +kernel⟩
theorem imX13_hasLeast : Cond.instanceMethod yX13_hasLeast ∈ TB := mT9 59 rfl rfl
theorem seX13_hasLeast : Cond.selects RX13 yX13_hasLeast yX13_hasLeast ∈ TB := mTb 112 (by decide +kernel) rfl
abbrev mX13_refusesGame : MD := (yX13_refusesGame, cX13_refusesGame, 1, some .int)
theorem okX13_refusesGame : mOK mX13_refusesGame 0 := ⟨by decide +kernel, by decide, mT9 44 rfl rfl, mT1 17 rfl rfl, by decide +kernel⟩
theorem imX13_refusesGame : Cond.instanceMethod yX13_refusesGame ∈ TB := mT9 43 rfl rfl
theorem seX13_refusesGame : Cond.selects RX13 yX13_refusesGame yX13_refusesGame ∈ TB := mTb 109 (by decide +kernel) rfl
abbrev mX13_pick : MD := (yX13_pick, cX13_pick, 3, some .int)
theorem okX13_pick : mOK mX13_pick 0 := ⟨by decide +kernel, by decide, mT9 48 rfl rfl, mT1 17 rfl rfl, by decide +kernel⟩
theorem imX13_pick : Cond.instanceMethod yX13_pick ∈ TB := mT9 47 rfl rfl
theorem seX13_pick : Cond.selects RX13 yX13_pick yX13_pick ∈ TB := mTb 110 (by decide +kernel) rfl
abbrev mX13_clerks : MD := (yX13_clerks, cX13_clerks, 2, some .int)
theorem okX13_clerks : mOK mX13_clerks 0 := ⟨by decide +kernel, by decide, mT9 40 rfl rfl, mT1 17 rfl rfl, by decide +kernel⟩
theorem imX13_clerks : Cond.instanceMethod yX13_clerks ∈ TB := mT9 38 rfl rfl
theorem seX13_clerks : Cond.selects RX13 yX13_clerks yX13_clerks ∈ TB := mT9 39 rfl rfl
abbrev mX13_applicants : MD := (yX13_applicants, cX13_applicants, 4, some .int)
theorem okX13_applicants : mOK mX13_applicants 0 := ⟨by decide +kernel, by decide, mT9 56 rfl rfl, mT1 17 rfl rfl, by decide +kernel⟩
theorem imX13_applicants : Cond.instanceMethod yX13_applicants ∈ TB := mT9 54 rfl rfl
theorem seX13_applicants : Cond.selects RX13 yX13_applicants yX13_applicants ∈ TB := mT9 55 rfl rfl
abbrev mX13_clerkPicks : MD := (yX13_clerkPicks, cX13_clerkPicks, 2, some .int)
theorem okX13_clerkPicks : mOK mX13_clerkPicks 0 := ⟨by decide +kernel, by decide, mT9 64 rfl rfl, mT1 17 rfl rfl, by decide +kernel⟩
theorem imX13_clerkPicks : Cond.instanceMethod yX13_clerkPicks ∈ TB := mT9 62 rfl rfl
theorem seX13_clerkPicks : Cond.selects RX13 yX13_clerkPicks yX13_clerkPicks ∈ TB := mT9 63 rfl rfl
abbrev mX13_even : MD := (yX13_even, cX13_even, 5, some .int)
theorem okX13_even : mOK mX13_even 0 := ⟨by decide +kernel, by decide, mT9 68 rfl rfl, mT1 17 rfl rfl, by decide +kernel⟩
theorem imX13_even : Cond.instanceMethod yX13_even ∈ TB := mT9 66 rfl rfl
theorem seX13_even : Cond.selects RX13 yX13_even yX13_even ∈ TB := mT9 67 rfl rfl
abbrev mX13_sure : MD := (yX13_sure, cX13_sure, 6, some .long)
theorem okX13_sure : mOK mX13_sure 5 := ⟨by decide +kernel, by decide, mT9 72 rfl rfl, mT1 17 rfl rfl, by decide +kernel⟩
theorem imX13_sure : Cond.instanceMethod yX13_sure ∈ TB := mT9 70 rfl rfl
theorem seX13_sure : Cond.selects RX13 yX13_sure yX13_sure ∈ TB := mT9 71 rfl rfl
abbrev mX13_mean : MD := (yX13_mean, cX13_mean, 7, some .long)
theorem okX13_mean : mOK mX13_mean 3 := ⟨by decide +kernel, by decide, mT9 76 rfl rfl, mT1 17 rfl rfl, by decide +kernel⟩
theorem imX13_mean : Cond.instanceMethod yX13_mean ∈ TB := mT9 74 rfl rfl
theorem seX13_mean : Cond.selects RX13 yX13_mean yX13_mean ∈ TB := mT9 75 rfl rfl
abbrev mX13_refusesPresses : MD := (yX13_refusesPresses, cX13_refusesPresses, 3, some .int)
theorem okX13_refusesPresses : mOK mX13_refusesPresses 2 := ⟨by decide +kernel, by decide, mT9 84 rfl rfl, mT1 17 rfl rfl, by decide +kernel⟩
theorem imX13_refusesPresses : Cond.instanceMethod yX13_refusesPresses ∈ TB := mT9 83 rfl rfl
theorem seX13_refusesPresses : Cond.selects RX13 yX13_refusesPresses yX13_refusesPresses ∈ TB := mTb 113 (by decide +kernel) rfl
abbrev mX13_drawn : MD := (yX13_drawn, cX13_drawn, 2, some .int)
theorem okX13_drawn : mOK mX13_drawn 1 := ⟨by decide +kernel, by decide, mT9 93 rfl rfl, mT1 17 rfl rfl, by decide +kernel⟩
theorem imX13_drawn : Cond.instanceMethod yX13_drawn ∈ TB := mT9 92 rfl rfl
theorem seX13_drawn : Cond.selects RX13 yX13_drawn yX13_drawn ∈ TB := mTb 115 (by decide +kernel) rfl
abbrev mX13_pressesAll : MD := (yX13_pressesAll, cX13_pressesAll, 8, none)
theorem okX13_pressesAll : mOK mX13_pressesAll 2 := ⟨by decide +kernel, by decide, mT9 89 rfl rfl, mT1 17 rfl rfl, by decide +kernel⟩
theorem imX13_pressesAll : Cond.instanceMethod yX13_pressesAll ∈ TB := mT9 88 rfl rfl
theorem seX13_pressesAll : Cond.selects RX13 yX13_pressesAll yX13_pressesAll ∈ TB := mTb 114 (by decide +kernel) rfl
abbrev mX13_presses : MD := (yX13_presses, cX13_presses, 5, some .int)
theorem okX13_presses : mOK mX13_presses 3 := ⟨by decide +kernel, by decide, mT9 80 rfl rfl, mT1 17 rfl rfl, by decide +kernel⟩
theorem imX13_presses : Cond.instanceMethod yX13_presses ∈ TB := mT9 78 rfl rfl
theorem seX13_presses : Cond.selects RX13 yX13_presses yX13_presses ∈ TB := mT9 79 rfl rfl
abbrev mX13_birds : MD := (yX13_birds, cX13_birds, 4, some .int)
theorem okX13_birds : mOK mX13_birds 2 := ⟨by decide +kernel, by decide, mT9 100 rfl rfl, mT1 17 rfl rfl, by decide +kernel⟩
theorem imX13_birds : Cond.instanceMethod yX13_birds ∈ TB := mT9 98 rfl rfl
theorem seX13_birds : Cond.selects RX13 yX13_birds yX13_birds ∈ TB := mT9 99 rfl rfl
abbrev mX13_printed : MD := (yX13_printed, cX13_printed, 5, some .int)
theorem okX13_printed : mOK mX13_printed 3 := ⟨by decide +kernel, by decide, mT9 104 rfl rfl, mT1 17 rfl rfl, by decide +kernel⟩
theorem imX13_printed : Cond.instanceMethod yX13_printed ∈ TB := mT9 102 rfl rfl
theorem seX13_printed : Cond.selects RX13 yX13_printed yX13_printed ∈ TB := mT9 103 rfl rfl
abbrev mX13_remembers : MD := (yX13_remembers, cX13_remembers, 2, none)
theorem okX13_remembers : mOK mX13_remembers 0 := ⟨by decide +kernel, by decide, mT9 112 rfl rfl, mT1 17 rfl rfl, by decide +kernel⟩
theorem imX13_remembers : Cond.instanceMethod yX13_remembers ∈ TB := mT9 111 rfl rfl
theorem seX13_remembers : Cond.selects RX13 yX13_remembers yX13_remembers ∈ TB := mTb 116 (by decide +kernel) rfl
abbrev mX13_press : MD := (yX13_press, cX13_press, 4, some .int)
theorem okX13_press : mOK mX13_press 3 := ⟨by decide +kernel, by decide, mT9 108 rfl rfl, mT1 17 rfl rfl, by decide +kernel⟩
theorem imX13_press : Cond.instanceMethod yX13_press ∈ TB := mT9 106 rfl rfl
theorem seX13_press : Cond.selects RX13 yX13_press yX13_press ∈ TB := mT9 107 rfl rfl
abbrev mX13_carve : MD := (yX13_carve, cX13_carve, 3, some .boolean)
theorem okX13_carve : mOK mX13_carve 2 := ⟨by decide +kernel, by decide, mT9 116 rfl rfl, mT1 17 rfl rfl, by decide +kernel⟩
theorem imX13_carve : Cond.instanceMethod yX13_carve ∈ TB := mT9 114 rfl rfl
theorem seX13_carve : Cond.selects RX13 yX13_carve yX13_carve ∈ TB := mT9 115 rfl rfl
abbrev mX13_mark : MD := (yX13_mark, cX13_mark, 4, some .boolean)
theorem okX13_mark : mOK mX13_mark 3 := ⟨by decide +kernel, by decide, mT9 128 rfl rfl, mT1 17 rfl rfl, by decide +kernel⟩
theorem imX13_mark : Cond.instanceMethod yX13_mark ∈ TB := mT9 126 rfl rfl
theorem seX13_mark : Cond.selects RX13 yX13_mark yX13_mark ∈ TB := mT9 127 rfl rfl
abbrev mX13_fill : MD := (yX13_fill, cX13_fill, 3, some .boolean)
theorem okX13_fill : mOK mX13_fill 2 := ⟨by decide +kernel, by decide, mT9 132 rfl rfl, mT1 17 rfl rfl, by decide +kernel⟩
theorem imX13_fill : Cond.instanceMethod yX13_fill ∈ TB := mT9 130 rfl rfl
theorem seX13_fill : Cond.selects RX13 yX13_fill yX13_fill ∈ TB := mT9 131 rfl rfl
abbrev mX13_undo : MD := (yX13_undo, cX13_undo, 2, some .boolean)
theorem okX13_undo : mOK mX13_undo 0 := ⟨by decide +kernel, by decide, mT9 136 rfl rfl, mT1 17 rfl rfl, by decide +kernel⟩
theorem imX13_undo : Cond.instanceMethod yX13_undo ∈ TB := mT9 134 rfl rfl
theorem seX13_undo : Cond.selects RX13 yX13_undo yX13_undo ∈ TB := mT9 135 rfl rfl
abbrev mX13_image : MD := (yX13_image, cX13_image, 2, some .int)
theorem okX13_image : mOK mX13_image 0 := ⟨by decide +kernel, by decide, mT9 140 rfl rfl, mT1 17 rfl rfl, by decide +kernel⟩
theorem imX13_image : Cond.instanceMethod yX13_image ∈ TB := mT9 138 rfl rfl
theorem seX13_image : Cond.selects RX13 yX13_image yX13_image ∈ TB := mT9 139 rfl rfl
abbrev mX13_back : MD := (yX13_back, cX13_back, 3, some .boolean)
theorem okX13_back : mOK mX13_back 1 := ⟨by decide +kernel, by decide, mT9 144 rfl rfl, mT1 17 rfl rfl, by decide +kernel⟩
theorem imX13_back : Cond.instanceMethod yX13_back ∈ TB := mT9 142 rfl rfl
theorem seX13_back : Cond.selects RX13 yX13_back yX13_back ∈ TB := mT9 143 rfl rfl
abbrev mX13_led : MD := (yX13_led, cX13_led, 4, some .int)
theorem okX13_led : mOK mX13_led 1 := ⟨by decide +kernel, by decide, mT9 148 rfl rfl, mT1 17 rfl rfl, by decide +kernel⟩
theorem imX13_led : Cond.instanceMethod yX13_led ∈ TB := mT9 146 rfl rfl
theorem seX13_led : Cond.selects RX13 yX13_led yX13_led ∈ TB := mT9 147 rfl rfl
abbrev mX13_pressedAll : MD := (yX13_pressedAll, cX13_pressedAll, 3, some .int)
theorem okX13_pressedAll : mOK mX13_pressedAll 0 := ⟨by decide +kernel, by decide, mT9 156 rfl rfl, mT1 17 rfl rfl, by decide +kernel⟩
theorem imX13_pressedAll : Cond.instanceMethod yX13_pressedAll ∈ TB := mT9 155 rfl rfl
theorem seX13_pressedAll : Cond.selects RX13 yX13_pressedAll yX13_pressedAll ∈ TB := mTb 119 (by decide +kernel) rfl
abbrev mX13_size : MD := (yX13_size, cX13_size, 2, some .int)
theorem okX13_size : mOK mX13_size 1 := ⟨by decide +kernel, by decide, mT9 152 rfl rfl, mT1 17 rfl rfl, by decide +kernel⟩
theorem imX13_size : Cond.instanceMethod yX13_size ∈ TB := mT9 150 rfl rfl
theorem seX13_size : Cond.selects RX13 yX13_size yX13_size ∈ TB := mT9 151 rfl rfl
abbrev mX13_trouble : MD := (yX13_trouble, cX13_trouble, 1, some .int)
theorem okX13_trouble : mOK mX13_trouble 0 := ⟨by decide +kernel, by decide, mT9 160 rfl rfl, mT1 17 rfl rfl, by decide +kernel⟩
theorem imX13_trouble : Cond.instanceMethod yX13_trouble ∈ TB := mT9 158 rfl rfl
theorem seX13_trouble : Cond.selects RX13 yX13_trouble yX13_trouble ∈ TB := mT9 159 rfl rfl
theorem oiX0_3 : Cond.methodLink RX0 3 objectInit ∈ TB := mT2 187 rfl rfl
theorem flX0_9 : fLk RX0 9 0 0 := ⟨RX0, TX0, 1, rfl, by decide, Or.inl (mT2 188 rfl rfl)⟩
theorem fqX0_9 {M : MD} (h : M.1.cls = RX0) (hn : M.1.name = "<init>") : fPk M 9 0 0 := ⟨RX0, TX0, 1, rfl, by decide, Or.inr (Or.inr ⟨by rw [h]; exact mT2 188 rfl rfl, rfl, hn, by rw [h]; rfl⟩)⟩
theorem flX0_15 : fLk RX0 15 5 1 := ⟨RX5, TX5, 2, rfl, by decide, Or.inl (mT2 101 rfl rfl)⟩
theorem flX0_21 : fLk RX0 21 7 15 := ⟨RX7, TX7, 20, rfl, by decide, Or.inl (mT1 156 rfl rfl)⟩
theorem lkX0_27 : Cond.methodLink RX0 27 yX0_yesOverNo ∈ TB := mT5 85 rfl rfl
theorem lnX0_31 : Cond.methodLinkNest RX0 31 yX11_hasBit "StampViews" ∈ nestW := mNw 10 (by decide +kernel)
theorem flX0_35 : fLk RX0 35 7 3 := ⟨RX7, TX7, 20, rfl, by decide, Or.inl (mT1 106 rfl rfl)⟩
theorem lkX0_39 : Cond.methodLink RX0 39 yX5_sayOf ∈ TB := mT5 90 rfl rfl
theorem lkX0_42 : Cond.methodLink RX0 42 yX0_stampSets ∈ TB := mT5 77 rfl rfl
theorem lkX0_46 : Cond.methodLink RX0 46 yX0_behindMonth ∈ TB := mT5 81 rfl rfl
theorem oiX1_3 : Cond.methodLink RX1 3 objectInit ∈ TB := mT2 207 rfl rfl
theorem flX1_9 : fLk RX1 9 1 1 := ⟨RX1, TX1, 5, rfl, by decide, Or.inl (mT2 209 rfl rfl)⟩
theorem fqX1_9 {M : MD} (h : M.1.cls = RX1) (hn : M.1.name = "<init>") : fPk M 9 1 1 := ⟨RX1, TX1, 5, rfl, by decide, Or.inr (Or.inr ⟨by rw [h]; exact mT2 209 rfl rfl, rfl, hn, by rw [h]; rfl⟩)⟩
theorem flX1_15 : fLk RX1 15 1 2 := ⟨RX1, TX1, 5, rfl, by decide, Or.inl (mT2 211 rfl rfl)⟩
theorem fqX1_15 {M : MD} (h : M.1.cls = RX1) (hn : M.1.name = "<init>") : fPk M 15 1 2 := ⟨RX1, TX1, 5, rfl, by decide, Or.inr (Or.inr ⟨by rw [h]; exact mT2 211 rfl rfl, rfl, hn, by rw [h]; rfl⟩)⟩
theorem flX1_18 : fLk RX1 18 1 0 := ⟨RX1, TX1, 5, rfl, by decide, Or.inl (mT2 208 rfl rfl)⟩
theorem fqX1_18 {M : MD} (h : M.1.cls = RX1) (hn : M.1.name = "<init>") : fPk M 18 1 0 := ⟨RX1, TX1, 5, rfl, by decide, Or.inr (Or.inr ⟨by rw [h]; exact mT2 208 rfl rfl, rfl, hn, by rw [h]; rfl⟩)⟩
theorem flX1_22 : fLk RX1 22 1 4 := ⟨RX1, TX1, 5, rfl, by decide, Or.inl (mT2 215 rfl rfl)⟩
theorem fpX1_22 {M : MD} (h : M.1.cls = RX1) : fPk M 22 1 4 := ⟨RX1, TX1, 5, rfl, by decide, Or.inl ⟨by rw [h]; exact mT2 215 rfl rfl, rfl⟩⟩
theorem flX1_26 : fLk RX1 26 1 3 := ⟨RX1, TX1, 5, rfl, by decide, Or.inl (mT2 213 rfl rfl)⟩
theorem fpX1_26 {M : MD} (h : M.1.cls = RX1) : fPk M 26 1 3 := ⟨RX1, TX1, 5, rfl, by decide, Or.inl ⟨by rw [h]; exact mT2 213 rfl rfl, rfl⟩⟩
theorem lkX1_29 : Cond.methodLink RX1 29 yX1_pressByDraws ∈ TB := mT5 193 rfl rfl
theorem flX1_32 : fLk RX1 32 5 1 := ⟨RX5, TX5, 2, rfl, by decide, Or.inl (mT2 104 rfl rfl)⟩
theorem flX1_38 : fLk RX1 38 7 15 := ⟨RX7, TX7, 20, rfl, by decide, Or.inl (mT1 158 rfl rfl)⟩
theorem lkX1_43 : Cond.methodLink RX1 43 yX1_draw ∈ TB := mT5 197 rfl rfl
theorem flX1_47 : fLk RX1 47 7 17 := ⟨RX7, TX7, 20, rfl, by decide, Or.inl (mT1 170 rfl rfl)⟩
theorem flX1_50 : fLk RX1 50 7 14 := ⟨RX7, TX7, 20, rfl, by decide, Or.inl (mT1 152 rfl rfl)⟩
theorem flX1_53 : fLk RX1 53 7 8 := ⟨RX7, TX7, 20, rfl, by decide, Or.inl (mT1 126 rfl rfl)⟩
theorem lkX1_56 : Cond.methodLink RX1 56 yX5_sayOn ∈ TB := mT5 202 rfl rfl
theorem lkX1_60 : Cond.methodLink RX1 60 yX5_printBy ∈ TB := mT5 203 rfl rfl
theorem flX1_63 : fLk RX1 63 7 12 := ⟨RX7, TX7, 20, rfl, by decide, Or.inl (mT1 140 rfl rfl)⟩
theorem kcX1_66 : Cond.constant RX1 66 65537 ∈ TB := mT5 201 rfl rfl
theorem oiX2_3 : Cond.methodLink RX2 3 objectInit ∈ TB := mT2 197 rfl rfl
theorem flX2_9 : fLk RX2 9 2 0 := ⟨RX2, TX2, 1, rfl, by decide, Or.inl (mT2 198 rfl rfl)⟩
theorem fqX2_9 {M : MD} (h : M.1.cls = RX2) (hn : M.1.name = "<init>") : fPk M 9 2 0 := ⟨RX2, TX2, 1, rfl, by decide, Or.inr (Or.inr ⟨by rw [h]; exact mT2 198 rfl rfl, rfl, hn, by rw [h]; rfl⟩)⟩
theorem flX2_15 : fLk RX2 15 5 0 := ⟨RX5, TX5, 2, rfl, by decide, Or.inl (mT2 96 rfl rfl)⟩
theorem lkX2_21 : Cond.methodLink RX2 21 yX4_marksOf ∈ TB := mT5 115 rfl rfl
theorem lkX2_27 : Cond.methodLink RX2 27 yX5_sayOf ∈ TB := mT5 116 rfl rfl
theorem flX2_31 : fLk RX2 31 5 1 := ⟨RX5, TX5, 2, rfl, by decide, Or.inl (mT2 103 rfl rfl)⟩
theorem flX2_35 : fLk RX2 35 7 0 := ⟨RX7, TX7, 20, rfl, by decide, Or.inl (mT1 93 rfl rfl)⟩
theorem flX2_41 : fLk RX2 41 7 14 := ⟨RX7, TX7, 20, rfl, by decide, Or.inl (mT1 151 rfl rfl)⟩
theorem lkX2_45 : Cond.methodLink RX2 45 yX2_gain ∈ TB := mT5 133 rfl rfl
theorem lkX2_48 : Cond.methodLink RX2 48 Lib.Math.max.name ∈ TB := mT5 134 rfl rfl
theorem flX2_53 : fLk RX2 53 7 15 := ⟨RX7, TX7, 20, rfl, by decide, Or.inl (mT1 162 rfl rfl)⟩
theorem lkX2_56 : Cond.methodLink RX2 56 Lib.Math.min.name ∈ TB := mT5 135 rfl rfl
theorem lkX2_59 : Cond.methodLink RX2 59 yX2_mostBy ∈ TB := mT5 129 rfl rfl
theorem lkX2_62 : Cond.methodLink RX2 62 yX2_leastFor ∈ TB := mT5 144 rfl rfl
theorem lkX2_65 : Cond.methodLink RX2 65 yX2_leastOfMost ∈ TB := mT5 156 rfl rfl
theorem oiX3_3 : Cond.methodLink RX3 3 objectInit ∈ TB := mT2 143 rfl rfl
theorem flX3_9 : fLk RX3 9 3 1 := ⟨RX3, TX3, 9, rfl, by decide, Or.inl (mT2 145 rfl rfl)⟩
theorem fqX3_9 {M : MD} (h : M.1.cls = RX3) (hn : M.1.name = "<init>") : fPk M 9 3 1 := ⟨RX3, TX3, 9, rfl, by decide, Or.inr (Or.inr ⟨by rw [h]; exact mT2 145 rfl rfl, rfl, hn, by rw [h]; rfl⟩)⟩
theorem flX3_15 : fLk RX3 15 3 2 := ⟨RX3, TX3, 9, rfl, by decide, Or.inl (mT2 146 rfl rfl)⟩
theorem fqX3_15 {M : MD} (h : M.1.cls = RX3) (hn : M.1.name = "<init>") : fPk M 15 3 2 := ⟨RX3, TX3, 9, rfl, by decide, Or.inr (Or.inr ⟨by rw [h]; exact mT2 146 rfl rfl, rfl, hn, by rw [h]; rfl⟩)⟩
theorem flX3_18 : fLk RX3 18 3 3 := ⟨RX3, TX3, 9, rfl, by decide, Or.inl (mT2 147 rfl rfl)⟩
theorem fqX3_18 {M : MD} (h : M.1.cls = RX3) (hn : M.1.name = "<init>") : fPk M 18 3 3 := ⟨RX3, TX3, 9, rfl, by decide, Or.inr (Or.inr ⟨by rw [h]; exact mT2 147 rfl rfl, rfl, hn, by rw [h]; rfl⟩)⟩
theorem flX3_21 : fLk RX3 21 3 4 := ⟨RX3, TX3, 9, rfl, by decide, Or.inl (mT2 148 rfl rfl)⟩
theorem fqX3_21 {M : MD} (h : M.1.cls = RX3) (hn : M.1.name = "<init>") : fPk M 21 3 4 := ⟨RX3, TX3, 9, rfl, by decide, Or.inr (Or.inr ⟨by rw [h]; exact mT2 148 rfl rfl, rfl, hn, by rw [h]; rfl⟩)⟩
theorem flX3_24 : fLk RX3 24 3 5 := ⟨RX3, TX3, 9, rfl, by decide, Or.inl (mT2 149 rfl rfl)⟩
theorem fqX3_24 {M : MD} (h : M.1.cls = RX3) (hn : M.1.name = "<init>") : fPk M 24 3 5 := ⟨RX3, TX3, 9, rfl, by decide, Or.inr (Or.inr ⟨by rw [h]; exact mT2 149 rfl rfl, rfl, hn, by rw [h]; rfl⟩)⟩
theorem flX3_27 : fLk RX3 27 3 6 := ⟨RX3, TX3, 9, rfl, by decide, Or.inl (mT2 150 rfl rfl)⟩
theorem fqX3_27 {M : MD} (h : M.1.cls = RX3) (hn : M.1.name = "<init>") : fPk M 27 3 6 := ⟨RX3, TX3, 9, rfl, by decide, Or.inr (Or.inr ⟨by rw [h]; exact mT2 150 rfl rfl, rfl, hn, by rw [h]; rfl⟩)⟩
theorem flX3_30 : fLk RX3 30 3 0 := ⟨RX3, TX3, 9, rfl, by decide, Or.inl (mT2 144 rfl rfl)⟩
theorem fqX3_30 {M : MD} (h : M.1.cls = RX3) (hn : M.1.name = "<init>") : fPk M 30 3 0 := ⟨RX3, TX3, 9, rfl, by decide, Or.inr (Or.inr ⟨by rw [h]; exact mT2 144 rfl rfl, rfl, hn, by rw [h]; rfl⟩)⟩
theorem lkX3_34 : Cond.methodLink RX3 34 yX3_mostWants ∈ TB := mT4 150 rfl rfl
theorem flX3_38 : fLk RX3 38 5 1 := ⟨RX5, TX5, 2, rfl, by decide, Or.inl (mT2 105 rfl rfl)⟩
theorem flX3_44 : fLk RX3 44 7 15 := ⟨RX7, TX7, 20, rfl, by decide, Or.inl (mT1 160 rfl rfl)⟩
theorem lkX3_50 : Cond.methodLink RX3 50 yX3_setRooms ∈ TB := mT4 102 rfl rfl
theorem lkX3_54 : Cond.methodLink RX3 54 yX3_setFits ∈ TB := mT4 107 rfl rfl
theorem lkX3_57 : Cond.methodLink RX3 57 yX3_mostThatCanBe ∈ TB := mT4 118 rfl rfl
theorem flX3_61 : fLk RX3 61 3 8 := ⟨RX3, TX3, 9, rfl, by decide, Or.inl (mT2 152 rfl rfl)⟩
theorem fpX3_61 {M : MD} (h : M.1.cls = RX3) : fPk M 61 3 8 := ⟨RX3, TX3, 9, rfl, by decide, Or.inl ⟨by rw [h]; exact mT2 152 rfl rfl, rfl⟩⟩
theorem flX3_64 : fLk RX3 64 3 7 := ⟨RX3, TX3, 9, rfl, by decide, Or.inl (mT2 151 rfl rfl)⟩
theorem fpX3_64 {M : MD} (h : M.1.cls = RX3) : fPk M 64 3 7 := ⟨RX3, TX3, 9, rfl, by decide, Or.inl ⟨by rw [h]; exact mT2 151 rfl rfl, rfl⟩⟩
theorem lkX3_67 : Cond.methodLink RX3 67 yX3_tryPaper ∈ TB := mT4 125 rfl rfl
theorem flX3_71 : fLk RX3 71 5 0 := ⟨RX5, TX5, 2, rfl, by decide, Or.inl (mT2 97 rfl rfl)⟩
theorem lkX3_75 : Cond.methodLink RX3 75 yX4_inkOf ∈ TB := mT4 106 rfl rfl
theorem flX3_81 : fLk RX3 81 7 17 := ⟨RX7, TX7, 20, rfl, by decide, Or.inl (mT1 173 rfl rfl)⟩
theorem flX3_84 : fLk RX3 84 7 14 := ⟨RX7, TX7, 20, rfl, by decide, Or.inl (mT1 154 rfl rfl)⟩
theorem flX3_87 : fLk RX3 87 7 1 := ⟨RX7, TX7, 20, rfl, by decide, Or.inl (mT1 98 rfl rfl)⟩
theorem lkX3_90 : Cond.methodLink RX3 90 yX3_pairsThatPrint ∈ TB := mT4 111 rfl rfl
theorem lkX3_93 : Cond.methodLink RX3 93 yX4_marksOf ∈ TB := mT4 115 rfl rfl
theorem lkX3_96 : Cond.methodLink RX3 96 yX5_sayOf ∈ TB := mT4 116 rfl rfl
theorem lkX3_99 : Cond.methodLink RX3 99 yX5_printBy ∈ TB := mT4 117 rfl rfl
theorem lkX3_102 : Cond.methodLink RX3 102 Lib.Math.min.name ∈ TB := mT4 122 rfl rfl
theorem lkX3_107 : Cond.methodLink RX3 107 yX3_keepTried ∈ TB := mT4 129 rfl rfl
theorem lkX3_110 : Cond.methodLink RX3 110 yX3_canPress ∈ TB := mT4 133 rfl rfl
theorem lkX3_114 : Cond.methodLink RX3 114 yX3_tryPair ∈ TB := mT4 138 rfl rfl
theorem lnX3_118 : Cond.methodLinkNest RX3 118 yX11_hasBit "StampViews" ∈ nestW := mNw 8 (by decide +kernel)
theorem oiX4_5 : Cond.methodLink RX4 5 objectInit ∈ TB := mT1 78 rfl rfl
theorem flX4_11 : fLk RX4 11 4 0 := ⟨RX4, TX4, 1, rfl, by decide, Or.inl (mT1 79 rfl rfl)⟩
theorem fqX4_11 {M : MD} (h : M.1.cls = RX4) (hn : M.1.name = "<init>") : fPk M 11 4 0 := ⟨RX4, TX4, 1, rfl, by decide, Or.inr (Or.inr ⟨by rw [h]; exact mT1 79 rfl rfl, rfl, hn, by rw [h]; rfl⟩)⟩
theorem lkX4_15 : Cond.methodLink RX4 15 yX4_pressesOfHand ∈ TB := mT6 53 rfl rfl
theorem oiX5_3 : Cond.methodLink RX5 3 objectInit ∈ TB := mT2 90 rfl rfl
theorem nlX5_9 : nLk RX5 9 4 := ⟨RX4, TX4, 1, rfl, mT2 91 rfl rfl, mT1 74 rfl rfl, mT1 4 rfl rfl⟩
theorem lnX5_11 : Cond.methodLinkNest RX5 11 yX4_init "StampViews" ∈ nestW := mNw 4 (by decide +kernel)
theorem flX5_12 : fLk RX5 12 5 0 := ⟨RX5, TX5, 2, rfl, by decide, Or.inl (mT2 95 rfl rfl)⟩
theorem fqX5_12 {M : MD} (h : M.1.cls = RX5) (hn : M.1.name = "<init>") : fPk M 12 5 0 := ⟨RX5, TX5, 2, rfl, by decide, Or.inr (Or.inr ⟨by rw [h]; exact mT2 95 rfl rfl, rfl, hn, by rw [h]; rfl⟩)⟩
theorem nlX5_18 : nLk RX5 18 7 := ⟨RX7, TX7, 20, rfl, mT2 93 rfl rfl, mT1 87 rfl rfl, mT1 5 rfl rfl⟩
theorem lnX5_20 : Cond.methodLinkNest RX5 20 yX7_init "StampViews" ∈ nestW := mNw 5 (by decide +kernel)
theorem flX5_21 : fLk RX5 21 5 1 := ⟨RX5, TX5, 2, rfl, by decide, Or.inl (mT2 100 rfl rfl)⟩
theorem fpX5_21 {M : MD} (h : M.1.cls = RX5) : fPk M 21 5 1 := ⟨RX5, TX5, 2, rfl, by decide, Or.inl ⟨by rw [h]; exact mT2 100 rfl rfl, rfl⟩⟩
theorem flX5_25 : fLk RX5 25 7 13 := ⟨RX7, TX7, 20, rfl, by decide, Or.inl (mT1 144 rfl rfl)⟩
theorem flX5_29 : fLk RX5 29 7 14 := ⟨RX7, TX7, 20, rfl, by decide, Or.inl (mT1 150 rfl rfl)⟩
theorem flX5_32 : fLk RX5 32 7 15 := ⟨RX7, TX7, 20, rfl, by decide, Or.inl (mT1 161 rfl rfl)⟩
theorem flX5_35 : fLk RX5 35 7 17 := ⟨RX7, TX7, 20, rfl, by decide, Or.inl (mT1 172 rfl rfl)⟩
theorem flX5_38 : fLk RX5 38 7 16 := ⟨RX7, TX7, 20, rfl, by decide, Or.inl (mT1 167 rfl rfl)⟩
theorem lkX5_41 : Cond.methodLink RX5 41 yX5_hasStamp ∈ TB := mT4 59 rfl rfl
theorem lkX5_45 : Cond.methodLink RX5 45 yX5_hasHand ∈ TB := mT4 60 rfl rfl
theorem lkX5_48 : Cond.methodLink RX5 48 yX5_hasPaper ∈ TB := mT4 61 rfl rfl
theorem flX5_51 : fLk RX5 51 7 4 := ⟨RX7, TX7, 20, rfl, by decide, Or.inl (mT1 110 rfl rfl)⟩
theorem flX5_55 : fLk RX5 55 7 5 := ⟨RX7, TX7, 20, rfl, by decide, Or.inl (mT1 114 rfl rfl)⟩
theorem flX5_58 : fLk RX5 58 7 6 := ⟨RX7, TX7, 20, rfl, by decide, Or.inl (mT1 118 rfl rfl)⟩
theorem lkX5_61 : Cond.methodLink RX5 61 yX5_firstRule ∈ TB := mT4 32 rfl rfl
theorem lkX5_65 : Cond.methodLink RX5 65 yX4_verdictOf ∈ TB := mT4 36 rfl rfl
theorem flX5_69 : fLk RX5 69 7 2 := ⟨RX7, TX7, 20, rfl, by decide, Or.inl (mT1 104 rfl rfl)⟩
theorem lkX5_72 : Cond.methodLink RX5 72 yX4_marksOf ∈ TB := mT4 27 rfl rfl
theorem lkX5_75 : Cond.methodLink RX5 75 yX5_sayOf ∈ TB := mT4 28 rfl rfl
theorem flX5_78 : fLk RX5 78 7 7 := ⟨RX7, TX7, 20, rfl, by decide, Or.inl (mT1 124 rfl rfl)⟩
theorem flX5_81 : fLk RX5 81 7 8 := ⟨RX7, TX7, 20, rfl, by decide, Or.inl (mT1 129 rfl rfl)⟩
theorem lkX5_84 : Cond.methodLink RX5 84 yX5_printBy ∈ TB := mT4 206 rfl rfl
theorem flX5_87 : fLk RX5 87 7 0 := ⟨RX7, TX7, 20, rfl, by decide, Or.inl (mT1 96 rfl rfl)⟩
theorem lkX5_90 : Cond.methodLink RX5 90 yX5_sayOn ∈ TB := mT5 178 rfl rfl
theorem lkX5_93 : Cond.methodLink RX5 93 yX5_hundredths ∈ TB := mT5 179 rfl rfl
theorem lkX5_97 : Cond.methodLink RX5 97 yX7_markSets ∈ TB := mT4 85 rfl rfl
theorem lkX5_101 : Cond.methodLink RX5 101 yX5_isFewer ∈ TB := mT4 167 rfl rfl
theorem lkX5_105 : Cond.methodLink RX5 105 yX5_stampsThatSay ∈ TB := mT4 176 rfl rfl
theorem lkX5_108 : Cond.methodLink RX5 108 yJ6_bitCount_0f7a4 ∈ TB := mT4 170 rfl rfl
theorem oiX6_1 : Cond.methodLink RX6 1 objectInit ∈ TB := mT2 117 rfl rfl
theorem flX6_13 : fLk RX6 13 6 0 := ⟨RX6, TX6, 5, rfl, by decide, Or.inl (mT2 120 rfl rfl)⟩
theorem fqX6_13 {M : MD} (h : M.1.cls = RX6) (hn : M.1.name = "<init>") : fPk M 13 6 0 := ⟨RX6, TX6, 5, rfl, by decide, Or.inr (Or.inr ⟨by rw [h]; exact mT2 120 rfl rfl, rfl, hn, by rw [h]; rfl⟩)⟩
theorem flX6_16 : fLk RX6 16 6 1 := ⟨RX6, TX6, 5, rfl, by decide, Or.inl (mT2 121 rfl rfl)⟩
theorem fqX6_16 {M : MD} (h : M.1.cls = RX6) (hn : M.1.name = "<init>") : fPk M 16 6 1 := ⟨RX6, TX6, 5, rfl, by decide, Or.inr (Or.inr ⟨by rw [h]; exact mT2 121 rfl rfl, rfl, hn, by rw [h]; rfl⟩)⟩
theorem flX6_19 : fLk RX6 19 6 3 := ⟨RX6, TX6, 5, rfl, by decide, Or.inl (mT2 123 rfl rfl)⟩
theorem fpX6_19 {M : MD} (h : M.1.cls = RX6) : fPk M 19 6 3 := ⟨RX6, TX6, 5, rfl, by decide, Or.inl ⟨by rw [h]; exact mT2 123 rfl rfl, rfl⟩⟩
theorem flX6_23 : fLk RX6 23 6 4 := ⟨RX6, TX6, 5, rfl, by decide, Or.inl (mT2 125 rfl rfl)⟩
theorem fpX6_23 {M : MD} (h : M.1.cls = RX6) : fPk M 23 6 4 := ⟨RX6, TX6, 5, rfl, by decide, Or.inl ⟨by rw [h]; exact mT2 125 rfl rfl, rfl⟩⟩
theorem flX6_26 : fLk RX6 26 6 2 := ⟨RX6, TX6, 5, rfl, by decide, Or.inl (mT2 122 rfl rfl)⟩
theorem lkX6_29 : Cond.methodLink RX6 29 yX4_copyTo ∈ TB := mT5 220 rfl rfl
theorem fpX6_26 {M : MD} (h : M.1.cls = RX6) : fPk M 26 6 2 := ⟨RX6, TX6, 5, rfl, by decide, Or.inl ⟨by rw [h]; exact mT2 122 rfl rfl, rfl⟩⟩
theorem lkX6_33 : Cond.methodLink RX6 33 yX4_copyFrom ∈ TB := mT6 24 rfl rfl
theorem oiX7_3 : Cond.methodLink RX7 3 objectInit ∈ TB := mT1 91 rfl rfl
theorem flX7_9 : fLk RX7 9 7 0 := ⟨RX7, TX7, 20, rfl, by decide, Or.inl (mT1 92 rfl rfl)⟩
theorem fqX7_9 {M : MD} (h : M.1.cls = RX7) (hn : M.1.name = "<init>") : fPk M 9 7 0 := ⟨RX7, TX7, 20, rfl, by decide, Or.inr (Or.inr ⟨by rw [h]; exact mT1 92 rfl rfl, rfl, hn, by rw [h]; rfl⟩)⟩
theorem flX7_15 : fLk RX7 15 7 1 := ⟨RX7, TX7, 20, rfl, by decide, Or.inl (mT1 97 rfl rfl)⟩
theorem fqX7_15 {M : MD} (h : M.1.cls = RX7) (hn : M.1.name = "<init>") : fPk M 15 7 1 := ⟨RX7, TX7, 20, rfl, by decide, Or.inr (Or.inr ⟨by rw [h]; exact mT1 97 rfl rfl, rfl, hn, by rw [h]; rfl⟩)⟩
theorem flX7_18 : fLk RX7 18 7 2 := ⟨RX7, TX7, 20, rfl, by decide, Or.inl (mT1 101 rfl rfl)⟩
theorem fqX7_18 {M : MD} (h : M.1.cls = RX7) (hn : M.1.name = "<init>") : fPk M 18 7 2 := ⟨RX7, TX7, 20, rfl, by decide, Or.inr (Or.inr ⟨by rw [h]; exact mT1 101 rfl rfl, rfl, hn, by rw [h]; rfl⟩)⟩
theorem flX7_21 : fLk RX7 21 7 3 := ⟨RX7, TX7, 20, rfl, by decide, Or.inl (mT1 105 rfl rfl)⟩
theorem fqX7_21 {M : MD} (h : M.1.cls = RX7) (hn : M.1.name = "<init>") : fPk M 21 7 3 := ⟨RX7, TX7, 20, rfl, by decide, Or.inr (Or.inr ⟨by rw [h]; exact mT1 105 rfl rfl, rfl, hn, by rw [h]; rfl⟩)⟩
theorem flX7_24 : fLk RX7 24 7 4 := ⟨RX7, TX7, 20, rfl, by decide, Or.inl (mT1 109 rfl rfl)⟩
theorem fqX7_24 {M : MD} (h : M.1.cls = RX7) (hn : M.1.name = "<init>") : fPk M 24 7 4 := ⟨RX7, TX7, 20, rfl, by decide, Or.inr (Or.inr ⟨by rw [h]; exact mT1 109 rfl rfl, rfl, hn, by rw [h]; rfl⟩)⟩
theorem flX7_27 : fLk RX7 27 7 5 := ⟨RX7, TX7, 20, rfl, by decide, Or.inl (mT1 113 rfl rfl)⟩
theorem fqX7_27 {M : MD} (h : M.1.cls = RX7) (hn : M.1.name = "<init>") : fPk M 27 7 5 := ⟨RX7, TX7, 20, rfl, by decide, Or.inr (Or.inr ⟨by rw [h]; exact mT1 113 rfl rfl, rfl, hn, by rw [h]; rfl⟩)⟩
theorem flX7_30 : fLk RX7 30 7 6 := ⟨RX7, TX7, 20, rfl, by decide, Or.inl (mT1 117 rfl rfl)⟩
theorem fqX7_30 {M : MD} (h : M.1.cls = RX7) (hn : M.1.name = "<init>") : fPk M 30 7 6 := ⟨RX7, TX7, 20, rfl, by decide, Or.inr (Or.inr ⟨by rw [h]; exact mT1 117 rfl rfl, rfl, hn, by rw [h]; rfl⟩)⟩
theorem flX7_33 : fLk RX7 33 7 7 := ⟨RX7, TX7, 20, rfl, by decide, Or.inl (mT1 121 rfl rfl)⟩
theorem fqX7_33 {M : MD} (h : M.1.cls = RX7) (hn : M.1.name = "<init>") : fPk M 33 7 7 := ⟨RX7, TX7, 20, rfl, by decide, Or.inr (Or.inr ⟨by rw [h]; exact mT1 121 rfl rfl, rfl, hn, by rw [h]; rfl⟩)⟩
theorem flX7_36 : fLk RX7 36 7 8 := ⟨RX7, TX7, 20, rfl, by decide, Or.inl (mT1 125 rfl rfl)⟩
theorem fqX7_36 {M : MD} (h : M.1.cls = RX7) (hn : M.1.name = "<init>") : fPk M 36 7 8 := ⟨RX7, TX7, 20, rfl, by decide, Or.inr (Or.inr ⟨by rw [h]; exact mT1 125 rfl rfl, rfl, hn, by rw [h]; rfl⟩)⟩
theorem flX7_39 : fLk RX7 39 7 9 := ⟨RX7, TX7, 20, rfl, by decide, Or.inl (mT1 130 rfl rfl)⟩
theorem fqX7_39 {M : MD} (h : M.1.cls = RX7) (hn : M.1.name = "<init>") : fPk M 39 7 9 := ⟨RX7, TX7, 20, rfl, by decide, Or.inr (Or.inr ⟨by rw [h]; exact mT1 130 rfl rfl, rfl, hn, by rw [h]; rfl⟩)⟩
theorem flX7_42 : fLk RX7 42 7 10 := ⟨RX7, TX7, 20, rfl, by decide, Or.inl (mT1 133 rfl rfl)⟩
theorem fqX7_42 {M : MD} (h : M.1.cls = RX7) (hn : M.1.name = "<init>") : fPk M 42 7 10 := ⟨RX7, TX7, 20, rfl, by decide, Or.inr (Or.inr ⟨by rw [h]; exact mT1 133 rfl rfl, rfl, hn, by rw [h]; rfl⟩)⟩
theorem flX7_45 : fLk RX7 45 7 11 := ⟨RX7, TX7, 20, rfl, by decide, Or.inl (mT1 136 rfl rfl)⟩
theorem fqX7_45 {M : MD} (h : M.1.cls = RX7) (hn : M.1.name = "<init>") : fPk M 45 7 11 := ⟨RX7, TX7, 20, rfl, by decide, Or.inr (Or.inr ⟨by rw [h]; exact mT1 136 rfl rfl, rfl, hn, by rw [h]; rfl⟩)⟩
theorem flX7_48 : fLk RX7 48 7 12 := ⟨RX7, TX7, 20, rfl, by decide, Or.inl (mT1 139 rfl rfl)⟩
theorem fpX7_48 {M : MD} (h : M.1.cls = RX7) : fPk M 48 7 12 := ⟨RX7, TX7, 20, rfl, by decide, Or.inl ⟨by rw [h]; exact mT1 139 rfl rfl, rfl⟩⟩
theorem flX7_52 : fLk RX7 52 7 13 := ⟨RX7, TX7, 20, rfl, by decide, Or.inl (mT1 143 rfl rfl)⟩
theorem fpX7_52 {M : MD} (h : M.1.cls = RX7) : fPk M 52 7 13 := ⟨RX7, TX7, 20, rfl, by decide, Or.inl ⟨by rw [h]; exact mT1 143 rfl rfl, rfl⟩⟩
theorem flX7_55 : fLk RX7 55 7 14 := ⟨RX7, TX7, 20, rfl, by decide, Or.inl (mT1 148 rfl rfl)⟩
theorem fpX7_55 {M : MD} (h : M.1.cls = RX7) : fPk M 55 7 14 := ⟨RX7, TX7, 20, rfl, by decide, Or.inl ⟨by rw [h]; exact mT1 148 rfl rfl, rfl⟩⟩
theorem flX7_58 : fLk RX7 58 7 15 := ⟨RX7, TX7, 20, rfl, by decide, Or.inl (mT1 157 rfl rfl)⟩
theorem fpX7_58 {M : MD} (h : M.1.cls = RX7) : fPk M 58 7 15 := ⟨RX7, TX7, 20, rfl, by decide, Or.inl ⟨by rw [h]; exact mT1 157 rfl rfl, rfl⟩⟩
theorem flX7_61 : fLk RX7 61 7 16 := ⟨RX7, TX7, 20, rfl, by decide, Or.inl (mT1 165 rfl rfl)⟩
theorem fpX7_61 {M : MD} (h : M.1.cls = RX7) : fPk M 61 7 16 := ⟨RX7, TX7, 20, rfl, by decide, Or.inl ⟨by rw [h]; exact mT1 165 rfl rfl, rfl⟩⟩
theorem flX7_64 : fLk RX7 64 7 17 := ⟨RX7, TX7, 20, rfl, by decide, Or.inl (mT1 169 rfl rfl)⟩
theorem fpX7_64 {M : MD} (h : M.1.cls = RX7) : fPk M 64 7 17 := ⟨RX7, TX7, 20, rfl, by decide, Or.inl ⟨by rw [h]; exact mT1 169 rfl rfl, rfl⟩⟩
theorem flX7_67 : fLk RX7 67 7 18 := ⟨RX7, TX7, 20, rfl, by decide, Or.inl (mT1 175 rfl rfl)⟩
theorem fpX7_67 {M : MD} (h : M.1.cls = RX7) : fPk M 67 7 18 := ⟨RX7, TX7, 20, rfl, by decide, Or.inl ⟨by rw [h]; exact mT1 175 rfl rfl, rfl⟩⟩
theorem flX7_70 : fLk RX7 70 7 19 := ⟨RX7, TX7, 20, rfl, by decide, Or.inl (mT1 179 rfl rfl)⟩
theorem fpX7_70 {M : MD} (h : M.1.cls = RX7) : fPk M 70 7 19 := ⟨RX7, TX7, 20, rfl, by decide, Or.inl ⟨by rw [h]; exact mT1 179 rfl rfl, rfl⟩⟩
theorem oiX8_3 : Cond.methodLink RX8 3 objectInit ∈ TB := mT1 72 rfl rfl
theorem flX8_9 : fLk RX8 9 8 1 := ⟨RX8, TX8, 14, rfl, by decide, Or.inl (mT2 39 rfl rfl)⟩
theorem fqX8_9 {M : MD} (h : M.1.cls = RX8) (hn : M.1.name = "<init>") : fPk M 9 8 1 := ⟨RX8, TX8, 14, rfl, by decide, Or.inr (Or.inr ⟨by rw [h]; exact mT2 39 rfl rfl, rfl, hn, by rw [h]; rfl⟩)⟩
theorem flX8_15 : fLk RX8 15 8 2 := ⟨RX8, TX8, 14, rfl, by decide, Or.inl (mT2 40 rfl rfl)⟩
theorem fqX8_15 {M : MD} (h : M.1.cls = RX8) (hn : M.1.name = "<init>") : fPk M 15 8 2 := ⟨RX8, TX8, 14, rfl, by decide, Or.inr (Or.inr ⟨by rw [h]; exact mT2 40 rfl rfl, rfl, hn, by rw [h]; rfl⟩)⟩
theorem flX8_18 : fLk RX8 18 8 3 := ⟨RX8, TX8, 14, rfl, by decide, Or.inl (mT2 41 rfl rfl)⟩
theorem fqX8_18 {M : MD} (h : M.1.cls = RX8) (hn : M.1.name = "<init>") : fPk M 18 8 3 := ⟨RX8, TX8, 14, rfl, by decide, Or.inr (Or.inr ⟨by rw [h]; exact mT2 41 rfl rfl, rfl, hn, by rw [h]; rfl⟩)⟩
theorem flX8_21 : fLk RX8 21 8 4 := ⟨RX8, TX8, 14, rfl, by decide, Or.inl (mT2 42 rfl rfl)⟩
theorem fqX8_21 {M : MD} (h : M.1.cls = RX8) (hn : M.1.name = "<init>") : fPk M 21 8 4 := ⟨RX8, TX8, 14, rfl, by decide, Or.inr (Or.inr ⟨by rw [h]; exact mT2 42 rfl rfl, rfl, hn, by rw [h]; rfl⟩)⟩
theorem nlX8_24 : nLk RX8 24 4 := ⟨RX4, TX4, 1, rfl, mT1 73 rfl rfl, mT1 74 rfl rfl, mT1 4 rfl rfl⟩
theorem lnX8_26 : Cond.methodLinkNest RX8 26 yX4_init "StampViews" ∈ nestW := mNw 1 (by decide +kernel)
theorem flX8_27 : fLk RX8 27 8 5 := ⟨RX8, TX8, 14, rfl, by decide, Or.inl (mT2 43 rfl rfl)⟩
theorem fqX8_27 {M : MD} (h : M.1.cls = RX8) (hn : M.1.name = "<init>") : fPk M 27 8 5 := ⟨RX8, TX8, 14, rfl, by decide, Or.inr (Or.inr ⟨by rw [h]; exact mT2 43 rfl rfl, rfl, hn, by rw [h]; rfl⟩)⟩
theorem flX8_31 : fLk RX8 31 8 6 := ⟨RX8, TX8, 14, rfl, by decide, Or.inl (mT2 45 rfl rfl)⟩
theorem fqX8_31 {M : MD} (h : M.1.cls = RX8) (hn : M.1.name = "<init>") : fPk M 31 8 6 := ⟨RX8, TX8, 14, rfl, by decide, Or.inr (Or.inr ⟨by rw [h]; exact mT2 45 rfl rfl, rfl, hn, by rw [h]; rfl⟩)⟩
theorem flX8_34 : fLk RX8 34 8 7 := ⟨RX8, TX8, 14, rfl, by decide, Or.inl (mT2 46 rfl rfl)⟩
theorem fqX8_34 {M : MD} (h : M.1.cls = RX8) (hn : M.1.name = "<init>") : fPk M 34 8 7 := ⟨RX8, TX8, 14, rfl, by decide, Or.inr (Or.inr ⟨by rw [h]; exact mT2 46 rfl rfl, rfl, hn, by rw [h]; rfl⟩)⟩
theorem flX8_38 : fLk RX8 38 8 8 := ⟨RX8, TX8, 14, rfl, by decide, Or.inl (mT2 47 rfl rfl)⟩
theorem fqX8_38 {M : MD} (h : M.1.cls = RX8) (hn : M.1.name = "<init>") : fPk M 38 8 8 := ⟨RX8, TX8, 14, rfl, by decide, Or.inr (Or.inr ⟨by rw [h]; exact mT2 47 rfl rfl, rfl, hn, by rw [h]; rfl⟩)⟩
theorem nlX8_41 : nLk RX8 41 7 := ⟨RX7, TX7, 20, rfl, mT1 86 rfl rfl, mT1 87 rfl rfl, mT1 5 rfl rfl⟩
theorem lnX8_43 : Cond.methodLinkNest RX8 43 yX7_init "StampViews" ∈ nestW := mNw 2 (by decide +kernel)
theorem flX8_44 : fLk RX8 44 8 9 := ⟨RX8, TX8, 14, rfl, by decide, Or.inl (mT2 48 rfl rfl)⟩
theorem fpX8_44 {M : MD} (h : M.1.cls = RX8) : fPk M 44 8 9 := ⟨RX8, TX8, 14, rfl, by decide, Or.inl ⟨by rw [h]; exact mT2 48 rfl rfl, rfl⟩⟩
theorem flX8_48 : fLk RX8 48 8 0 := ⟨RX8, TX8, 14, rfl, by decide, Or.inl (mT2 38 rfl rfl)⟩
theorem fqX8_48 {M : MD} (h : M.1.cls = RX8) (hn : M.1.name = "<init>") : fPk M 48 8 0 := ⟨RX8, TX8, 14, rfl, by decide, Or.inr (Or.inr ⟨by rw [h]; exact mT2 38 rfl rfl, rfl, hn, by rw [h]; rfl⟩)⟩
theorem lkX8_54 : Cond.methodLink RX8 54 yX10_spellAll ∈ TB := mT1 224 rfl rfl
theorem lkX8_66 : Cond.methodLink RX8 66 yX7_empty ∈ TB := mT3 51 rfl rfl
theorem lkX8_69 : Cond.methodLink RX8 69 yX4_empty ∈ TB := mT3 55 rfl rfl
theorem flX8_70 : fLk RX8 70 8 10 := ⟨RX8, TX8, 14, rfl, by decide, Or.inl (mT2 50 rfl rfl)⟩
theorem fpX8_70 {M : MD} (h : M.1.cls = RX8) : fPk M 70 8 10 := ⟨RX8, TX8, 14, rfl, by decide, Or.inl ⟨by rw [h]; exact mT2 50 rfl rfl, rfl⟩⟩
theorem flX8_74 : fLk RX8 74 8 11 := ⟨RX8, TX8, 14, rfl, by decide, Or.inl (mT2 51 rfl rfl)⟩
theorem fpX8_74 {M : MD} (h : M.1.cls = RX8) : fPk M 74 8 11 := ⟨RX8, TX8, 14, rfl, by decide, Or.inl ⟨by rw [h]; exact mT2 51 rfl rfl, rfl⟩⟩
theorem flX8_78 : fLk RX8 78 8 12 := ⟨RX8, TX8, 14, rfl, by decide, Or.inl (mT2 52 rfl rfl)⟩
theorem fpX8_78 {M : MD} (h : M.1.cls = RX8) : fPk M 78 8 12 := ⟨RX8, TX8, 14, rfl, by decide, Or.inl ⟨by rw [h]; exact mT2 52 rfl rfl, rfl⟩⟩
