theorem gq_in {w : Cond} {l : List Cond} (s : ∀ x, x ∈ l → x ∈ lw_tbl) (j : Nat) (h : l[j]? = some w) (hg : goodWord w = true) : w ∈ g_tb := List.mem_filter.mpr ⟨s w (List.mem_of_getElem? h), hg⟩
theorem gq_s1 : ∀ x, x ∈ tables_1_1 → x ∈ lw_tbl := fun x hx => List.mem_append_right _ (show x ∈ tables_1 from List.mem_append_left _ hx)
theorem gq_s2 : ∀ x, x ∈ tables_1_2 → x ∈ lw_tbl := fun x hx => List.mem_append_right _ (show x ∈ tables_1 from List.mem_append_right _ (List.mem_append_left _ hx))
theorem gq_s3 : ∀ x, x ∈ tables_1_3 → x ∈ lw_tbl := fun x hx => List.mem_append_right _ (show x ∈ tables_1 from List.mem_append_right _ (List.mem_append_right _ (List.mem_append_left _ hx)))
theorem gq_s4 : ∀ x, x ∈ tables_1_4 → x ∈ lw_tbl := fun x hx => List.mem_append_right _ (show x ∈ tables_1 from List.mem_append_right _ (List.mem_append_right _ (List.mem_append_right _ (List.mem_append_left _ hx))))
theorem gq_s5 : ∀ x, x ∈ tables_1_5 → x ∈ lw_tbl := fun x hx => List.mem_append_right _ (show x ∈ tables_1 from List.mem_append_right _ (List.mem_append_right _ (List.mem_append_right _ (List.mem_append_right _ (List.mem_append_left _ hx)))))
theorem gq_s6 : ∀ x, x ∈ tables_1_6 → x ∈ lw_tbl := fun x hx => List.mem_append_right _ (show x ∈ tables_1 from List.mem_append_right _ (List.mem_append_right _ (List.mem_append_right _ (List.mem_append_right _ (List.mem_append_right _ (List.mem_append_left _ hx))))))
theorem gq_s7 : ∀ x, x ∈ tables_1_7 → x ∈ lw_tbl := fun x hx => List.mem_append_right _ (show x ∈ tables_1 from List.mem_append_right _ (List.mem_append_right _ (List.mem_append_right _ (List.mem_append_right _ (List.mem_append_right _ (List.mem_append_right _ (hx)))))))
theorem m_0 : Cond.selects RX9 yX9_byteAt yX9_byteAt ∈ g_tb := g_in 0 (by decide +kernel) rfl
theorem m_1 : Cond.selects RX9 yX9_endOfRun yX9_endOfRun ∈ g_tb := g_in 1 (by decide +kernel) rfl
theorem m_2 : Cond.selects RX9 yX9_wordKind yX9_wordKind ∈ g_tb := g_in 2 (by decide +kernel) rfl
theorem m_3 : Cond.selects RX9 yX9_add yX9_add ∈ g_tb := g_in 3 (by decide +kernel) rfl
theorem m_4 : Cond.selects RX9 yX9_valueOf yX9_valueOf ∈ g_tb := g_in 4 (by decide +kernel) rfl
theorem m_5 : Cond.selects RX2 yX2_readClause yX2_readClause ∈ g_tb := g_in 5 (by decide +kernel) rfl
theorem m_6 : Cond.selects RX2 yX2_isFull yX2_isFull ∈ g_tb := g_in 6 (by decide +kernel) rfl
theorem m_7 : Cond.selects RX2 yX2_readNumbers yX2_readNumbers ∈ g_tb := g_in 7 (by decide +kernel) rfl
theorem m_8 : Cond.selects RX2 yX2_readThing yX2_readThing ∈ g_tb := g_in 8 (by decide +kernel) rfl
theorem m_9 : Cond.selects RX2 yX2_readHeir yX2_readHeir ∈ g_tb := g_in 9 (by decide +kernel) rfl
theorem m_10 : Cond.selects RX2 yX2_readCousins yX2_readCousins ∈ g_tb := g_in 10 (by decide +kernel) rfl
theorem m_11 : Cond.selects RX2 yX2_readKnows yX2_readKnows ∈ g_tb := g_in 11 (by decide +kernel) rfl
theorem m_12 : Cond.selects RX7 yX7_readClause yX7_readClause ∈ g_tb := g_in 12 (by decide +kernel) rfl
theorem m_13 : Cond.selects RX7 yX7_mark yX7_mark ∈ g_tb := g_in 13 (by decide +kernel) rfl
theorem m_14 : Cond.selects RX7 yX7_readJoined yX7_readJoined ∈ g_tb := g_in 14 (by decide +kernel) rfl
theorem m_15 : Cond.selects RX7 yX7_readValue yX7_readValue ∈ g_tb := g_in 15 (by decide +kernel) rfl
theorem m_16 : Cond.selects RX7 yX7_put yX7_put ∈ g_tb := g_in 16 (by decide +kernel) rfl
theorem m_17 : Cond.selects RX7 yX7_countValue yX7_countValue ∈ g_tb := g_in 17 (by decide +kernel) rfl
theorem m_18 : Cond.selects RX7 yX7_readFact yX7_readFact ∈ g_tb := g_in 18 (by decide +kernel) rfl
theorem m_19 : Cond.selects RX7 yX7_readComparing yX7_readComparing ∈ g_tb := g_in 19 (by decide +kernel) rfl
theorem m_20 : Cond.selects RX11 yX11_isHeir yX11_isHeir ∈ g_tb := g_in 20 (by decide +kernel) rfl
theorem m_21 : Cond.selects RX8 yX8_heldAs yX8_heldAs ∈ g_tb := g_in 21 (by decide +kernel) rfl
theorem m_22 : Cond.selects RX11 yX11_isThing yX11_isThing ∈ g_tb := g_in 22 (by decide +kernel) rfl
theorem m_23 : Cond.selects RX11 yX11_ruleInForce yX11_ruleInForce ∈ g_tb := g_in 23 (by decide +kernel) rfl
theorem m_24 : Cond.selects RX10 yX10_weigh yX10_weigh ∈ g_tb := g_in 24 (by decide +kernel) rfl
theorem m_25 : Cond.selects RX5 yX5_run yX5_run ∈ g_tb := g_in 25 (by decide +kernel) rfl
theorem m_26 : Cond.selects RX5 yX5_push yX5_push ∈ g_tb := g_in 26 (by decide +kernel) rfl
theorem m_27 : Cond.selects RX5 yX5_pop yX5_pop ∈ g_tb := g_in 27 (by decide +kernel) rfl
theorem m_28 : Cond.selects RX10 yX10_fadeAll yX10_fadeAll ∈ g_tb := g_in 28 (by decide +kernel) rfl
theorem m_29 : Cond.selects RX10 yX10_strikeForgotten yX10_strikeForgotten ∈ g_tb := g_in 29 (by decide +kernel) rfl
theorem m_30 : Cond.selects RX11 yX11_isKnown yX11_isKnown ∈ g_tb := g_in 30 (by decide +kernel) rfl
theorem m_31 : Cond.selects RX11 yX11_spread yX11_spread ∈ g_tb := g_in 31 (by decide +kernel) rfl
theorem m_32 : Cond.selects RX11 yX11_lookAhead yX11_lookAhead ∈ g_tb := g_in 32 (by decide +kernel) rfl
theorem m_33 : Cond.selects RX11 yX11_strikeLater yX11_strikeLater ∈ g_tb := g_in 33 (by decide +kernel) rfl
theorem m_34 : Cond.selects RX11 yX11_heldBehindAsk yX11_heldBehindAsk ∈ g_tb := g_in 34 (by decide +kernel) rfl
theorem m_35 : Cond.selects RX11 yX11_fillUnlike yX11_fillUnlike ∈ g_tb := g_in 35 (by decide +kernel) rfl
theorem m_36 : Cond.selects RX11 yX11_partsAll yX11_partsAll ∈ g_tb := g_in 36 (by decide +kernel) rfl
theorem m_37 : Cond.selects RX11 yX11_sharers yX11_sharers ∈ g_tb := g_in 37 (by decide +kernel) rfl
theorem m_38 : Cond.selects RX11 yX11_drinkLater yX11_drinkLater ∈ g_tb := g_in 38 (by decide +kernel) rfl
theorem m_39 : Cond.selects RX11 yX11_draw yX11_draw ∈ g_tb := g_in 39 (by decide +kernel) rfl
theorem m_40 : Cond.selects RX12 yX12_four yX12_four ∈ g_tb := g_in 40 (by decide +kernel) rfl
theorem m_41 : Cond.selects RX12 yX12_readsAll yX12_readsAll ∈ g_tb := g_in 41 (by decide +kernel) rfl
theorem m_42 : Cond.selects RX12 yX12_clauseHere yX12_clauseHere ∈ g_tb := g_in 42 (by decide +kernel) rfl
theorem m_43 : Cond.selects RX12 yX12_see yX12_see ∈ g_tb := g_in 43 (by decide +kernel) rfl
theorem m_44 : Cond.selects RX12 yX12_isHouseWord yX12_isHouseWord ∈ g_tb := g_in 44 (by decide +kernel) rfl
theorem m_45 : Cond.selects RX12 yX12_isWord yX12_isWord ∈ g_tb := g_in 45 (by decide +kernel) rfl
theorem m_46 : Cond.selects RX12 yX12_isLetter yX12_isLetter ∈ g_tb := g_in 46 (by decide +kernel) rfl
theorem m_47 : Cond.selects RX12 yX12_fails yX12_fails ∈ g_tb := g_in 47 (by decide +kernel) rfl
theorem m_48 : Cond.selects RX12 yX12_houseLineHere yX12_houseLineHere ∈ g_tb := g_in 48 (by decide +kernel) rfl
theorem m_49 : Cond.selects RX12 yX12_isHouseHere yX12_isHouseHere ∈ g_tb := g_in 49 (by decide +kernel) rfl
theorem m_50 : Cond.selects RX12 yX12_passWord yX12_passWord ∈ g_tb := g_in 50 (by decide +kernel) rfl
theorem m_51 : Cond.selects RX12 yX12_cellHere yX12_cellHere ∈ g_tb := g_in 51 (by decide +kernel) rfl
theorem m_52 : Cond.selects RX12 yX12_numberHere yX12_numberHere ∈ g_tb := g_in 52 (by decide +kernel) rfl
theorem m_53 : Cond.selects RX12 yX12_isDigit yX12_isDigit ∈ g_tb := g_in 53 (by decide +kernel) rfl
theorem m_54 : Cond.selects RX12 yX12_isThingHere yX12_isThingHere ∈ g_tb := g_in 54 (by decide +kernel) rfl
theorem m_55 : Cond.selects RX12 yX12_isHeirHere yX12_isHeirHere ∈ g_tb := g_in 55 (by decide +kernel) rfl
theorem m_56 : Cond.selects RX12 yX12_isSongHere yX12_isSongHere ∈ g_tb := g_in 56 (by decide +kernel) rfl
theorem m_57 : Cond.selects RX12 yX12_isHateHere yX12_isHateHere ∈ g_tb := g_in 57 (by decide +kernel) rfl
theorem m_58 : Cond.selects RX12 yX12_areCousinsHere yX12_areCousinsHere ∈ g_tb := g_in 58 (by decide +kernel) rfl
theorem m_59 : Cond.selects RX12 yX12_isKnownHere yX12_isKnownHere ∈ g_tb := g_in 59 (by decide +kernel) rfl
theorem m_60 : Cond.selects RX12 yX12_isFadeHere yX12_isFadeHere ∈ g_tb := g_in 60 (by decide +kernel) rfl
theorem m_61 : Cond.selects RX12 yX12_sum yX12_sum ∈ g_tb := g_in 61 (by decide +kernel) rfl
theorem m_62 : Cond.selects RX12 yX12_term yX12_term ∈ g_tb := g_in 62 (by decide +kernel) rfl
theorem m_63 : Cond.selects RX12 yX12_value yX12_value ∈ g_tb := g_in 63 (by decide +kernel) rfl
theorem m_64 : Cond.selects RX12 yX12_makes yX12_makes ∈ g_tb := g_in 64 (by decide +kernel) rfl
theorem m_65 : Cond.selects RX12 yX12_puts yX12_puts ∈ g_tb := g_in 65 (by decide +kernel) rfl
theorem m_66 : Cond.selects RX12 yX12_wordHere yX12_wordHere ∈ g_tb := g_in 66 (by decide +kernel) rfl
theorem m_67 : Cond.selects RX12 yX12_takesWord yX12_takesWord ∈ g_tb := g_in 67 (by decide +kernel) rfl
theorem m_68 : Cond.selects RX12 yX12_tested yX12_tested ∈ g_tb := g_in 68 (by decide +kernel) rfl
theorem m_69 : Cond.selects RX12 yX12_fact yX12_fact ∈ g_tb := g_in 69 (by decide +kernel) rfl
theorem m_70 : Cond.selects RX12 yX12_opens yX12_opens ∈ g_tb := g_in 70 (by decide +kernel) rfl
theorem m_71 : Cond.selects RX12 yX12_compare yX12_compare ∈ g_tb := g_in 71 (by decide +kernel) rfl
theorem m_72 : Cond.selects RX12 yX12_closes yX12_closes ∈ g_tb := g_in 72 (by decide +kernel) rfl
theorem m_73 : Cond.selects RX12 yX12_settles yX12_settles ∈ g_tb := g_in 73 (by decide +kernel) rfl
theorem m_74 : Cond.selects RX12 yX12_isInside yX12_isInside ∈ g_tb := g_in 74 (by decide +kernel) rfl
theorem m_75 : Cond.selects RX12 yX12_isRule yX12_isRule ∈ g_tb := g_in 75 (by decide +kernel) rfl
theorem m_76 : Cond.selects RX12 yX12_isHeir yX12_isHeir ∈ g_tb := g_in 76 (by decide +kernel) rfl
theorem m_77 : Cond.selects RX12 yX12_holdsOf yX12_holdsOf ∈ g_tb := g_in 77 (by decide +kernel) rfl
theorem m_78 : Cond.selects RX12 yX12_holds yX12_holds ∈ g_tb := g_in 78 (by decide +kernel) rfl
theorem m_79 : Cond.selects RX12 yX12_thingOf yX12_thingOf ∈ g_tb := g_in 79 (by decide +kernel) rfl
theorem m_80 : Cond.selects RX12 yX12_knowsOf yX12_knowsOf ∈ g_tb := g_in 80 (by decide +kernel) rfl
theorem m_81 : Cond.selects RX12 yX12_valueOf yX12_valueOf ∈ g_tb := g_in 81 (by decide +kernel) rfl
theorem m_82 : Cond.selects RX12 yX12_sameAs yX12_sameAs ∈ g_tb := g_in 82 (by decide +kernel) rfl
theorem m_83 : Cond.selects RX12 yX12_isThing yX12_isThing ∈ g_tb := g_in 83 (by decide +kernel) rfl
theorem m_84 : Cond.selects RX12 yX12_holdersOf yX12_holdersOf ∈ g_tb := g_in 84 (by decide +kernel) rfl
theorem m_85 : Cond.selects RX12 yX12_isHouse yX12_isHouse ∈ g_tb := g_in 85 (by decide +kernel) rfl
theorem m_86 : Cond.selects RX12 yX12_keepsAct yX12_keepsAct ∈ g_tb := g_in 86 (by decide +kernel) rfl
theorem m_87 : Cond.selects RX12 yX12_passes yX12_passes ∈ g_tb := g_in 87 (by decide +kernel) rfl
theorem m_88 : Cond.selects RX12 yX12_lossOf yX12_lossOf ∈ g_tb := g_in 88 (by decide +kernel) rfl
theorem m_89 : Cond.selects RX12 yX12_fades yX12_fades ∈ g_tb := g_in 89 (by decide +kernel) rfl
theorem m_90 : Cond.selects RX12 yX12_words yX12_words ∈ g_tb := g_in 90 (by decide +kernel) rfl
theorem m_91 : Cond.selects RX12 yX12_strengthOf yX12_strengthOf ∈ g_tb := g_in 91 (by decide +kernel) rfl
theorem m_92 : Cond.selects RX12 yX12_summedBy yX12_summedBy ∈ g_tb := g_in 92 (by decide +kernel) rfl
theorem m_93 : Cond.selects RX12 yX12_reckons yX12_reckons ∈ g_tb := g_in 93 (by decide +kernel) rfl
theorem m_94 : Cond.selects RX12 yX12_push yX12_push ∈ g_tb := g_in 94 (by decide +kernel) rfl
theorem m_95 : Cond.selects RX12 yX12_pop yX12_pop ∈ g_tb := g_in 95 (by decide +kernel) rfl
theorem m_96 : Cond.selects RX12 yX12_knowsNow yX12_knowsNow ∈ g_tb := g_in 96 (by decide +kernel) rfl
theorem m_97 : Cond.selects RX12 yX12_takes yX12_takes ∈ g_tb := g_in 97 (by decide +kernel) rfl
theorem m_98 : Cond.selects RX12 yX12_goesOn yX12_goesOn ∈ g_tb := g_in 98 (by decide +kernel) rfl
theorem m_99 : Cond.selects RX12 yX12_asks yX12_asks ∈ g_tb := g_in 99 (by decide +kernel) rfl
theorem m_100 : Cond.selects RX12 yX12_keeps yX12_keeps ∈ g_tb := g_in 100 (by decide +kernel) rfl
theorem m_101 : Cond.selects RX12 yX12_laysBack yX12_laysBack ∈ g_tb := g_in 101 (by decide +kernel) rfl
theorem m_102 : Cond.selects RX12 yX12_strikeOf yX12_strikeOf ∈ g_tb := g_in 102 (by decide +kernel) rfl
theorem m_103 : Cond.selects RX12 yX12_most yX12_most ∈ g_tb := g_in 103 (by decide +kernel) rfl
theorem m_104 : Cond.selects RX12 yX12_allHolds yX12_allHolds ∈ g_tb := g_in 104 (by decide +kernel) rfl
theorem m_105 : Cond.selects RX12 yX12_areParted yX12_areParted ∈ g_tb := g_in 105 (by decide +kernel) rfl
theorem m_106 : Cond.selects RX12 yX12_gathersWays yX12_gathersWays ∈ g_tb := g_in 106 (by decide +kernel) rfl
theorem m_107 : Cond.selects RX12 yX12_countsWay yX12_countsWay ∈ g_tb := g_in 107 (by decide +kernel) rfl
theorem m_108 : Cond.selects RX12 yX12_isWrong yX12_isWrong ∈ g_tb := g_in 108 (by decide +kernel) rfl
theorem m_109 : Cond.selects RX12 yX12_canHave yX12_canHave ∈ g_tb := g_in 109 (by decide +kernel) rfl
theorem m_110 : Cond.selects RX12 yX12_isRound yX12_isRound ∈ g_tb := g_in 110 (by decide +kernel) rfl
theorem m_111 : Cond.selects RX12 yX12_promptsYear yX12_promptsYear ∈ g_tb := g_in 111 (by decide +kernel) rfl
theorem m_112 : Cond.selects RX12 yX12_drinks yX12_drinks ∈ g_tb := g_in 112 (by decide +kernel) rfl
theorem m_113 : Cond.selects RX12 yX12_draw yX12_draw ∈ g_tb := g_in 113 (by decide +kernel) rfl
theorem m_114 : Cond.selects RX12 yX12_standing yX12_standing ∈ g_tb := g_in 114 (by decide +kernel) rfl
set_option maxRecDepth 20000 in
theorem m_116 : Cond.initialized RX11 ∈ g_tb := gq_in gq_s1 1 rfl rfl
set_option maxRecDepth 20000 in
theorem m_117 : Cond.initialized RX10 ∈ g_tb := gq_in gq_s1 2 rfl rfl
set_option maxRecDepth 20000 in
theorem m_118 : Cond.initialized RX5 ∈ g_tb := gq_in gq_s1 3 rfl rfl
set_option maxRecDepth 20000 in
theorem m_119 : Cond.initialized RX8 ∈ g_tb := gq_in gq_s1 4 rfl rfl
set_option maxRecDepth 20000 in
theorem m_120 : Cond.initialized RX4 ∈ g_tb := gq_in gq_s1 5 rfl rfl
set_option maxRecDepth 20000 in
theorem m_121 : Cond.initialized RX0 ∈ g_tb := gq_in gq_s1 6 rfl rfl
set_option maxRecDepth 20000 in
theorem m_122 : Cond.initialized RX1 ∈ g_tb := gq_in gq_s1 7 rfl rfl
set_option maxRecDepth 20000 in
theorem m_123 : Cond.initialized RX9 ∈ g_tb := gq_in gq_s1 8 rfl rfl
set_option maxRecDepth 20000 in
theorem m_124 : Cond.initialized RX2 ∈ g_tb := gq_in gq_s1 9 rfl rfl
set_option maxRecDepth 20000 in
theorem m_125 : Cond.initialized RX7 ∈ g_tb := gq_in gq_s1 10 rfl rfl
set_option maxRecDepth 20000 in
theorem m_126 : Cond.initialized RX3 ∈ g_tb := gq_in gq_s1 11 rfl rfl
set_option maxRecDepth 20000 in
theorem m_127 : Cond.initialized RX12 ∈ g_tb := gq_in gq_s1 12 rfl rfl
set_option maxRecDepth 20000 in
theorem m_133 : Cond.initialized RX6 ∈ g_tb := gq_in gq_s1 18 rfl rfl
set_option maxRecDepth 20000 in
theorem m_134 : Cond.initialized "java/util/Arrays" ∈ g_tb := gq_in gq_s1 19 rfl rfl
set_option maxRecDepth 20000 in
theorem m_136 : Cond.initialized "java/lang/Integer" ∈ g_tb := gq_in gq_s1 21 rfl rfl
set_option maxRecDepth 20000 in
theorem m_142 : Cond.methodLink RX11 3 Lib.objectInit ∈ g_tb := gq_in gq_s1 27 rfl rfl
set_option maxRecDepth 20000 in
theorem m_145 : Cond.classLink RX11 9 RX6 ∈ g_tb := gq_in gq_s1 30 rfl rfl
set_option maxRecDepth 20000 in
theorem m_147 : Cond.classLink RX11 15 RX10 ∈ g_tb := gq_in gq_s1 32 rfl rfl
set_option maxRecDepth 20000 in
theorem m_148 : Cond.instantiable RX10 2 ∈ g_tb := gq_in gq_s1 33 rfl rfl
set_option maxRecDepth 20000 in
theorem m_150 : Cond.instanceMethod yX10_init ∈ g_tb := gq_in gq_s1 35 rfl rfl
set_option maxRecDepth 20000 in
theorem m_151 : Cond.code yX10_init cX10_init 1 none ∈ g_tb := gq_in gq_s1 36 rfl rfl
set_option maxRecDepth 20000 in
theorem m_152 : Cond.methodLink RX10 3 Lib.objectInit ∈ g_tb := gq_in gq_s1 37 rfl rfl
set_option maxRecDepth 20000 in
theorem m_153 : Cond.classLink RX10 15 RX5 ∈ g_tb := gq_in gq_s1 38 rfl rfl
set_option maxRecDepth 20000 in
theorem m_154 : Cond.instantiable RX5 3 ∈ g_tb := gq_in gq_s1 39 rfl rfl
set_option maxRecDepth 20000 in
theorem m_156 : Cond.instanceMethod yX5_init ∈ g_tb := gq_in gq_s1 41 rfl rfl
set_option maxRecDepth 20000 in
theorem m_157 : Cond.code yX5_init cX5_init 1 none ∈ g_tb := gq_in gq_s1 42 rfl rfl
set_option maxRecDepth 20000 in
theorem m_158 : Cond.methodLink RX5 3 Lib.objectInit ∈ g_tb := gq_in gq_s1 43 rfl rfl
set_option maxRecDepth 20000 in
theorem m_178 : Cond.classLink RX11 22 RX8 ∈ g_tb := gq_in gq_s1 63 rfl rfl
set_option maxRecDepth 20000 in
theorem m_179 : Cond.instantiable RX8 7 ∈ g_tb := gq_in gq_s1 64 rfl rfl
set_option maxRecDepth 20000 in
theorem m_181 : Cond.instanceMethod yX8_init ∈ g_tb := gq_in gq_s1 66 rfl rfl
set_option maxRecDepth 20000 in
theorem m_182 : Cond.code yX8_init cX8_init 1 none ∈ g_tb := gq_in gq_s1 67 rfl rfl
set_option maxRecDepth 20000 in
theorem m_183 : Cond.methodLink RX8 3 Lib.objectInit ∈ g_tb := gq_in gq_s1 68 rfl rfl
set_option maxRecDepth 20000 in
theorem m_225 : Cond.classLink RX11 32 RX4 ∈ g_tb := gq_in gq_s1 110 rfl rfl
set_option maxRecDepth 20000 in
theorem m_226 : Cond.instantiable RX4 3 ∈ g_tb := gq_in gq_s1 111 rfl rfl
set_option maxRecDepth 20000 in
theorem m_227 : Cond.methodLink RX11 34 yX4_init ∈ g_tb := gq_in gq_s1 112 rfl rfl
set_option maxRecDepth 20000 in
theorem m_228 : Cond.instanceMethod yX4_init ∈ g_tb := gq_in gq_s1 113 rfl rfl
set_option maxRecDepth 20000 in
theorem m_229 : Cond.code yX4_init cX4_init 2 none ∈ g_tb := gq_in gq_s1 114 rfl rfl
set_option maxRecDepth 20000 in
theorem m_230 : Cond.methodLink RX4 1 Lib.objectInit ∈ g_tb := gq_in gq_s1 115 rfl rfl
set_option maxRecDepth 20000 in
theorem m_231 : Cond.classLink RX4 9 RX8 ∈ g_tb := gq_in gq_s1 116 rfl rfl
set_option maxRecDepth 20000 in
theorem m_245 : Cond.classLink RX11 39 RX3 ∈ g_tb := gq_in gq_s1 130 rfl rfl
set_option maxRecDepth 20000 in
theorem m_247 : Cond.classLink RX11 49 RX0 ∈ g_tb := gq_in gq_s1 132 rfl rfl
set_option maxRecDepth 20000 in
theorem m_248 : Cond.instantiable RX0 2 ∈ g_tb := gq_in gq_s1 133 rfl rfl
set_option maxRecDepth 20000 in
theorem m_250 : Cond.instanceMethod yX0_init ∈ g_tb := gq_in gq_s1 135 rfl rfl
set_option maxRecDepth 20000 in
theorem m_251 : Cond.code yX0_init cX0_init 1 none ∈ g_tb := gq_in gq_s1 136 rfl rfl
set_option maxRecDepth 20000 in
theorem m_252 : Cond.methodLink RX0 3 Lib.objectInit ∈ g_tb := gq_in gq_s1 137 rfl rfl
set_option maxRecDepth 20000 in
theorem m_260 : Cond.classLink RX11 56 RX1 ∈ g_tb := gq_in gq_s1 145 rfl rfl
set_option maxRecDepth 20000 in
theorem m_261 : Cond.instantiable RX1 11 ∈ g_tb := gq_in gq_s1 146 rfl rfl
set_option maxRecDepth 20000 in
theorem m_263 : Cond.instanceMethod yX1_init ∈ g_tb := gq_in gq_s1 148 rfl rfl
set_option maxRecDepth 20000 in
theorem m_264 : Cond.code yX1_init cX1_init 1 none ∈ g_tb := gq_in gq_s1 149 rfl rfl
set_option maxRecDepth 20000 in
theorem m_265 : Cond.methodLink RX1 3 Lib.objectInit ∈ g_tb := gq_in gq_s1 150 rfl rfl
set_option maxRecDepth 20000 in
theorem m_332 : Cond.classLink RX11 73 RX9 ∈ g_tb := gq_in gq_s1 217 rfl rfl
set_option maxRecDepth 20000 in
theorem m_333 : Cond.instantiable RX9 8 ∈ g_tb := gq_in gq_s1 218 rfl rfl
set_option maxRecDepth 20000 in
theorem m_335 : Cond.instanceMethod yX9_init ∈ g_tb := gq_in gq_s1 220 rfl rfl
set_option maxRecDepth 20000 in
theorem m_336 : Cond.code yX9_init cX9_init 1 none ∈ g_tb := gq_in gq_s1 221 rfl rfl
set_option maxRecDepth 20000 in
theorem m_337 : Cond.methodLink RX9 5 Lib.objectInit ∈ g_tb := gq_in gq_s1 222 rfl rfl
set_option maxRecDepth 20000 in
theorem m_366 : Cond.classLink RX11 80 RX2 ∈ g_tb := gq_in gq_s2 11 rfl rfl
set_option maxRecDepth 20000 in
theorem m_367 : Cond.instantiable RX2 3 ∈ g_tb := gq_in gq_s2 12 rfl rfl
set_option maxRecDepth 20000 in
theorem m_368 : Cond.methodLink RX11 82 yX2_init ∈ g_tb := gq_in gq_s2 13 rfl rfl
set_option maxRecDepth 20000 in
theorem m_369 : Cond.instanceMethod yX2_init ∈ g_tb := gq_in gq_s2 14 rfl rfl
set_option maxRecDepth 20000 in
theorem m_370 : Cond.code yX2_init cX2_init 2 none ∈ g_tb := gq_in gq_s2 15 rfl rfl
set_option maxRecDepth 20000 in
theorem m_371 : Cond.methodLink RX2 3 Lib.objectInit ∈ g_tb := gq_in gq_s2 16 rfl rfl
set_option maxRecDepth 20000 in
theorem m_372 : Cond.classLink RX2 9 RX1 ∈ g_tb := gq_in gq_s2 17 rfl rfl
set_option maxRecDepth 20000 in
theorem m_374 : Cond.classLink RX2 18 RX8 ∈ g_tb := gq_in gq_s2 19 rfl rfl
set_option maxRecDepth 20000 in
theorem m_387 : Cond.classLink RX11 89 RX7 ∈ g_tb := gq_in gq_s2 32 rfl rfl
set_option maxRecDepth 20000 in
theorem m_388 : Cond.instantiable RX7 6 ∈ g_tb := gq_in gq_s2 33 rfl rfl
set_option maxRecDepth 20000 in
theorem m_389 : Cond.methodLink RX11 91 yX7_init ∈ g_tb := gq_in gq_s2 34 rfl rfl
set_option maxRecDepth 20000 in
theorem m_390 : Cond.instanceMethod yX7_init ∈ g_tb := gq_in gq_s2 35 rfl rfl
set_option maxRecDepth 20000 in
theorem m_391 : Cond.code yX7_init cX7_init 2 none ∈ g_tb := gq_in gq_s2 36 rfl rfl
set_option maxRecDepth 20000 in
theorem m_392 : Cond.methodLink RX7 3 Lib.objectInit ∈ g_tb := gq_in gq_s2 37 rfl rfl
set_option maxRecDepth 20000 in
theorem m_412 : Cond.instantiable RX3 4 ∈ g_tb := gq_in gq_s2 57 rfl rfl
set_option maxRecDepth 20000 in
theorem m_414 : Cond.instanceMethod yX3_init ∈ g_tb := gq_in gq_s2 59 rfl rfl
set_option maxRecDepth 20000 in
theorem m_415 : Cond.code yX3_init cX3_init 1 none ∈ g_tb := gq_in gq_s2 60 rfl rfl
set_option maxRecDepth 20000 in
theorem m_416 : Cond.methodLink RX3 3 Lib.objectInit ∈ g_tb := gq_in gq_s2 61 rfl rfl
set_option maxRecDepth 20000 in
theorem m_417 : Cond.classLink RX3 9 RX8 ∈ g_tb := gq_in gq_s2 62 rfl rfl
set_option maxRecDepth 20000 in
theorem m_486 : Cond.methodLink RX11 100 yX9_append ∈ g_tb := gq_in gq_s2 131 rfl rfl
set_option maxRecDepth 20000 in
theorem m_487 : Cond.instanceMethod yX9_append ∈ g_tb := gq_in gq_s2 132 rfl rfl
set_option maxRecDepth 20000 in
theorem m_488 : Cond.selects RX9 yX9_append yX9_append ∈ g_tb := gq_in gq_s2 133 rfl rfl
set_option maxRecDepth 20000 in
theorem m_489 : Cond.code yX9_append cX9_append 3 none ∈ g_tb := gq_in gq_s2 134 rfl rfl
set_option maxRecDepth 20000 in
theorem m_498 : Cond.methodLink RX11 104 yX2_read ∈ g_tb := gq_in gq_s2 143 rfl rfl
set_option maxRecDepth 20000 in
theorem m_499 : Cond.instanceMethod yX2_read ∈ g_tb := gq_in gq_s2 144 rfl rfl
set_option maxRecDepth 20000 in
theorem m_500 : Cond.selects RX2 yX2_read yX2_read ∈ g_tb := gq_in gq_s2 145 rfl rfl
set_option maxRecDepth 20000 in
theorem m_501 : Cond.code yX2_read cX2_read 3 (some (.object "ForgetHeirs$House")) ∈ g_tb := gq_in gq_s2 146 rfl rfl
set_option maxRecDepth 20000 in
theorem m_502 : Cond.methodLink RX2 29 yX9_split ∈ g_tb := gq_in gq_s2 147 rfl rfl
set_option maxRecDepth 20000 in
theorem m_503 : Cond.instanceMethod yX9_split ∈ g_tb := gq_in gq_s2 148 rfl rfl
set_option maxRecDepth 20000 in
theorem m_504 : Cond.selects RX9 yX9_split yX9_split ∈ g_tb := gq_in gq_s2 149 rfl rfl
set_option maxRecDepth 20000 in
theorem m_505 : Cond.code yX9_split cX9_split 5 none ∈ g_tb := gq_in gq_s2 150 rfl rfl
set_option maxRecDepth 20000 in
theorem m_506 : Cond.methodLink RX9 38 yX9_byteAt ∈ g_tb := gq_in gq_s2 151 rfl rfl
set_option maxRecDepth 20000 in
theorem m_508 : Cond.instanceMethod yX9_byteAt ∈ g_tb := gq_in gq_s2 153 rfl rfl
set_option maxRecDepth 20000 in
theorem m_509 : Cond.code yX9_byteAt cX9_byteAt 2 (some .int) ∈ g_tb := gq_in gq_s2 154 rfl rfl
set_option maxRecDepth 20000 in
theorem m_510 : Cond.methodLink RX9 42 yX9_isLetter ∈ g_tb := gq_in gq_s2 155 rfl rfl
set_option maxRecDepth 20000 in
theorem m_511 : Cond.static yX9_isLetter ∈ g_tb := gq_in gq_s2 156 rfl rfl
set_option maxRecDepth 20000 in
theorem m_512 : Cond.code yX9_isLetter cX9_isLetter 1 (some .boolean) ∈ g_tb := gq_in gq_s2 157 rfl rfl
set_option maxRecDepth 20000 in
theorem m_513 : Cond.methodLink RX9 46 yX9_isDigit ∈ g_tb := gq_in gq_s2 158 rfl rfl
set_option maxRecDepth 20000 in
theorem m_514 : Cond.static yX9_isDigit ∈ g_tb := gq_in gq_s2 159 rfl rfl
set_option maxRecDepth 20000 in
theorem m_515 : Cond.code yX9_isDigit cX9_isDigit 1 (some .boolean) ∈ g_tb := gq_in gq_s2 160 rfl rfl
set_option maxRecDepth 20000 in
theorem m_516 : Cond.methodLink RX9 49 yX9_endOfRun ∈ g_tb := gq_in gq_s2 161 rfl rfl
set_option maxRecDepth 20000 in
theorem m_518 : Cond.instanceMethod yX9_endOfRun ∈ g_tb := gq_in gq_s2 163 rfl rfl
set_option maxRecDepth 20000 in
theorem m_519 : Cond.code yX9_endOfRun cX9_endOfRun 4 (some .int) ∈ g_tb := gq_in gq_s2 164 rfl rfl
set_option maxRecDepth 20000 in
theorem m_520 : Cond.methodLink RX9 52 yX9_wordKind ∈ g_tb := gq_in gq_s2 165 rfl rfl
set_option maxRecDepth 20000 in
theorem m_522 : Cond.instanceMethod yX9_wordKind ∈ g_tb := gq_in gq_s2 167 rfl rfl
set_option maxRecDepth 20000 in
theorem m_523 : Cond.code yX9_wordKind cX9_wordKind 7 (some .int) ∈ g_tb := gq_in gq_s2 168 rfl rfl
set_option maxRecDepth 20000 in
theorem m_573 : Cond.methodLink RX9 56 yX9_add ∈ g_tb := gq_in gq_s2 218 rfl rfl
set_option maxRecDepth 20000 in
theorem m_575 : Cond.instanceMethod yX9_add ∈ g_tb := gq_in gq_s2 220 rfl rfl
set_option maxRecDepth 20000 in
theorem m_576 : Cond.code yX9_add cX9_add 4 none ∈ g_tb := gq_in gq_s2 221 rfl rfl
set_option maxRecDepth 20000 in
theorem m_577 : Cond.methodLink RX9 60 yX9_valueOf ∈ g_tb := gq_in gq_s2 222 rfl rfl
set_option maxRecDepth 20000 in
theorem m_579 : Cond.instanceMethod yX9_valueOf ∈ g_tb := gq_in gq_s2 224 rfl rfl
set_option maxRecDepth 20000 in
theorem m_580 : Cond.code yX9_valueOf cX9_valueOf 5 (some .int) ∈ g_tb := gq_in gq_s2 225 rfl rfl
set_option maxRecDepth 20000 in
theorem m_581 : Cond.constant RX9 63 1000000 ∈ g_tb := gq_in gq_s2 226 rfl rfl
set_option maxRecDepth 20000 in
theorem m_582 : Cond.methodLink RX2 34 yX8_clear ∈ g_tb := gq_in gq_s2 227 rfl rfl
set_option maxRecDepth 20000 in
theorem m_583 : Cond.instanceMethod yX8_clear ∈ g_tb := gq_in gq_s2 228 rfl rfl
set_option maxRecDepth 20000 in
theorem m_584 : Cond.selects RX8 yX8_clear yX8_clear ∈ g_tb := gq_in gq_s2 229 rfl rfl
set_option maxRecDepth 20000 in
theorem m_585 : Cond.code yX8_clear cX8_clear 2 none ∈ g_tb := gq_in gq_s2 230 rfl rfl
set_option maxRecDepth 20000 in
theorem m_586 : Cond.methodLink RX2 37 yX2_readClause ∈ g_tb := gq_in gq_s2 231 rfl rfl
set_option maxRecDepth 20000 in
theorem m_588 : Cond.instanceMethod yX2_readClause ∈ g_tb := gq_in gq_s2 233 rfl rfl
set_option maxRecDepth 20000 in
theorem m_589 : Cond.code yX2_readClause cX2_readClause 3 none ∈ g_tb := gq_in gq_s2 234 rfl rfl
set_option maxRecDepth 20000 in
theorem m_590 : Cond.methodLink RX2 52 yX9_kind ∈ g_tb := gq_in gq_s2 235 rfl rfl
set_option maxRecDepth 20000 in
theorem m_591 : Cond.instanceMethod yX9_kind ∈ g_tb := gq_in gq_s2 236 rfl rfl
set_option maxRecDepth 20000 in
theorem m_592 : Cond.selects RX9 yX9_kind yX9_kind ∈ g_tb := gq_in gq_s2 237 rfl rfl
set_option maxRecDepth 20000 in
theorem m_593 : Cond.code yX9_kind cX9_kind 1 (some .int) ∈ g_tb := gq_in gq_s2 238 rfl rfl
set_option maxRecDepth 20000 in
theorem m_594 : Cond.methodLink RX2 56 yX2_isClause ∈ g_tb := gq_in gq_s2 239 rfl rfl
set_option maxRecDepth 20000 in
theorem m_595 : Cond.static yX2_isClause ∈ g_tb := gq_in gq_s3 0 rfl rfl
set_option maxRecDepth 20000 in
theorem m_596 : Cond.code yX2_isClause cX2_isClause 1 (some .boolean) ∈ g_tb := gq_in gq_s3 1 rfl rfl
set_option maxRecDepth 20000 in
theorem m_597 : Cond.methodLink RX2 60 yX9_place ∈ g_tb := gq_in gq_s3 2 rfl rfl
set_option maxRecDepth 20000 in
theorem m_598 : Cond.instanceMethod yX9_place ∈ g_tb := gq_in gq_s3 3 rfl rfl
set_option maxRecDepth 20000 in
theorem m_599 : Cond.selects RX9 yX9_place yX9_place ∈ g_tb := gq_in gq_s3 4 rfl rfl
set_option maxRecDepth 20000 in
theorem m_600 : Cond.code yX9_place cX9_place 1 (some .int) ∈ g_tb := gq_in gq_s3 5 rfl rfl
set_option maxRecDepth 20000 in
theorem m_601 : Cond.methodLink RX2 63 yX9_blame ∈ g_tb := gq_in gq_s3 6 rfl rfl
set_option maxRecDepth 20000 in
theorem m_602 : Cond.instanceMethod yX9_blame ∈ g_tb := gq_in gq_s3 7 rfl rfl
set_option maxRecDepth 20000 in
theorem m_603 : Cond.selects RX9 yX9_blame yX9_blame ∈ g_tb := gq_in gq_s3 8 rfl rfl
set_option maxRecDepth 20000 in
theorem m_604 : Cond.code yX9_blame cX9_blame 3 none ∈ g_tb := gq_in gq_s3 9 rfl rfl
set_option maxRecDepth 20000 in
theorem m_605 : Cond.methodLink RX2 67 yX2_isFull ∈ g_tb := gq_in gq_s3 10 rfl rfl
set_option maxRecDepth 20000 in
theorem m_607 : Cond.instanceMethod yX2_isFull ∈ g_tb := gq_in gq_s3 12 rfl rfl
set_option maxRecDepth 20000 in
theorem m_608 : Cond.code yX2_isFull cX2_isFull 2 (some .boolean) ∈ g_tb := gq_in gq_s3 13 rfl rfl
set_option maxRecDepth 20000 in
theorem m_609 : Cond.methodLink RX2 70 yX9_next ∈ g_tb := gq_in gq_s3 14 rfl rfl
set_option maxRecDepth 20000 in
theorem m_610 : Cond.instanceMethod yX9_next ∈ g_tb := gq_in gq_s3 15 rfl rfl
set_option maxRecDepth 20000 in
theorem m_611 : Cond.selects RX9 yX9_next yX9_next ∈ g_tb := gq_in gq_s3 16 rfl rfl
set_option maxRecDepth 20000 in
theorem m_612 : Cond.code yX9_next cX9_next 1 none ∈ g_tb := gq_in gq_s3 17 rfl rfl
set_option maxRecDepth 20000 in
theorem m_613 : Cond.methodLink RX2 73 yX2_readNumbers ∈ g_tb := gq_in gq_s3 18 rfl rfl
set_option maxRecDepth 20000 in
theorem m_615 : Cond.instanceMethod yX2_readNumbers ∈ g_tb := gq_in gq_s3 20 rfl rfl
set_option maxRecDepth 20000 in
theorem m_616 : Cond.code yX2_readNumbers cX2_readNumbers 2 none ∈ g_tb := gq_in gq_s3 21 rfl rfl
set_option maxRecDepth 20000 in
theorem m_617 : Cond.methodLink RX2 86 yX9_number ∈ g_tb := gq_in gq_s3 22 rfl rfl
set_option maxRecDepth 20000 in
theorem m_618 : Cond.instanceMethod yX9_number ∈ g_tb := gq_in gq_s3 23 rfl rfl
set_option maxRecDepth 20000 in
theorem m_619 : Cond.selects RX9 yX9_number yX9_number ∈ g_tb := gq_in gq_s3 24 rfl rfl
set_option maxRecDepth 20000 in
theorem m_620 : Cond.code yX9_number cX9_number 4 (some .int) ∈ g_tb := gq_in gq_s3 25 rfl rfl
set_option maxRecDepth 20000 in
theorem m_621 : Cond.methodLink RX9 76 yX9_isFaulty ∈ g_tb := gq_in gq_s3 26 rfl rfl
set_option maxRecDepth 20000 in
theorem m_622 : Cond.instanceMethod yX9_isFaulty ∈ g_tb := gq_in gq_s3 27 rfl rfl
set_option maxRecDepth 20000 in
theorem m_623 : Cond.selects RX9 yX9_isFaulty yX9_isFaulty ∈ g_tb := gq_in gq_s3 28 rfl rfl
set_option maxRecDepth 20000 in
theorem m_624 : Cond.code yX9_isFaulty cX9_isFaulty 1 (some .boolean) ∈ g_tb := gq_in gq_s3 29 rfl rfl
set_option maxRecDepth 20000 in
theorem m_625 : Cond.methodLink RX9 80 yX9_kind ∈ g_tb := gq_in gq_s3 30 rfl rfl
set_option maxRecDepth 20000 in
theorem m_626 : Cond.methodLink RX9 83 yX9_place ∈ g_tb := gq_in gq_s3 31 rfl rfl
set_option maxRecDepth 20000 in
theorem m_627 : Cond.methodLink RX9 86 yX9_blame ∈ g_tb := gq_in gq_s3 32 rfl rfl
set_option maxRecDepth 20000 in
theorem m_628 : Cond.methodLink RX9 90 yX9_next ∈ g_tb := gq_in gq_s3 33 rfl rfl
set_option maxRecDepth 20000 in
theorem m_629 : Cond.methodLink RX2 93 yX2_readThing ∈ g_tb := gq_in gq_s3 34 rfl rfl
set_option maxRecDepth 20000 in
theorem m_631 : Cond.instanceMethod yX2_readThing ∈ g_tb := gq_in gq_s3 36 rfl rfl
set_option maxRecDepth 20000 in
theorem m_632 : Cond.code yX2_readThing cX2_readThing 4 none ∈ g_tb := gq_in gq_s3 37 rfl rfl
set_option maxRecDepth 20000 in
theorem m_633 : Cond.methodLink RX2 45 yX9_isFaulty ∈ g_tb := gq_in gq_s3 38 rfl rfl
set_option maxRecDepth 20000 in
theorem m_634 : Cond.methodLink RX2 99 yX2_bitOf ∈ g_tb := gq_in gq_s3 39 rfl rfl
set_option maxRecDepth 20000 in
theorem m_635 : Cond.static yX2_bitOf ∈ g_tb := gq_in gq_s3 40 rfl rfl
set_option maxRecDepth 20000 in
theorem m_636 : Cond.code yX2_bitOf cX2_bitOf 1 (some .int) ∈ g_tb := gq_in gq_s3 41 rfl rfl
set_option maxRecDepth 20000 in
theorem m_637 : Cond.methodLink RX2 103 yX2_readHeir ∈ g_tb := gq_in gq_s3 42 rfl rfl
set_option maxRecDepth 20000 in
theorem m_639 : Cond.instanceMethod yX2_readHeir ∈ g_tb := gq_in gq_s3 44 rfl rfl
set_option maxRecDepth 20000 in
theorem m_640 : Cond.code yX2_readHeir cX2_readHeir 3 none ∈ g_tb := gq_in gq_s3 45 rfl rfl
set_option maxRecDepth 20000 in
theorem m_641 : Cond.methodLink RX2 109 yX2_readCousins ∈ g_tb := gq_in gq_s3 46 rfl rfl
set_option maxRecDepth 20000 in
theorem m_643 : Cond.instanceMethod yX2_readCousins ∈ g_tb := gq_in gq_s3 48 rfl rfl
set_option maxRecDepth 20000 in
theorem m_644 : Cond.code yX2_readCousins cX2_readCousins 4 none ∈ g_tb := gq_in gq_s3 49 rfl rfl
set_option maxRecDepth 20000 in
theorem m_646 : Cond.static yX11_bit ∈ g_tb := gq_in gq_s3 51 rfl rfl
set_option maxRecDepth 20000 in
theorem m_647 : Cond.code yX11_bit cX11_bit 2 (some .int) ∈ g_tb := gq_in gq_s3 52 rfl rfl
set_option maxRecDepth 20000 in
theorem m_648 : Cond.methodLink RX2 112 yX2_readKnows ∈ g_tb := gq_in gq_s3 53 rfl rfl
set_option maxRecDepth 20000 in
theorem m_650 : Cond.instanceMethod yX2_readKnows ∈ g_tb := gq_in gq_s3 55 rfl rfl
set_option maxRecDepth 20000 in
theorem m_651 : Cond.code yX2_readKnows cX2_readKnows 5 none ∈ g_tb := gq_in gq_s3 56 rfl rfl
set_option maxRecDepth 20000 in
theorem m_652 : Cond.methodLink RX2 137 yX8_learn ∈ g_tb := gq_in gq_s3 57 rfl rfl
set_option maxRecDepth 20000 in
theorem m_653 : Cond.instanceMethod yX8_learn ∈ g_tb := gq_in gq_s3 58 rfl rfl
set_option maxRecDepth 20000 in
theorem m_654 : Cond.selects RX8 yX8_learn yX8_learn ∈ g_tb := gq_in gq_s3 59 rfl rfl
set_option maxRecDepth 20000 in
theorem m_655 : Cond.code yX8_learn cX8_learn 5 none ∈ g_tb := gq_in gq_s3 60 rfl rfl
set_option maxRecDepth 20000 in
theorem m_656 : Cond.methodLink RX2 41 yX9_goesOn ∈ g_tb := gq_in gq_s3 61 rfl rfl
set_option maxRecDepth 20000 in
theorem m_657 : Cond.instanceMethod yX9_goesOn ∈ g_tb := gq_in gq_s3 62 rfl rfl
set_option maxRecDepth 20000 in
theorem m_658 : Cond.selects RX9 yX9_goesOn yX9_goesOn ∈ g_tb := gq_in gq_s3 63 rfl rfl
set_option maxRecDepth 20000 in
theorem m_659 : Cond.code yX9_goesOn cX9_goesOn 1 (some .boolean) ∈ g_tb := gq_in gq_s3 64 rfl rfl
set_option maxRecDepth 20000 in
theorem m_660 : Cond.methodLink RX9 93 yX9_expect ∈ g_tb := gq_in gq_s3 65 rfl rfl
set_option maxRecDepth 20000 in
theorem m_661 : Cond.instanceMethod yX9_expect ∈ g_tb := gq_in gq_s3 66 rfl rfl
set_option maxRecDepth 20000 in
theorem m_662 : Cond.selects RX9 yX9_expect yX9_expect ∈ g_tb := gq_in gq_s3 67 rfl rfl
set_option maxRecDepth 20000 in
theorem m_663 : Cond.code yX9_expect cX9_expect 2 none ∈ g_tb := gq_in gq_s3 68 rfl rfl
set_option maxRecDepth 20000 in
theorem m_664 : Cond.methodLink RX11 114 yX8_copy ∈ g_tb := gq_in gq_s3 69 rfl rfl
set_option maxRecDepth 20000 in
theorem m_665 : Cond.instanceMethod yX8_copy ∈ g_tb := gq_in gq_s3 70 rfl rfl
set_option maxRecDepth 20000 in
theorem m_666 : Cond.selects RX8 yX8_copy yX8_copy ∈ g_tb := gq_in gq_s3 71 rfl rfl
set_option maxRecDepth 20000 in
theorem m_667 : Cond.code yX8_copy cX8_copy 2 none ∈ g_tb := gq_in gq_s3 72 rfl rfl
set_option maxRecDepth 20000 in
theorem m_668 : Cond.methodLink RX8 34 arraycopyName ∈ g_tb := gq_in gq_s3 73 rfl rfl
set_option maxRecDepth 20000 in
theorem m_671 : Cond.methodLink RX11 118 yX4_clear ∈ g_tb := gq_in gq_s3 76 rfl rfl
set_option maxRecDepth 20000 in
theorem m_672 : Cond.instanceMethod yX4_clear ∈ g_tb := gq_in gq_s3 77 rfl rfl
set_option maxRecDepth 20000 in
theorem m_673 : Cond.selects RX4 yX4_clear yX4_clear ∈ g_tb := gq_in gq_s3 78 rfl rfl
set_option maxRecDepth 20000 in
theorem m_674 : Cond.code yX4_clear cX4_clear 1 none ∈ g_tb := gq_in gq_s3 79 rfl rfl
set_option maxRecDepth 20000 in
theorem m_679 : Cond.methodLink RX11 124 yX7_read ∈ g_tb := gq_in gq_s3 84 rfl rfl
set_option maxRecDepth 20000 in
theorem m_680 : Cond.instanceMethod yX7_read ∈ g_tb := gq_in gq_s3 85 rfl rfl
set_option maxRecDepth 20000 in
theorem m_681 : Cond.selects RX7 yX7_read yX7_read ∈ g_tb := gq_in gq_s3 86 rfl rfl
set_option maxRecDepth 20000 in
theorem m_682 : Cond.code yX7_read cX7_read 3 (some (.object "ForgetHeirs$Rule")) ∈ g_tb := gq_in gq_s3 87 rfl rfl
set_option maxRecDepth 20000 in
theorem m_683 : Cond.methodLink RX7 34 yX9_split ∈ g_tb := gq_in gq_s3 88 rfl rfl
set_option maxRecDepth 20000 in
theorem m_684 : Cond.methodLink RX7 37 yX7_readClause ∈ g_tb := gq_in gq_s3 89 rfl rfl
set_option maxRecDepth 20000 in
theorem m_686 : Cond.instanceMethod yX7_readClause ∈ g_tb := gq_in gq_s3 91 rfl rfl
set_option maxRecDepth 20000 in
theorem m_687 : Cond.code yX7_readClause cX7_readClause 2 none ∈ g_tb := gq_in gq_s3 92 rfl rfl
set_option maxRecDepth 20000 in
theorem m_688 : Cond.methodLink RX7 59 yX9_kind ∈ g_tb := gq_in gq_s3 93 rfl rfl
set_option maxRecDepth 20000 in
theorem m_689 : Cond.methodLink RX7 63 yX9_place ∈ g_tb := gq_in gq_s3 94 rfl rfl
set_option maxRecDepth 20000 in
theorem m_690 : Cond.methodLink RX7 66 yX9_blame ∈ g_tb := gq_in gq_s3 95 rfl rfl
set_option maxRecDepth 20000 in
theorem m_691 : Cond.methodLink RX7 70 yX9_next ∈ g_tb := gq_in gq_s3 96 rfl rfl
set_option maxRecDepth 20000 in
theorem m_692 : Cond.methodLink RX7 73 yX7_mark ∈ g_tb := gq_in gq_s3 97 rfl rfl
set_option maxRecDepth 20000 in
theorem m_694 : Cond.instanceMethod yX7_mark ∈ g_tb := gq_in gq_s3 99 rfl rfl
set_option maxRecDepth 20000 in
theorem m_695 : Cond.code yX7_mark cX7_mark 1 none ∈ g_tb := gq_in gq_s3 100 rfl rfl
set_option maxRecDepth 20000 in
theorem m_696 : Cond.methodLink RX7 76 yX7_readJoined ∈ g_tb := gq_in gq_s3 101 rfl rfl
set_option maxRecDepth 20000 in
theorem m_698 : Cond.instanceMethod yX7_readJoined ∈ g_tb := gq_in gq_s3 103 rfl rfl
set_option maxRecDepth 20000 in
theorem m_699 : Cond.code yX7_readJoined cX7_readJoined 5 none ∈ g_tb := gq_in gq_s3 104 rfl rfl
set_option maxRecDepth 20000 in
theorem m_700 : Cond.methodLink RX7 45 yX9_isFaulty ∈ g_tb := gq_in gq_s3 105 rfl rfl
set_option maxRecDepth 20000 in
theorem m_701 : Cond.methodLink RX7 79 yX7_readValue ∈ g_tb := gq_in gq_s3 106 rfl rfl
set_option maxRecDepth 20000 in
theorem m_703 : Cond.instanceMethod yX7_readValue ∈ g_tb := gq_in gq_s3 108 rfl rfl
set_option maxRecDepth 20000 in
theorem m_704 : Cond.code yX7_readValue cX7_readValue 3 none ∈ g_tb := gq_in gq_s3 109 rfl rfl
set_option maxRecDepth 20000 in
theorem m_705 : Cond.methodLink RX7 85 yX7_put ∈ g_tb := gq_in gq_s3 110 rfl rfl
set_option maxRecDepth 20000 in
theorem m_707 : Cond.instanceMethod yX7_put ∈ g_tb := gq_in gq_s3 112 rfl rfl
set_option maxRecDepth 20000 in
theorem m_708 : Cond.code yX7_put cX7_put 2 none ∈ g_tb := gq_in gq_s3 113 rfl rfl
set_option maxRecDepth 20000 in
theorem m_709 : Cond.constant RX7 105 99999 ∈ g_tb := gq_in gq_s3 114 rfl rfl
set_option maxRecDepth 20000 in
theorem m_710 : Cond.methodLink RX7 106 yX9_number ∈ g_tb := gq_in gq_s3 115 rfl rfl
set_option maxRecDepth 20000 in
theorem m_711 : Cond.methodLink RX7 102 yX7_countValue ∈ g_tb := gq_in gq_s3 116 rfl rfl
set_option maxRecDepth 20000 in
theorem m_713 : Cond.instanceMethod yX7_countValue ∈ g_tb := gq_in gq_s3 118 rfl rfl
set_option maxRecDepth 20000 in
theorem m_714 : Cond.code yX7_countValue cX7_countValue 2 none ∈ g_tb := gq_in gq_s3 119 rfl rfl
set_option maxRecDepth 20000 in
theorem m_715 : Cond.methodLink RX7 82 yX7_readFact ∈ g_tb := gq_in gq_s3 120 rfl rfl
set_option maxRecDepth 20000 in
theorem m_717 : Cond.instanceMethod yX7_readFact ∈ g_tb := gq_in gq_s3 122 rfl rfl
set_option maxRecDepth 20000 in
theorem m_718 : Cond.code yX7_readFact cX7_readFact 4 none ∈ g_tb := gq_in gq_s3 123 rfl rfl
set_option maxRecDepth 20000 in
theorem m_719 : Cond.methodLink RX7 92 yX9_expect ∈ g_tb := gq_in gq_s3 124 rfl rfl
set_option maxRecDepth 20000 in
theorem m_720 : Cond.methodLink RX7 95 yX7_readComparing ∈ g_tb := gq_in gq_s3 125 rfl rfl
set_option maxRecDepth 20000 in
theorem m_722 : Cond.instanceMethod yX7_readComparing ∈ g_tb := gq_in gq_s3 127 rfl rfl
set_option maxRecDepth 20000 in
theorem m_723 : Cond.code yX7_readComparing cX7_readComparing 2 (some .int) ∈ g_tb := gq_in gq_s3 128 rfl rfl
set_option maxRecDepth 20000 in
theorem m_724 : Cond.methodLink RX7 98 yX7_comparingOf ∈ g_tb := gq_in gq_s3 129 rfl rfl
set_option maxRecDepth 20000 in
theorem m_725 : Cond.static yX7_comparingOf ∈ g_tb := gq_in gq_s3 130 rfl rfl
set_option maxRecDepth 20000 in
theorem m_726 : Cond.code yX7_comparingOf cX7_comparingOf 1 (some .int) ∈ g_tb := gq_in gq_s3 131 rfl rfl
set_option maxRecDepth 20000 in
theorem m_727 : Cond.methodLink RX7 88 yX7_joinerOf ∈ g_tb := gq_in gq_s3 132 rfl rfl
set_option maxRecDepth 20000 in
theorem m_728 : Cond.static yX7_joinerOf ∈ g_tb := gq_in gq_s3 133 rfl rfl
set_option maxRecDepth 20000 in
theorem m_729 : Cond.code yX7_joinerOf cX7_joinerOf 2 (some .int) ∈ g_tb := gq_in gq_s3 134 rfl rfl
set_option maxRecDepth 20000 in
theorem m_730 : Cond.methodLink RX7 41 yX9_goesOn ∈ g_tb := gq_in gq_s3 135 rfl rfl
set_option maxRecDepth 20000 in
theorem m_731 : Cond.classLink RX7 48 RX6 ∈ g_tb := gq_in gq_s3 136 rfl rfl
set_option maxRecDepth 20000 in
theorem m_732 : Cond.instantiable RX6 2 ∈ g_tb := gq_in gq_s3 137 rfl rfl
set_option maxRecDepth 20000 in
theorem m_733 : Cond.methodLink RX7 50 yJ7_copyOf_59c91 ∈ g_tb := gq_in gq_s3 138 rfl rfl
set_option maxRecDepth 20000 in
theorem m_734 : Cond.static yJ7_copyOf_59c91 ∈ g_tb := gq_in gq_s3 139 rfl rfl
set_option maxRecDepth 20000 in
theorem m_735 : Cond.code yJ7_copyOf_59c91 cJ7_copyOf_59c91 3 (some (.array .int)) ∈ g_tb := gq_in gq_s3 140 rfl rfl
set_option maxRecDepth 20000 in
theorem m_743 : Cond.methodLink "java/util/Arrays" 304 Lib.Math.min.name ∈ g_tb := gq_in gq_s3 148 rfl rfl
set_option maxRecDepth 20000 in
theorem m_746 : Cond.methodLink "java/util/Arrays" 150 arraycopyName ∈ g_tb := gq_in gq_s3 151 rfl rfl
set_option maxRecDepth 20000 in
theorem m_747 : Cond.methodLink RX7 56 yX6_init ∈ g_tb := gq_in gq_s3 152 rfl rfl
set_option maxRecDepth 20000 in
theorem m_748 : Cond.instanceMethod yX6_init ∈ g_tb := gq_in gq_s3 153 rfl rfl
set_option maxRecDepth 20000 in
theorem m_749 : Cond.code yX6_init cX6_init 3 none ∈ g_tb := gq_in gq_s3 154 rfl rfl
set_option maxRecDepth 20000 in
theorem m_750 : Cond.methodLink RX6 1 Lib.objectInit ∈ g_tb := gq_in gq_s3 155 rfl rfl
set_option maxRecDepth 20000 in
theorem m_768 : Cond.methodLink RX11 127 yX11_isHeir ∈ g_tb := gq_in gq_s3 173 rfl rfl
set_option maxRecDepth 20000 in
theorem m_770 : Cond.instanceMethod yX11_isHeir ∈ g_tb := gq_in gq_s3 175 rfl rfl
set_option maxRecDepth 20000 in
theorem m_771 : Cond.code yX11_isHeir cX11_isHeir 2 (some .boolean) ∈ g_tb := gq_in gq_s3 176 rfl rfl
set_option maxRecDepth 20000 in
theorem m_772 : Cond.methodLink RX11 140 yX11_bit ∈ g_tb := gq_in gq_s3 177 rfl rfl
set_option maxRecDepth 20000 in
theorem m_773 : Cond.methodLink RX11 147 yX8_knownBy ∈ g_tb := gq_in gq_s3 178 rfl rfl
set_option maxRecDepth 20000 in
theorem m_774 : Cond.instanceMethod yX8_knownBy ∈ g_tb := gq_in gq_s3 179 rfl rfl
set_option maxRecDepth 20000 in
theorem m_775 : Cond.selects RX8 yX8_knownBy yX8_knownBy ∈ g_tb := gq_in gq_s3 180 rfl rfl
set_option maxRecDepth 20000 in
theorem m_776 : Cond.code yX8_knownBy cX8_knownBy 5 (some .int) ∈ g_tb := gq_in gq_s3 181 rfl rfl
set_option maxRecDepth 20000 in
theorem m_777 : Cond.methodLink RX11 151 yX8_heldBy ∈ g_tb := gq_in gq_s3 182 rfl rfl
set_option maxRecDepth 20000 in
theorem m_778 : Cond.instanceMethod yX8_heldBy ∈ g_tb := gq_in gq_s3 183 rfl rfl
set_option maxRecDepth 20000 in
theorem m_779 : Cond.selects RX8 yX8_heldBy yX8_heldBy ∈ g_tb := gq_in gq_s3 184 rfl rfl
set_option maxRecDepth 20000 in
theorem m_780 : Cond.code yX8_heldBy cX8_heldBy 5 (some .int) ∈ g_tb := gq_in gq_s3 185 rfl rfl
set_option maxRecDepth 20000 in
theorem m_781 : Cond.methodLink RX8 76 yX8_holdersOf ∈ g_tb := gq_in gq_s3 186 rfl rfl
set_option maxRecDepth 20000 in
theorem m_782 : Cond.instanceMethod yX8_holdersOf ∈ g_tb := gq_in gq_s3 187 rfl rfl
set_option maxRecDepth 20000 in
theorem m_783 : Cond.selects RX8 yX8_holdersOf yX8_holdersOf ∈ g_tb := gq_in gq_s3 188 rfl rfl
set_option maxRecDepth 20000 in
theorem m_784 : Cond.code yX8_holdersOf cX8_holdersOf 7 (some .int) ∈ g_tb := gq_in gq_s3 189 rfl rfl
set_option maxRecDepth 20000 in
theorem m_785 : Cond.methodLink RX8 69 yX8_heldAs ∈ g_tb := gq_in gq_s3 190 rfl rfl
set_option maxRecDepth 20000 in
theorem m_787 : Cond.instanceMethod yX8_heldAs ∈ g_tb := gq_in gq_s3 192 rfl rfl
set_option maxRecDepth 20000 in
theorem m_788 : Cond.code yX8_heldAs cX8_heldAs 7 (some .int) ∈ g_tb := gq_in gq_s3 193 rfl rfl
set_option maxRecDepth 20000 in
theorem m_794 : Cond.methodLink RX11 154 yX11_isThing ∈ g_tb := gq_in gq_s3 199 rfl rfl
set_option maxRecDepth 20000 in
theorem m_796 : Cond.instanceMethod yX11_isThing ∈ g_tb := gq_in gq_s3 201 rfl rfl
set_option maxRecDepth 20000 in
theorem m_797 : Cond.code yX11_isThing cX11_isThing 2 (some .boolean) ∈ g_tb := gq_in gq_s3 202 rfl rfl
set_option maxRecDepth 20000 in
theorem m_798 : Cond.methodLink RX11 175 yX8_holdersOf ∈ g_tb := gq_in gq_s3 203 rfl rfl
set_option maxRecDepth 20000 in
theorem m_807 : Cond.methodLink RX11 196 yX8_standing ∈ g_tb := gq_in gq_s3 212 rfl rfl
set_option maxRecDepth 20000 in
theorem m_808 : Cond.instanceMethod yX8_standing ∈ g_tb := gq_in gq_s3 213 rfl rfl
set_option maxRecDepth 20000 in
theorem m_809 : Cond.selects RX8 yX8_standing yX8_standing ∈ g_tb := gq_in gq_s3 214 rfl rfl
set_option maxRecDepth 20000 in
theorem m_810 : Cond.code yX8_standing cX8_standing 4 (some .int) ∈ g_tb := gq_in gq_s3 215 rfl rfl
set_option maxRecDepth 20000 in
theorem m_811 : Cond.methodLink RX11 200 yX8_heldTogether ∈ g_tb := gq_in gq_s3 216 rfl rfl
set_option maxRecDepth 20000 in
theorem m_812 : Cond.instanceMethod yX8_heldTogether ∈ g_tb := gq_in gq_s3 217 rfl rfl
set_option maxRecDepth 20000 in
theorem m_813 : Cond.selects RX8 yX8_heldTogether yX8_heldTogether ∈ g_tb := gq_in gq_s3 218 rfl rfl
set_option maxRecDepth 20000 in
theorem m_814 : Cond.code yX8_heldTogether cX8_heldTogether 4 (some .int) ∈ g_tb := gq_in gq_s3 219 rfl rfl
set_option maxRecDepth 20000 in
theorem m_815 : Cond.methodLink RX8 79 yJ6_bitCount_0f7a4 ∈ g_tb := gq_in gq_s3 220 rfl rfl
set_option maxRecDepth 20000 in
theorem m_816 : Cond.static yJ6_bitCount_0f7a4 ∈ g_tb := gq_in gq_s3 221 rfl rfl
set_option maxRecDepth 20000 in
theorem m_817 : Cond.code yJ6_bitCount_0f7a4 cJ6_bitCount_0f7a4 1 (some .int) ∈ g_tb := gq_in gq_s3 222 rfl rfl
set_option maxRecDepth 20000 in
theorem m_818 : Cond.constant "java/lang/Integer" 265 1431655765 ∈ g_tb := gq_in gq_s3 223 rfl rfl
set_option maxRecDepth 20000 in
theorem m_819 : Cond.constant "java/lang/Integer" 266 858993459 ∈ g_tb := gq_in gq_s3 224 rfl rfl
set_option maxRecDepth 20000 in
theorem m_820 : Cond.constant "java/lang/Integer" 267 252645135 ∈ g_tb := gq_in gq_s3 225 rfl rfl
set_option maxRecDepth 20000 in
theorem m_825 : Cond.methodLink RX11 208 yX4_keep ∈ g_tb := gq_in gq_s3 230 rfl rfl
set_option maxRecDepth 20000 in
theorem m_826 : Cond.instanceMethod yX4_keep ∈ g_tb := gq_in gq_s3 231 rfl rfl
set_option maxRecDepth 20000 in
theorem m_827 : Cond.selects RX4 yX4_keep yX4_keep ∈ g_tb := gq_in gq_s3 232 rfl rfl
set_option maxRecDepth 20000 in
theorem m_828 : Cond.code yX4_keep cX4_keep 2 none ∈ g_tb := gq_in gq_s3 233 rfl rfl
set_option maxRecDepth 20000 in
theorem m_829 : Cond.methodLink RX4 23 yX8_copy ∈ g_tb := gq_in gq_s3 234 rfl rfl
set_option maxRecDepth 20000 in
theorem m_830 : Cond.methodLink RX4 27 Lib.Math.min.name ∈ g_tb := gq_in gq_s3 235 rfl rfl
set_option maxRecDepth 20000 in
theorem m_831 : Cond.methodLink RX11 211 yX11_ruleInForce ∈ g_tb := gq_in gq_s3 236 rfl rfl
set_option maxRecDepth 20000 in
theorem m_833 : Cond.instanceMethod yX11_ruleInForce ∈ g_tb := gq_in gq_s3 238 rfl rfl
set_option maxRecDepth 20000 in
theorem m_834 : Cond.code yX11_ruleInForce cX11_ruleInForce 1 (some (.object "ForgetHeirs$Rule")) ∈ g_tb := gq_in gq_s3 239 rfl rfl
set_option maxRecDepth 20000 in
theorem m_835 : Cond.methodLink RX11 214 yX10_pass ∈ g_tb := gq_in gq_s4 0 rfl rfl
set_option maxRecDepth 20000 in
theorem m_836 : Cond.instanceMethod yX10_pass ∈ g_tb := gq_in gq_s4 1 rfl rfl
set_option maxRecDepth 20000 in
theorem m_837 : Cond.selects RX10 yX10_pass yX10_pass ∈ g_tb := gq_in gq_s4 2 rfl rfl
set_option maxRecDepth 20000 in
theorem m_838 : Cond.code yX10_pass cX10_pass 5 (some .int) ∈ g_tb := gq_in gq_s4 3 rfl rfl
set_option maxRecDepth 20000 in
theorem m_839 : Cond.methodLink RX10 22 yX10_weigh ∈ g_tb := gq_in gq_s4 4 rfl rfl
set_option maxRecDepth 20000 in
theorem m_841 : Cond.instanceMethod yX10_weigh ∈ g_tb := gq_in gq_s4 6 rfl rfl
set_option maxRecDepth 20000 in
theorem m_842 : Cond.code yX10_weigh cX10_weigh 7 none ∈ g_tb := gq_in gq_s4 7 rfl rfl
set_option maxRecDepth 20000 in
theorem m_843 : Cond.methodLink RX10 63 yX1_plainLoss ∈ g_tb := gq_in gq_s4 8 rfl rfl
set_option maxRecDepth 20000 in
theorem m_844 : Cond.instanceMethod yX1_plainLoss ∈ g_tb := gq_in gq_s4 9 rfl rfl
set_option maxRecDepth 20000 in
theorem m_845 : Cond.selects RX1 yX1_plainLoss yX1_plainLoss ∈ g_tb := gq_in gq_s4 10 rfl rfl
set_option maxRecDepth 20000 in
theorem m_846 : Cond.code yX1_plainLoss cX1_plainLoss 6 (some .int) ∈ g_tb := gq_in gq_s4 11 rfl rfl
set_option maxRecDepth 20000 in
theorem m_848 : Cond.methodLink RX10 67 yX5_look ∈ g_tb := gq_in gq_s4 13 rfl rfl
set_option maxRecDepth 20000 in
theorem m_849 : Cond.instanceMethod yX5_look ∈ g_tb := gq_in gq_s4 14 rfl rfl
set_option maxRecDepth 20000 in
theorem m_850 : Cond.selects RX5 yX5_look yX5_look ∈ g_tb := gq_in gq_s4 15 rfl rfl
set_option maxRecDepth 20000 in
theorem m_851 : Cond.code yX5_look cX5_look 6 none ∈ g_tb := gq_in gq_s4 16 rfl rfl
set_option maxRecDepth 20000 in
theorem m_853 : Cond.methodLink RX5 63 yX8_knowersAs ∈ g_tb := gq_in gq_s4 18 rfl rfl
set_option maxRecDepth 20000 in
theorem m_854 : Cond.instanceMethod yX8_knowersAs ∈ g_tb := gq_in gq_s4 19 rfl rfl
set_option maxRecDepth 20000 in
theorem m_855 : Cond.selects RX8 yX8_knowersAs yX8_knowersAs ∈ g_tb := gq_in gq_s4 20 rfl rfl
set_option maxRecDepth 20000 in
theorem m_856 : Cond.code yX8_knowersAs cX8_knowersAs 7 (some .int) ∈ g_tb := gq_in gq_s4 21 rfl rfl
set_option maxRecDepth 20000 in
theorem m_857 : Cond.methodLink RX5 67 yJ6_bitCount_0f7a4 ∈ g_tb := gq_in gq_s4 22 rfl rfl
set_option maxRecDepth 20000 in
theorem m_858 : Cond.methodLink RX5 73 yX8_knownBy ∈ g_tb := gq_in gq_s4 23 rfl rfl
set_option maxRecDepth 20000 in
theorem m_859 : Cond.constantLong RX10 71 99 ∈ g_tb := gq_in gq_s4 24 rfl rfl
set_option maxRecDepth 20000 in
theorem m_860 : Cond.methodLink RX10 73 yX5_loss ∈ g_tb := gq_in gq_s4 25 rfl rfl
set_option maxRecDepth 20000 in
theorem m_861 : Cond.instanceMethod yX5_loss ∈ g_tb := gq_in gq_s4 26 rfl rfl
set_option maxRecDepth 20000 in
theorem m_862 : Cond.selects RX5 yX5_loss yX5_loss ∈ g_tb := gq_in gq_s4 27 rfl rfl
set_option maxRecDepth 20000 in
theorem m_863 : Cond.code yX5_loss cX5_loss 5 (some .long) ∈ g_tb := gq_in gq_s4 28 rfl rfl
set_option maxRecDepth 20000 in
theorem m_864 : Cond.methodLink RX5 85 yX5_run ∈ g_tb := gq_in gq_s4 29 rfl rfl
set_option maxRecDepth 20000 in
theorem m_866 : Cond.instanceMethod yX5_run ∈ g_tb := gq_in gq_s4 31 rfl rfl
set_option maxRecDepth 20000 in
theorem m_867 : Cond.code yX5_run cX5_run 9 (some .long) ∈ g_tb := gq_in gq_s4 32 rfl rfl
set_option maxRecDepth 20000 in
theorem m_868 : Cond.methodLink RX5 89 yX5_push ∈ g_tb := gq_in gq_s4 33 rfl rfl
set_option maxRecDepth 20000 in
theorem m_870 : Cond.instanceMethod yX5_push ∈ g_tb := gq_in gq_s4 35 rfl rfl
set_option maxRecDepth 20000 in
theorem m_871 : Cond.code yX5_push cX5_push 3 none ∈ g_tb := gq_in gq_s4 36 rfl rfl
set_option maxRecDepth 20000 in
theorem m_872 : Cond.methodLink RX5 93 yX5_pop ∈ g_tb := gq_in gq_s4 37 rfl rfl
set_option maxRecDepth 20000 in
theorem m_874 : Cond.instanceMethod yX5_pop ∈ g_tb := gq_in gq_s4 39 rfl rfl
set_option maxRecDepth 20000 in
theorem m_875 : Cond.code yX5_pop cX5_pop 1 (some .long) ∈ g_tb := gq_in gq_s4 40 rfl rfl
set_option maxRecDepth 20000 in
theorem m_876 : Cond.methodLink RX5 97 yX5_joined ∈ g_tb := gq_in gq_s4 41 rfl rfl
set_option maxRecDepth 20000 in
theorem m_877 : Cond.static yX5_joined ∈ g_tb := gq_in gq_s4 42 rfl rfl
set_option maxRecDepth 20000 in
theorem m_878 : Cond.code yX5_joined cX5_joined 5 (some .long) ∈ g_tb := gq_in gq_s4 43 rfl rfl
set_option maxRecDepth 20000 in
theorem m_879 : Cond.methodLink RX10 77 Lib.MathLoose.min_long.x ∈ g_tb := gq_in gq_s4 44 rfl rfl
set_option maxRecDepth 20000 in
theorem m_882 : Cond.methodLink RX10 80 Lib.MathLoose.max_long.x ∈ g_tb := gq_in gq_s4 47 rfl rfl
set_option maxRecDepth 20000 in
theorem m_885 : Cond.methodLink RX10 26 yX10_fadeAll ∈ g_tb := gq_in gq_s4 50 rfl rfl
set_option maxRecDepth 20000 in
theorem m_887 : Cond.instanceMethod yX10_fadeAll ∈ g_tb := gq_in gq_s4 52 rfl rfl
set_option maxRecDepth 20000 in
theorem m_888 : Cond.code yX10_fadeAll cX10_fadeAll 6 none ∈ g_tb := gq_in gq_s4 53 rfl rfl
set_option maxRecDepth 20000 in
theorem m_889 : Cond.methodLink RX10 83 yX8_forget ∈ g_tb := gq_in gq_s4 54 rfl rfl
set_option maxRecDepth 20000 in
theorem m_890 : Cond.instanceMethod yX8_forget ∈ g_tb := gq_in gq_s4 55 rfl rfl
set_option maxRecDepth 20000 in
theorem m_891 : Cond.selects RX8 yX8_forget yX8_forget ∈ g_tb := gq_in gq_s4 56 rfl rfl
set_option maxRecDepth 20000 in
theorem m_892 : Cond.code yX8_forget cX8_forget 3 none ∈ g_tb := gq_in gq_s4 57 rfl rfl
set_option maxRecDepth 20000 in
theorem m_893 : Cond.methodLink RX8 40 yX8_learn ∈ g_tb := gq_in gq_s4 58 rfl rfl
set_option maxRecDepth 20000 in
theorem m_894 : Cond.methodLink RX10 41 Lib.Math.min.name ∈ g_tb := gq_in gq_s4 59 rfl rfl
set_option maxRecDepth 20000 in
theorem m_895 : Cond.methodLink RX10 47 yX10_strikeForgotten ∈ g_tb := gq_in gq_s4 60 rfl rfl
set_option maxRecDepth 20000 in
theorem m_897 : Cond.instanceMethod yX10_strikeForgotten ∈ g_tb := gq_in gq_s4 62 rfl rfl
set_option maxRecDepth 20000 in
theorem m_898 : Cond.code yX10_strikeForgotten cX10_strikeForgotten 5 (some .int) ∈ g_tb := gq_in gq_s4 63 rfl rfl
set_option maxRecDepth 20000 in
theorem m_899 : Cond.methodLink RX10 90 yX8_holdersOf ∈ g_tb := gq_in gq_s4 64 rfl rfl
set_option maxRecDepth 20000 in
theorem m_904 : Cond.methodLink RX11 218 yX11_isKnown ∈ g_tb := gq_in gq_s4 69 rfl rfl
set_option maxRecDepth 20000 in
theorem m_906 : Cond.instanceMethod yX11_isKnown ∈ g_tb := gq_in gq_s4 71 rfl rfl
set_option maxRecDepth 20000 in
theorem m_907 : Cond.code yX11_isKnown cX11_isKnown 3 (some .boolean) ∈ g_tb := gq_in gq_s4 72 rfl rfl
set_option maxRecDepth 20000 in
theorem m_908 : Cond.methodLink RX11 222 yX8_takes ∈ g_tb := gq_in gq_s4 73 rfl rfl
set_option maxRecDepth 20000 in
theorem m_909 : Cond.instanceMethod yX8_takes ∈ g_tb := gq_in gq_s4 74 rfl rfl
set_option maxRecDepth 20000 in
theorem m_910 : Cond.selects RX8 yX8_takes yX8_takes ∈ g_tb := gq_in gq_s4 75 rfl rfl
set_option maxRecDepth 20000 in
theorem m_911 : Cond.code yX8_takes cX8_takes 6 (some .boolean) ∈ g_tb := gq_in gq_s4 76 rfl rfl
set_option maxRecDepth 20000 in
theorem m_912 : Cond.methodLink RX8 44 Lib.Math.max.name ∈ g_tb := gq_in gq_s4 77 rfl rfl
set_option maxRecDepth 20000 in
theorem m_915 : Cond.methodLink RX11 226 yX11_spread ∈ g_tb := gq_in gq_s4 80 rfl rfl
set_option maxRecDepth 20000 in
theorem m_917 : Cond.instanceMethod yX11_spread ∈ g_tb := gq_in gq_s4 82 rfl rfl
set_option maxRecDepth 20000 in
theorem m_918 : Cond.code yX11_spread cX11_spread 7 (some .int) ∈ g_tb := gq_in gq_s4 83 rfl rfl
set_option maxRecDepth 20000 in
theorem m_923 : Cond.methodLink RX11 230 yX11_prompted ∈ g_tb := gq_in gq_s4 88 rfl rfl
set_option maxRecDepth 20000 in
theorem m_924 : Cond.static yX11_prompted ∈ g_tb := gq_in gq_s4 89 rfl rfl
set_option maxRecDepth 20000 in
theorem m_925 : Cond.code yX11_prompted cX11_prompted 1 (some .int) ∈ g_tb := gq_in gq_s4 90 rfl rfl
set_option maxRecDepth 20000 in
theorem m_926 : Cond.methodLink RX11 258 Lib.Math.min.name ∈ g_tb := gq_in gq_s4 91 rfl rfl
set_option maxRecDepth 20000 in
theorem m_931 : Cond.methodLink RX11 234 yX8_isAsked ∈ g_tb := gq_in gq_s4 96 rfl rfl
set_option maxRecDepth 20000 in
theorem m_932 : Cond.instanceMethod yX8_isAsked ∈ g_tb := gq_in gq_s4 97 rfl rfl
set_option maxRecDepth 20000 in
theorem m_933 : Cond.selects RX8 yX8_isAsked yX8_isAsked ∈ g_tb := gq_in gq_s4 98 rfl rfl
set_option maxRecDepth 20000 in
theorem m_934 : Cond.code yX8_isAsked cX8_isAsked 4 none ∈ g_tb := gq_in gq_s4 99 rfl rfl
set_option maxRecDepth 20000 in
theorem m_935 : Cond.methodLink RX8 50 yX8_errs ∈ g_tb := gq_in gq_s4 100 rfl rfl
set_option maxRecDepth 20000 in
theorem m_936 : Cond.instanceMethod yX8_errs ∈ g_tb := gq_in gq_s4 101 rfl rfl
set_option maxRecDepth 20000 in
theorem m_937 : Cond.selects RX8 yX8_errs yX8_errs ∈ g_tb := gq_in gq_s4 102 rfl rfl
set_option maxRecDepth 20000 in
theorem m_938 : Cond.code yX8_errs cX8_errs 5 (some .boolean) ∈ g_tb := gq_in gq_s4 103 rfl rfl
set_option maxRecDepth 20000 in
theorem m_939 : Cond.methodLink RX8 54 yX8_forget ∈ g_tb := gq_in gq_s4 104 rfl rfl
set_option maxRecDepth 20000 in
theorem m_948 : Cond.methodLink RX11 238 yX4_giveBack ∈ g_tb := gq_in gq_s4 113 rfl rfl
set_option maxRecDepth 20000 in
theorem m_949 : Cond.instanceMethod yX4_giveBack ∈ g_tb := gq_in gq_s4 114 rfl rfl
set_option maxRecDepth 20000 in
theorem m_950 : Cond.selects RX4 yX4_giveBack yX4_giveBack ∈ g_tb := gq_in gq_s4 115 rfl rfl
set_option maxRecDepth 20000 in
theorem m_951 : Cond.code yX4_giveBack cX4_giveBack 2 (some .boolean) ∈ g_tb := gq_in gq_s4 116 rfl rfl
set_option maxRecDepth 20000 in
theorem m_956 : Cond.methodLink RX11 242 yX11_lookAhead ∈ g_tb := gq_in gq_s4 121 rfl rfl
set_option maxRecDepth 20000 in
theorem m_958 : Cond.instanceMethod yX11_lookAhead ∈ g_tb := gq_in gq_s4 123 rfl rfl
set_option maxRecDepth 20000 in
theorem m_959 : Cond.code yX11_lookAhead cX11_lookAhead 3 none ∈ g_tb := gq_in gq_s4 124 rfl rfl
set_option maxRecDepth 20000 in
theorem m_964 : Cond.methodLink RX11 245 yX11_strikeLater ∈ g_tb := gq_in gq_s4 129 rfl rfl
set_option maxRecDepth 20000 in
theorem m_966 : Cond.instanceMethod yX11_strikeLater ∈ g_tb := gq_in gq_s4 131 rfl rfl
set_option maxRecDepth 20000 in
theorem m_967 : Cond.code yX11_strikeLater cX11_strikeLater 3 (some .int) ∈ g_tb := gq_in gq_s4 132 rfl rfl
set_option maxRecDepth 20000 in
theorem m_972 : Cond.methodLink RX11 248 yX8_isAnyHeld ∈ g_tb := gq_in gq_s4 137 rfl rfl
set_option maxRecDepth 20000 in
theorem m_973 : Cond.instanceMethod yX8_isAnyHeld ∈ g_tb := gq_in gq_s4 138 rfl rfl
set_option maxRecDepth 20000 in
theorem m_974 : Cond.selects RX8 yX8_isAnyHeld yX8_isAnyHeld ∈ g_tb := gq_in gq_s4 139 rfl rfl
set_option maxRecDepth 20000 in
theorem m_975 : Cond.code yX8_isAnyHeld cX8_isAnyHeld 3 (some .boolean) ∈ g_tb := gq_in gq_s4 140 rfl rfl
set_option maxRecDepth 20000 in
theorem m_976 : Cond.methodLink RX11 252 yX8_holdsMost ∈ g_tb := gq_in gq_s4 141 rfl rfl
set_option maxRecDepth 20000 in
theorem m_977 : Cond.instanceMethod yX8_holdsMost ∈ g_tb := gq_in gq_s4 142 rfl rfl
set_option maxRecDepth 20000 in
theorem m_978 : Cond.selects RX8 yX8_holdsMost yX8_holdsMost ∈ g_tb := gq_in gq_s4 143 rfl rfl
set_option maxRecDepth 20000 in
theorem m_979 : Cond.code yX8_holdsMost cX8_holdsMost 6 (some .int) ∈ g_tb := gq_in gq_s4 144 rfl rfl
set_option maxRecDepth 20000 in
theorem m_980 : Cond.methodLink RX8 85 yX8_heldBy ∈ g_tb := gq_in gq_s4 145 rfl rfl
set_option maxRecDepth 20000 in
theorem m_985 : Cond.methodLink RX11 255 yX8_lasts ∈ g_tb := gq_in gq_s4 150 rfl rfl
set_option maxRecDepth 20000 in
theorem m_986 : Cond.instanceMethod yX8_lasts ∈ g_tb := gq_in gq_s4 151 rfl rfl
set_option maxRecDepth 20000 in
theorem m_987 : Cond.selects RX8 yX8_lasts yX8_lasts ∈ g_tb := gq_in gq_s4 152 rfl rfl
set_option maxRecDepth 20000 in
theorem m_988 : Cond.code yX8_lasts cX8_lasts 2 (some .int) ∈ g_tb := gq_in gq_s4 153 rfl rfl
set_option maxRecDepth 20000 in
theorem m_989 : Cond.constant RX8 88 1000000 ∈ g_tb := gq_in gq_s4 154 rfl rfl
set_option maxRecDepth 20000 in
theorem m_1002 : Cond.methodLink RX11 263 yX1_plainLoss ∈ g_tb := gq_in gq_s4 167 rfl rfl
set_option maxRecDepth 20000 in
theorem m_1007 : Cond.methodLink RX11 267 yX8_forget ∈ g_tb := gq_in gq_s4 172 rfl rfl
set_option maxRecDepth 20000 in
theorem m_1012 : Cond.methodLink RX11 271 yX11_heldBehindAsk ∈ g_tb := gq_in gq_s4 177 rfl rfl
set_option maxRecDepth 20000 in
theorem m_1014 : Cond.instanceMethod yX11_heldBehindAsk ∈ g_tb := gq_in gq_s4 179 rfl rfl
set_option maxRecDepth 20000 in
theorem m_1015 : Cond.code yX11_heldBehindAsk cX11_heldBehindAsk 2 (some .int) ∈ g_tb := gq_in gq_s4 180 rfl rfl
set_option maxRecDepth 20000 in
theorem m_1020 : Cond.methodLink RX11 274 yX8_strengthAs ∈ g_tb := gq_in gq_s4 185 rfl rfl
set_option maxRecDepth 20000 in
theorem m_1021 : Cond.instanceMethod yX8_strengthAs ∈ g_tb := gq_in gq_s4 186 rfl rfl
set_option maxRecDepth 20000 in
theorem m_1022 : Cond.selects RX8 yX8_strengthAs yX8_strengthAs ∈ g_tb := gq_in gq_s4 187 rfl rfl
set_option maxRecDepth 20000 in
theorem m_1023 : Cond.code yX8_strengthAs cX8_strengthAs 7 (some .int) ∈ g_tb := gq_in gq_s4 188 rfl rfl
set_option maxRecDepth 20000 in
theorem m_1028 : Cond.methodLink RX11 278 yX11_fillUnlike ∈ g_tb := gq_in gq_s4 193 rfl rfl
set_option maxRecDepth 20000 in
theorem m_1030 : Cond.instanceMethod yX11_fillUnlike ∈ g_tb := gq_in gq_s4 195 rfl rfl
set_option maxRecDepth 20000 in
theorem m_1031 : Cond.code yX11_fillUnlike cX11_fillUnlike 5 (some .int) ∈ g_tb := gq_in gq_s4 196 rfl rfl
set_option maxRecDepth 20000 in
theorem m_1032 : Cond.methodLink RX11 289 yX8_knownUnlike ∈ g_tb := gq_in gq_s4 197 rfl rfl
set_option maxRecDepth 20000 in
theorem m_1033 : Cond.instanceMethod yX8_knownUnlike ∈ g_tb := gq_in gq_s4 198 rfl rfl
set_option maxRecDepth 20000 in
theorem m_1034 : Cond.selects RX8 yX8_knownUnlike yX8_knownUnlike ∈ g_tb := gq_in gq_s4 199 rfl rfl
set_option maxRecDepth 20000 in
theorem m_1035 : Cond.code yX8_knownUnlike cX8_knownUnlike 10 (some .int) ∈ g_tb := gq_in gq_s4 200 rfl rfl
set_option maxRecDepth 20000 in
theorem m_1036 : Cond.methodLink RX11 281 yJ6_bitCount_0f7a4 ∈ g_tb := gq_in gq_s4 201 rfl rfl
set_option maxRecDepth 20000 in
theorem m_1037 : Cond.methodLink RX11 286 yX11_partsAll ∈ g_tb := gq_in gq_s4 202 rfl rfl
set_option maxRecDepth 20000 in
theorem m_1039 : Cond.instanceMethod yX11_partsAll ∈ g_tb := gq_in gq_s4 204 rfl rfl
set_option maxRecDepth 20000 in
theorem m_1040 : Cond.code yX11_partsAll cX11_partsAll 4 (some .boolean) ∈ g_tb := gq_in gq_s4 205 rfl rfl
set_option maxRecDepth 20000 in
theorem m_1045 : Cond.methodLink RX11 292 yX0_clear ∈ g_tb := gq_in gq_s4 210 rfl rfl
set_option maxRecDepth 20000 in
theorem m_1046 : Cond.instanceMethod yX0_clear ∈ g_tb := gq_in gq_s4 211 rfl rfl
set_option maxRecDepth 20000 in
theorem m_1047 : Cond.selects RX0 yX0_clear yX0_clear ∈ g_tb := gq_in gq_s4 212 rfl rfl
set_option maxRecDepth 20000 in
theorem m_1048 : Cond.code yX0_clear cX0_clear 3 none ∈ g_tb := gq_in gq_s4 213 rfl rfl
set_option maxRecDepth 20000 in
theorem m_1049 : Cond.methodLink RX0 19 Lib.Math.min.name ∈ g_tb := gq_in gq_s4 214 rfl rfl
set_option maxRecDepth 20000 in
theorem m_1050 : Cond.methodLink RX11 294 yX11_sharers ∈ g_tb := gq_in gq_s4 215 rfl rfl
set_option maxRecDepth 20000 in
theorem m_1052 : Cond.instanceMethod yX11_sharers ∈ g_tb := gq_in gq_s4 217 rfl rfl
set_option maxRecDepth 20000 in
theorem m_1053 : Cond.code yX11_sharers cX11_sharers 3 (some .int) ∈ g_tb := gq_in gq_s4 218 rfl rfl
set_option maxRecDepth 20000 in
theorem m_1054 : Cond.methodLink RX11 304 yX8_errs ∈ g_tb := gq_in gq_s4 219 rfl rfl
set_option maxRecDepth 20000 in
theorem m_1055 : Cond.methodLink RX11 308 yX8_knowersAs ∈ g_tb := gq_in gq_s4 220 rfl rfl
set_option maxRecDepth 20000 in
theorem m_1056 : Cond.methodLink RX11 297 yX0_join ∈ g_tb := gq_in gq_s4 221 rfl rfl
set_option maxRecDepth 20000 in
theorem m_1057 : Cond.instanceMethod yX0_join ∈ g_tb := gq_in gq_s4 222 rfl rfl
set_option maxRecDepth 20000 in
theorem m_1058 : Cond.selects RX0 yX0_join yX0_join ∈ g_tb := gq_in gq_s4 223 rfl rfl
set_option maxRecDepth 20000 in
theorem m_1059 : Cond.code yX0_join cX0_join 3 none ∈ g_tb := gq_in gq_s4 224 rfl rfl
set_option maxRecDepth 20000 in
theorem m_1060 : Cond.methodLink RX11 300 yX0_howMany ∈ g_tb := gq_in gq_s4 225 rfl rfl
set_option maxRecDepth 20000 in
theorem m_1061 : Cond.instanceMethod yX0_howMany ∈ g_tb := gq_in gq_s4 226 rfl rfl
set_option maxRecDepth 20000 in
theorem m_1062 : Cond.selects RX0 yX0_howMany yX0_howMany ∈ g_tb := gq_in gq_s4 227 rfl rfl
set_option maxRecDepth 20000 in
theorem m_1063 : Cond.code yX0_howMany cX0_howMany 10 (some .int) ∈ g_tb := gq_in gq_s4 228 rfl rfl
set_option maxRecDepth 20000 in
theorem m_1076 : Cond.methodLink RX11 311 yX11_drinkLater ∈ g_tb := gq_in gq_s5 1 rfl rfl
set_option maxRecDepth 20000 in
theorem m_1078 : Cond.instanceMethod yX11_drinkLater ∈ g_tb := gq_in gq_s5 3 rfl rfl
set_option maxRecDepth 20000 in
theorem m_1079 : Cond.code yX11_drinkLater cX11_drinkLater 3 none ∈ g_tb := gq_in gq_s5 4 rfl rfl
set_option maxRecDepth 20000 in
theorem m_1080 : Cond.methodLink RX11 314 yX11_draw ∈ g_tb := gq_in gq_s5 5 rfl rfl
set_option maxRecDepth 20000 in
theorem m_1082 : Cond.instanceMethod yX11_draw ∈ g_tb := gq_in gq_s5 7 rfl rfl
set_option maxRecDepth 20000 in
theorem m_1083 : Cond.code yX11_draw cX11_draw 1 (some .int) ∈ g_tb := gq_in gq_s5 8 rfl rfl
set_option maxRecDepth 20000 in
theorem m_1084 : Cond.constantLong RX11 317 1103515245 ∈ g_tb := gq_in gq_s5 9 rfl rfl
set_option maxRecDepth 20000 in
theorem m_1085 : Cond.constantLong RX11 319 12345 ∈ g_tb := gq_in gq_s5 10 rfl rfl
set_option maxRecDepth 20000 in
theorem m_1086 : Cond.constantLong RX11 321 2147483648 ∈ g_tb := gq_in gq_s5 11 rfl rfl
set_option maxRecDepth 20000 in
theorem m_1087 : Cond.constant RX11 323 65536 ∈ g_tb := gq_in gq_s5 12 rfl rfl
set_option maxRecDepth 20000 in
theorem m_1101 : Cond.methodLink RX12 1 Lib.objectInit ∈ g_tb := gq_in gq_s5 26 rfl rfl
set_option maxRecDepth 20000 in
theorem m_1219 : Cond.methodLink RX12 83 yX12_four ∈ g_tb := gq_in gq_s5 144 rfl rfl
set_option maxRecDepth 20000 in
theorem m_1221 : Cond.instanceMethod yX12_four ∈ g_tb := gq_in gq_s5 146 rfl rfl
set_option maxRecDepth 20000 in
theorem m_1222 : Cond.code yX12_four cX12_four 3 none ∈ g_tb := gq_in gq_s5 147 rfl rfl
set_option maxRecDepth 20000 in
theorem m_1231 : Cond.methodLink RX12 276 yX12_readsAll ∈ g_tb := gq_in gq_s5 156 rfl rfl
set_option maxRecDepth 20000 in
theorem m_1233 : Cond.instanceMethod yX12_readsAll ∈ g_tb := gq_in gq_s5 158 rfl rfl
set_option maxRecDepth 20000 in
theorem m_1234 : Cond.code yX12_readsAll cX12_readsAll 2 (some .boolean) ∈ g_tb := gq_in gq_s5 159 rfl rfl
set_option maxRecDepth 20000 in
theorem m_1235 : Cond.methodLink RX12 270 yX12_clauseHere ∈ g_tb := gq_in gq_s5 160 rfl rfl
set_option maxRecDepth 20000 in
theorem m_1237 : Cond.instanceMethod yX12_clauseHere ∈ g_tb := gq_in gq_s5 162 rfl rfl
set_option maxRecDepth 20000 in
theorem m_1238 : Cond.code yX12_clauseHere cX12_clauseHere 3 (some .boolean) ∈ g_tb := gq_in gq_s5 163 rfl rfl
set_option maxRecDepth 20000 in
theorem m_1239 : Cond.methodLink RX12 93 yX12_see ∈ g_tb := gq_in gq_s5 164 rfl rfl
set_option maxRecDepth 20000 in
theorem m_1241 : Cond.instanceMethod yX12_see ∈ g_tb := gq_in gq_s5 166 rfl rfl
set_option maxRecDepth 20000 in
theorem m_1242 : Cond.code yX12_see cX12_see 1 (some .int) ∈ g_tb := gq_in gq_s5 167 rfl rfl
set_option maxRecDepth 20000 in
theorem m_1243 : Cond.methodLink RX12 256 yX12_isHouseWord ∈ g_tb := gq_in gq_s5 168 rfl rfl
set_option maxRecDepth 20000 in
theorem m_1245 : Cond.instanceMethod yX12_isHouseWord ∈ g_tb := gq_in gq_s5 170 rfl rfl
set_option maxRecDepth 20000 in
theorem m_1246 : Cond.code yX12_isHouseWord cX12_isHouseWord 2 (some .boolean) ∈ g_tb := gq_in gq_s5 171 rfl rfl
set_option maxRecDepth 20000 in
theorem m_1247 : Cond.constantLong RX12 229 448546567013 ∈ g_tb := gq_in gq_s5 172 rfl rfl
set_option maxRecDepth 20000 in
theorem m_1248 : Cond.methodLink RX12 101 yX12_isWord ∈ g_tb := gq_in gq_s5 173 rfl rfl
set_option maxRecDepth 20000 in
theorem m_1250 : Cond.instanceMethod yX12_isWord ∈ g_tb := gq_in gq_s5 175 rfl rfl
set_option maxRecDepth 20000 in
theorem m_1251 : Cond.code yX12_isWord cX12_isWord 6 (some .boolean) ∈ g_tb := gq_in gq_s5 176 rfl rfl
set_option maxRecDepth 20000 in
theorem m_1252 : Cond.methodLink RX12 97 yX12_isLetter ∈ g_tb := gq_in gq_s5 177 rfl rfl
set_option maxRecDepth 20000 in
theorem m_1254 : Cond.instanceMethod yX12_isLetter ∈ g_tb := gq_in gq_s5 179 rfl rfl
set_option maxRecDepth 20000 in
theorem m_1255 : Cond.code yX12_isLetter cX12_isLetter 2 (some .boolean) ∈ g_tb := gq_in gq_s5 180 rfl rfl
set_option maxRecDepth 20000 in
theorem m_1256 : Cond.constantLong RX12 124 499967946343 ∈ g_tb := gq_in gq_s5 181 rfl rfl
set_option maxRecDepth 20000 in
theorem m_1257 : Cond.constantLong RX12 136 1936682599 ∈ g_tb := gq_in gq_s5 182 rfl rfl
set_option maxRecDepth 20000 in
theorem m_1258 : Cond.constantLong RX12 122 1751476594 ∈ g_tb := gq_in gq_s5 183 rfl rfl
set_option maxRecDepth 20000 in
theorem m_1259 : Cond.constantLong RX12 134 448311616883 ∈ g_tb := gq_in gq_s5 184 rfl rfl
set_option maxRecDepth 20000 in
theorem m_1260 : Cond.constantLong RX12 246 27988572932501107 ∈ g_tb := gq_in gq_s5 185 rfl rfl
set_option maxRecDepth 20000 in
theorem m_1261 : Cond.constantLong RX12 254 461414299507 ∈ g_tb := gq_in gq_s5 186 rfl rfl
set_option maxRecDepth 20000 in
theorem m_1262 : Cond.constantLong RX12 259 1717658725 ∈ g_tb := gq_in gq_s5 187 rfl rfl
set_option maxRecDepth 20000 in
theorem m_1263 : Cond.methodLink RX12 111 yX12_fails ∈ g_tb := gq_in gq_s5 188 rfl rfl
set_option maxRecDepth 20000 in
theorem m_1265 : Cond.instanceMethod yX12_fails ∈ g_tb := gq_in gq_s5 190 rfl rfl
set_option maxRecDepth 20000 in
theorem m_1266 : Cond.code yX12_fails cX12_fails 3 (some .boolean) ∈ g_tb := gq_in gq_s5 191 rfl rfl
set_option maxRecDepth 20000 in
theorem m_1267 : Cond.methodLink RX12 264 yX12_houseLineHere ∈ g_tb := gq_in gq_s5 192 rfl rfl
set_option maxRecDepth 20000 in
theorem m_1269 : Cond.instanceMethod yX12_houseLineHere ∈ g_tb := gq_in gq_s5 194 rfl rfl
set_option maxRecDepth 20000 in
theorem m_1270 : Cond.code yX12_houseLineHere cX12_houseLineHere 2 (some .boolean) ∈ g_tb := gq_in gq_s5 195 rfl rfl
set_option maxRecDepth 20000 in
theorem m_1271 : Cond.methodLink RX12 231 yX12_isHouseHere ∈ g_tb := gq_in gq_s5 196 rfl rfl
set_option maxRecDepth 20000 in
theorem m_1273 : Cond.instanceMethod yX12_isHouseHere ∈ g_tb := gq_in gq_s5 198 rfl rfl
set_option maxRecDepth 20000 in
theorem m_1274 : Cond.code yX12_isHouseHere cX12_isHouseHere 2 (some .boolean) ∈ g_tb := gq_in gq_s5 199 rfl rfl
set_option maxRecDepth 20000 in
theorem m_1275 : Cond.methodLink RX12 105 yX12_passWord ∈ g_tb := gq_in gq_s5 200 rfl rfl
set_option maxRecDepth 20000 in
theorem m_1277 : Cond.instanceMethod yX12_passWord ∈ g_tb := gq_in gq_s5 202 rfl rfl
set_option maxRecDepth 20000 in
theorem m_1278 : Cond.code yX12_passWord cX12_passWord 1 none ∈ g_tb := gq_in gq_s5 203 rfl rfl
set_option maxRecDepth 20000 in
theorem m_1279 : Cond.methodLink RX12 222 yX12_cellHere ∈ g_tb := gq_in gq_s5 204 rfl rfl
set_option maxRecDepth 20000 in
theorem m_1281 : Cond.instanceMethod yX12_cellHere ∈ g_tb := gq_in gq_s5 206 rfl rfl
set_option maxRecDepth 20000 in
theorem m_1282 : Cond.code yX12_cellHere cX12_cellHere 4 (some .boolean) ∈ g_tb := gq_in gq_s5 207 rfl rfl
set_option maxRecDepth 20000 in
theorem m_1283 : Cond.methodLink RX12 171 yX12_numberHere ∈ g_tb := gq_in gq_s5 208 rfl rfl
set_option maxRecDepth 20000 in
theorem m_1285 : Cond.instanceMethod yX12_numberHere ∈ g_tb := gq_in gq_s5 210 rfl rfl
set_option maxRecDepth 20000 in
theorem m_1286 : Cond.code yX12_numberHere cX12_numberHere 5 (some .boolean) ∈ g_tb := gq_in gq_s5 211 rfl rfl
set_option maxRecDepth 20000 in
theorem m_1287 : Cond.methodLink RX12 108 yX12_isDigit ∈ g_tb := gq_in gq_s5 212 rfl rfl
set_option maxRecDepth 20000 in
theorem m_1289 : Cond.instanceMethod yX12_isDigit ∈ g_tb := gq_in gq_s5 214 rfl rfl
set_option maxRecDepth 20000 in
theorem m_1290 : Cond.code yX12_isDigit cX12_isDigit 2 (some .boolean) ∈ g_tb := gq_in gq_s5 215 rfl rfl
set_option maxRecDepth 20000 in
theorem m_1291 : Cond.methodLink RX12 118 yX12_in ∈ g_tb := gq_in gq_s5 216 rfl rfl
set_option maxRecDepth 20000 in
theorem m_1292 : Cond.static yX12_in ∈ g_tb := gq_in gq_s5 217 rfl rfl
set_option maxRecDepth 20000 in
theorem m_1293 : Cond.code yX12_in cX12_in 6 (some .boolean) ∈ g_tb := gq_in gq_s5 218 rfl rfl
set_option maxRecDepth 20000 in
theorem m_1294 : Cond.methodLink RX12 234 yX12_isThingHere ∈ g_tb := gq_in gq_s5 219 rfl rfl
set_option maxRecDepth 20000 in
theorem m_1296 : Cond.instanceMethod yX12_isThingHere ∈ g_tb := gq_in gq_s5 221 rfl rfl
set_option maxRecDepth 20000 in
theorem m_1297 : Cond.code yX12_isThingHere cX12_isThingHere 3 (some .boolean) ∈ g_tb := gq_in gq_s5 222 rfl rfl
set_option maxRecDepth 20000 in
theorem m_1298 : Cond.methodLink RX12 237 yX12_isHeirHere ∈ g_tb := gq_in gq_s5 223 rfl rfl
set_option maxRecDepth 20000 in
theorem m_1300 : Cond.instanceMethod yX12_isHeirHere ∈ g_tb := gq_in gq_s5 225 rfl rfl
set_option maxRecDepth 20000 in
theorem m_1301 : Cond.code yX12_isHeirHere cX12_isHeirHere 4 (some .boolean) ∈ g_tb := gq_in gq_s5 226 rfl rfl
set_option maxRecDepth 20000 in
theorem m_1302 : Cond.methodLink RX12 240 yX12_isSongHere ∈ g_tb := gq_in gq_s5 227 rfl rfl
set_option maxRecDepth 20000 in
theorem m_1304 : Cond.instanceMethod yX12_isSongHere ∈ g_tb := gq_in gq_s5 229 rfl rfl
set_option maxRecDepth 20000 in
theorem m_1305 : Cond.code yX12_isSongHere cX12_isSongHere 1 (some .boolean) ∈ g_tb := gq_in gq_s5 230 rfl rfl
set_option maxRecDepth 20000 in
theorem m_1306 : Cond.methodLink RX12 243 yX12_isHateHere ∈ g_tb := gq_in gq_s5 231 rfl rfl
set_option maxRecDepth 20000 in
theorem m_1308 : Cond.instanceMethod yX12_isHateHere ∈ g_tb := gq_in gq_s5 233 rfl rfl
set_option maxRecDepth 20000 in
theorem m_1309 : Cond.code yX12_isHateHere cX12_isHateHere 1 (some .boolean) ∈ g_tb := gq_in gq_s5 234 rfl rfl
set_option maxRecDepth 20000 in
theorem m_1310 : Cond.methodLink RX12 248 yX12_areCousinsHere ∈ g_tb := gq_in gq_s5 235 rfl rfl
set_option maxRecDepth 20000 in
theorem m_1312 : Cond.instanceMethod yX12_areCousinsHere ∈ g_tb := gq_in gq_s5 237 rfl rfl
set_option maxRecDepth 20000 in
theorem m_1313 : Cond.code yX12_areCousinsHere cX12_areCousinsHere 4 (some .boolean) ∈ g_tb := gq_in gq_s5 238 rfl rfl
set_option maxRecDepth 20000 in
theorem m_1314 : Cond.methodLink RX12 226 yX12_isOf ∈ g_tb := gq_in gq_s5 239 rfl rfl
set_option maxRecDepth 20000 in
theorem m_1315 : Cond.static yX12_isOf ∈ g_tb := gq_in gq_s6 0 rfl rfl
set_option maxRecDepth 20000 in
theorem m_1316 : Cond.code yX12_isOf cX12_isOf 2 (some .boolean) ∈ g_tb := gq_in gq_s6 1 rfl rfl
set_option maxRecDepth 20000 in
theorem m_1317 : Cond.methodLink RX12 251 yX12_isKnownHere ∈ g_tb := gq_in gq_s6 2 rfl rfl
set_option maxRecDepth 20000 in
theorem m_1319 : Cond.instanceMethod yX12_isKnownHere ∈ g_tb := gq_in gq_s6 4 rfl rfl
set_option maxRecDepth 20000 in
theorem m_1320 : Cond.code yX12_isKnownHere cX12_isKnownHere 2 (some .boolean) ∈ g_tb := gq_in gq_s6 5 rfl rfl
set_option maxRecDepth 20000 in
theorem m_1321 : Cond.methodLink RX12 267 yX12_isFadeHere ∈ g_tb := gq_in gq_s6 6 rfl rfl
set_option maxRecDepth 20000 in
theorem m_1323 : Cond.instanceMethod yX12_isFadeHere ∈ g_tb := gq_in gq_s6 8 rfl rfl
set_option maxRecDepth 20000 in
theorem m_1324 : Cond.code yX12_isFadeHere cX12_isFadeHere 2 (some .boolean) ∈ g_tb := gq_in gq_s6 9 rfl rfl
set_option maxRecDepth 20000 in
theorem m_1325 : Cond.methodLink RX12 187 yX12_sum ∈ g_tb := gq_in gq_s6 10 rfl rfl
set_option maxRecDepth 20000 in
theorem m_1327 : Cond.instanceMethod yX12_sum ∈ g_tb := gq_in gq_s6 12 rfl rfl
set_option maxRecDepth 20000 in
theorem m_1328 : Cond.code yX12_sum cX12_sum 2 (some .boolean) ∈ g_tb := gq_in gq_s6 13 rfl rfl
set_option maxRecDepth 20000 in
theorem m_1329 : Cond.methodLink RX12 184 yX12_term ∈ g_tb := gq_in gq_s6 14 rfl rfl
set_option maxRecDepth 20000 in
theorem m_1331 : Cond.instanceMethod yX12_term ∈ g_tb := gq_in gq_s6 16 rfl rfl
set_option maxRecDepth 20000 in
theorem m_1332 : Cond.code yX12_term cX12_term 2 (some .boolean) ∈ g_tb := gq_in gq_s6 17 rfl rfl
set_option maxRecDepth 20000 in
theorem m_1333 : Cond.methodLink RX12 180 yX12_value ∈ g_tb := gq_in gq_s6 18 rfl rfl
set_option maxRecDepth 20000 in
theorem m_1335 : Cond.instanceMethod yX12_value ∈ g_tb := gq_in gq_s6 20 rfl rfl
set_option maxRecDepth 20000 in
theorem m_1336 : Cond.code yX12_value cX12_value 3 (some .boolean) ∈ g_tb := gq_in gq_s6 21 rfl rfl
set_option maxRecDepth 20000 in
theorem m_1337 : Cond.constant RX12 170 99999 ∈ g_tb := gq_in gq_s6 22 rfl rfl
set_option maxRecDepth 20000 in
theorem m_1338 : Cond.methodLink RX12 174 yX12_makes ∈ g_tb := gq_in gq_s6 23 rfl rfl
set_option maxRecDepth 20000 in
theorem m_1340 : Cond.instanceMethod yX12_makes ∈ g_tb := gq_in gq_s6 25 rfl rfl
set_option maxRecDepth 20000 in
theorem m_1341 : Cond.code yX12_makes cX12_makes 2 (some .boolean) ∈ g_tb := gq_in gq_s6 26 rfl rfl
set_option maxRecDepth 20000 in
theorem m_1342 : Cond.methodLink RX12 166 yX12_puts ∈ g_tb := gq_in gq_s6 27 rfl rfl
set_option maxRecDepth 20000 in
theorem m_1344 : Cond.instanceMethod yX12_puts ∈ g_tb := gq_in gq_s6 29 rfl rfl
set_option maxRecDepth 20000 in
theorem m_1345 : Cond.code yX12_puts cX12_puts 3 none ∈ g_tb := gq_in gq_s6 30 rfl rfl
set_option maxRecDepth 20000 in
theorem m_1346 : Cond.methodLink RX12 177 yX12_wordHere ∈ g_tb := gq_in gq_s6 31 rfl rfl
set_option maxRecDepth 20000 in
theorem m_1348 : Cond.instanceMethod yX12_wordHere ∈ g_tb := gq_in gq_s6 33 rfl rfl
set_option maxRecDepth 20000 in
theorem m_1349 : Cond.code yX12_wordHere cX12_wordHere 1 (some .int) ∈ g_tb := gq_in gq_s6 34 rfl rfl
set_option maxRecDepth 20000 in
theorem m_1350 : Cond.constantLong RX12 126 24947 ∈ g_tb := gq_in gq_s6 35 rfl rfl
set_option maxRecDepth 20000 in
theorem m_1351 : Cond.constantLong RX12 128 491394656372 ∈ g_tb := gq_in gq_s6 36 rfl rfl
set_option maxRecDepth 20000 in
theorem m_1352 : Cond.constantLong RX12 130 8319400191629685864 ∈ g_tb := gq_in gq_s6 37 rfl rfl
set_option maxRecDepth 20000 in
theorem m_1353 : Cond.constantLong RX12 132 6383461 ∈ g_tb := gq_in gq_s6 38 rfl rfl
set_option maxRecDepth 20000 in
theorem m_1354 : Cond.constantLong RX12 138 422877228660 ∈ g_tb := gq_in gq_s6 39 rfl rfl
set_option maxRecDepth 20000 in
theorem m_1355 : Cond.constantLong RX12 140 1819243379 ∈ g_tb := gq_in gq_s6 40 rfl rfl
set_option maxRecDepth 20000 in
theorem m_1356 : Cond.constantLong RX12 142 439854918756 ∈ g_tb := gq_in gq_s6 41 rfl rfl
set_option maxRecDepth 20000 in
theorem m_1357 : Cond.constantLong RX12 144 2036687218 ∈ g_tb := gq_in gq_s6 42 rfl rfl
set_option maxRecDepth 20000 in
theorem m_1358 : Cond.constantLong RX12 146 1935764837 ∈ g_tb := gq_in gq_s6 43 rfl rfl
set_option maxRecDepth 20000 in
theorem m_1359 : Cond.constantLong RX12 148 461414299502 ∈ g_tb := gq_in gq_s6 44 rfl rfl
set_option maxRecDepth 20000 in
theorem m_1360 : Cond.constantLong RX12 214 26982 ∈ g_tb := gq_in gq_s6 45 rfl rfl
set_option maxRecDepth 20000 in
theorem m_1361 : Cond.methodLink RX12 216 yX12_takesWord ∈ g_tb := gq_in gq_s6 46 rfl rfl
set_option maxRecDepth 20000 in
theorem m_1363 : Cond.instanceMethod yX12_takesWord ∈ g_tb := gq_in gq_s6 48 rfl rfl
set_option maxRecDepth 20000 in
theorem m_1364 : Cond.code yX12_takesWord cX12_takesWord 3 (some .boolean) ∈ g_tb := gq_in gq_s6 49 rfl rfl
set_option maxRecDepth 20000 in
theorem m_1365 : Cond.methodLink RX12 219 yX12_tested ∈ g_tb := gq_in gq_s6 50 rfl rfl
set_option maxRecDepth 20000 in
theorem m_1367 : Cond.instanceMethod yX12_tested ∈ g_tb := gq_in gq_s6 52 rfl rfl
set_option maxRecDepth 20000 in
theorem m_1368 : Cond.code yX12_tested cX12_tested 3 (some .boolean) ∈ g_tb := gq_in gq_s6 53 rfl rfl
set_option maxRecDepth 20000 in
theorem m_1369 : Cond.methodLink RX12 204 yX12_fact ∈ g_tb := gq_in gq_s6 54 rfl rfl
set_option maxRecDepth 20000 in
theorem m_1371 : Cond.instanceMethod yX12_fact ∈ g_tb := gq_in gq_s6 56 rfl rfl
set_option maxRecDepth 20000 in
theorem m_1372 : Cond.code yX12_fact cX12_fact 3 (some .boolean) ∈ g_tb := gq_in gq_s6 57 rfl rfl
set_option maxRecDepth 20000 in
theorem m_1373 : Cond.constantLong RX12 190 7237492 ∈ g_tb := gq_in gq_s6 58 rfl rfl
set_option maxRecDepth 20000 in
theorem m_1374 : Cond.methodLink RX12 192 yX12_opens ∈ g_tb := gq_in gq_s6 59 rfl rfl
set_option maxRecDepth 20000 in
theorem m_1376 : Cond.instanceMethod yX12_opens ∈ g_tb := gq_in gq_s6 61 rfl rfl
set_option maxRecDepth 20000 in
theorem m_1377 : Cond.code yX12_opens cX12_opens 2 (some .boolean) ∈ g_tb := gq_in gq_s6 62 rfl rfl
set_option maxRecDepth 20000 in
theorem m_1378 : Cond.methodLink RX12 195 yX12_compare ∈ g_tb := gq_in gq_s6 63 rfl rfl
set_option maxRecDepth 20000 in
theorem m_1380 : Cond.instanceMethod yX12_compare ∈ g_tb := gq_in gq_s6 65 rfl rfl
set_option maxRecDepth 20000 in
theorem m_1381 : Cond.code yX12_compare cX12_compare 5 (some .boolean) ∈ g_tb := gq_in gq_s6 66 rfl rfl
set_option maxRecDepth 20000 in
theorem m_1382 : Cond.methodLink RX12 207 yX12_closes ∈ g_tb := gq_in gq_s6 67 rfl rfl
set_option maxRecDepth 20000 in
theorem m_1384 : Cond.instanceMethod yX12_closes ∈ g_tb := gq_in gq_s6 69 rfl rfl
set_option maxRecDepth 20000 in
theorem m_1385 : Cond.code yX12_closes cX12_closes 1 none ∈ g_tb := gq_in gq_s6 70 rfl rfl
set_option maxRecDepth 20000 in
theorem m_1386 : Cond.methodLink RX12 198 yX12_settles ∈ g_tb := gq_in gq_s6 71 rfl rfl
set_option maxRecDepth 20000 in
theorem m_1388 : Cond.instanceMethod yX12_settles ∈ g_tb := gq_in gq_s6 73 rfl rfl
set_option maxRecDepth 20000 in
theorem m_1389 : Cond.code yX12_settles cX12_settles 2 none ∈ g_tb := gq_in gq_s6 74 rfl rfl
set_option maxRecDepth 20000 in
theorem m_1390 : Cond.methodLink RX12 162 yX12_strength ∈ g_tb := gq_in gq_s6 75 rfl rfl
set_option maxRecDepth 20000 in
theorem m_1391 : Cond.static yX12_strength ∈ g_tb := gq_in gq_s6 76 rfl rfl
set_option maxRecDepth 20000 in
theorem m_1392 : Cond.code yX12_strength cX12_strength 1 (some .int) ∈ g_tb := gq_in gq_s6 77 rfl rfl
set_option maxRecDepth 20000 in
theorem m_1393 : Cond.methodLink RX12 201 yX12_isInside ∈ g_tb := gq_in gq_s6 78 rfl rfl
set_option maxRecDepth 20000 in
theorem m_1395 : Cond.instanceMethod yX12_isInside ∈ g_tb := gq_in gq_s6 80 rfl rfl
set_option maxRecDepth 20000 in
theorem m_1396 : Cond.code yX12_isInside cX12_isInside 2 (some .boolean) ∈ g_tb := gq_in gq_s6 81 rfl rfl
set_option maxRecDepth 20000 in
theorem m_1397 : Cond.constantLong RX12 210 6385252 ∈ g_tb := gq_in gq_s6 82 rfl rfl
set_option maxRecDepth 20000 in
theorem m_1398 : Cond.constantLong RX12 212 28530 ∈ g_tb := gq_in gq_s6 83 rfl rfl
set_option maxRecDepth 20000 in
theorem m_1407 : Cond.methodLink RX12 319 yX12_isRule ∈ g_tb := gq_in gq_s6 92 rfl rfl
set_option maxRecDepth 20000 in
theorem m_1409 : Cond.instanceMethod yX12_isRule ∈ g_tb := gq_in gq_s6 94 rfl rfl
set_option maxRecDepth 20000 in
theorem m_1410 : Cond.code yX12_isRule cX12_isRule 2 (some .boolean) ∈ g_tb := gq_in gq_s6 95 rfl rfl
set_option maxRecDepth 20000 in
theorem m_1415 : Cond.methodLink RX12 322 yX12_isHeir ∈ g_tb := gq_in gq_s6 100 rfl rfl
set_option maxRecDepth 20000 in
theorem m_1417 : Cond.instanceMethod yX12_isHeir ∈ g_tb := gq_in gq_s6 102 rfl rfl
set_option maxRecDepth 20000 in
theorem m_1418 : Cond.code yX12_isHeir cX12_isHeir 2 (some .boolean) ∈ g_tb := gq_in gq_s6 103 rfl rfl
set_option maxRecDepth 20000 in
theorem m_1419 : Cond.constantLong RX12 325 5 ∈ g_tb := gq_in gq_s6 104 rfl rfl
set_option maxRecDepth 20000 in
theorem m_1420 : Cond.methodLink RX12 313 yX12_holdsOf ∈ g_tb := gq_in gq_s6 105 rfl rfl
set_option maxRecDepth 20000 in
theorem m_1422 : Cond.instanceMethod yX12_holdsOf ∈ g_tb := gq_in gq_s6 107 rfl rfl
set_option maxRecDepth 20000 in
theorem m_1423 : Cond.code yX12_holdsOf cX12_holdsOf 4 (some .int) ∈ g_tb := gq_in gq_s6 108 rfl rfl
set_option maxRecDepth 20000 in
theorem m_1424 : Cond.methodLink RX12 310 yX12_holds ∈ g_tb := gq_in gq_s6 109 rfl rfl
set_option maxRecDepth 20000 in
theorem m_1426 : Cond.instanceMethod yX12_holds ∈ g_tb := gq_in gq_s6 111 rfl rfl
set_option maxRecDepth 20000 in
theorem m_1427 : Cond.code yX12_holds cX12_holds 3 (some .boolean) ∈ g_tb := gq_in gq_s6 112 rfl rfl
set_option maxRecDepth 20000 in
theorem m_1428 : Cond.methodLink RX12 301 yX12_thingOf ∈ g_tb := gq_in gq_s6 113 rfl rfl
set_option maxRecDepth 20000 in
theorem m_1430 : Cond.instanceMethod yX12_thingOf ∈ g_tb := gq_in gq_s6 115 rfl rfl
set_option maxRecDepth 20000 in
theorem m_1431 : Cond.code yX12_thingOf cX12_thingOf 3 (some .int) ∈ g_tb := gq_in gq_s6 116 rfl rfl
set_option maxRecDepth 20000 in
theorem m_1432 : Cond.methodLink RX12 304 yX12_knowsOf ∈ g_tb := gq_in gq_s6 117 rfl rfl
set_option maxRecDepth 20000 in
theorem m_1434 : Cond.instanceMethod yX12_knowsOf ∈ g_tb := gq_in gq_s6 119 rfl rfl
set_option maxRecDepth 20000 in
theorem m_1435 : Cond.code yX12_knowsOf cX12_knowsOf 3 (some .boolean) ∈ g_tb := gq_in gq_s6 120 rfl rfl
set_option maxRecDepth 20000 in
theorem m_1436 : Cond.methodLink RX12 297 yX12_valueOf ∈ g_tb := gq_in gq_s6 121 rfl rfl
set_option maxRecDepth 20000 in
theorem m_1438 : Cond.instanceMethod yX12_valueOf ∈ g_tb := gq_in gq_s6 123 rfl rfl
set_option maxRecDepth 20000 in
theorem m_1439 : Cond.code yX12_valueOf cX12_valueOf 3 (some .int) ∈ g_tb := gq_in gq_s6 124 rfl rfl
set_option maxRecDepth 20000 in
theorem m_1440 : Cond.methodLink RX12 307 yX12_sameAs ∈ g_tb := gq_in gq_s6 125 rfl rfl
set_option maxRecDepth 20000 in
theorem m_1442 : Cond.instanceMethod yX12_sameAs ∈ g_tb := gq_in gq_s6 127 rfl rfl
set_option maxRecDepth 20000 in
theorem m_1443 : Cond.code yX12_sameAs cX12_sameAs 5 (some .int) ∈ g_tb := gq_in gq_s6 128 rfl rfl
set_option maxRecDepth 20000 in
theorem m_1448 : Cond.methodLink RX12 327 yX12_isThing ∈ g_tb := gq_in gq_s6 133 rfl rfl
set_option maxRecDepth 20000 in
theorem m_1450 : Cond.instanceMethod yX12_isThing ∈ g_tb := gq_in gq_s6 135 rfl rfl
set_option maxRecDepth 20000 in
theorem m_1451 : Cond.code yX12_isThing cX12_isThing 2 (some .boolean) ∈ g_tb := gq_in gq_s6 136 rfl rfl
set_option maxRecDepth 20000 in
theorem m_1452 : Cond.constantLong RX12 330 6 ∈ g_tb := gq_in gq_s6 137 rfl rfl
set_option maxRecDepth 20000 in
theorem m_1453 : Cond.methodLink RX12 332 yX12_holdersOf ∈ g_tb := gq_in gq_s6 138 rfl rfl
set_option maxRecDepth 20000 in
theorem m_1455 : Cond.instanceMethod yX12_holdersOf ∈ g_tb := gq_in gq_s6 140 rfl rfl
set_option maxRecDepth 20000 in
theorem m_1456 : Cond.code yX12_holdersOf cX12_holdersOf 4 (some .int) ∈ g_tb := gq_in gq_s6 141 rfl rfl
set_option maxRecDepth 20000 in
theorem m_1469 : Cond.methodLink RX12 362 yX12_isHouse ∈ g_tb := gq_in gq_s6 154 rfl rfl
set_option maxRecDepth 20000 in
theorem m_1471 : Cond.instanceMethod yX12_isHouse ∈ g_tb := gq_in gq_s6 156 rfl rfl
set_option maxRecDepth 20000 in
theorem m_1472 : Cond.code yX12_isHouse cX12_isHouse 1 (some .boolean) ∈ g_tb := gq_in gq_s6 157 rfl rfl
set_option maxRecDepth 20000 in
theorem m_1473 : Cond.methodLink RX12 365 yX12_keepsAct ∈ g_tb := gq_in gq_s6 158 rfl rfl
set_option maxRecDepth 20000 in
theorem m_1475 : Cond.instanceMethod yX12_keepsAct ∈ g_tb := gq_in gq_s6 160 rfl rfl
set_option maxRecDepth 20000 in
theorem m_1476 : Cond.code yX12_keepsAct cX12_keepsAct 2 none ∈ g_tb := gq_in gq_s6 161 rfl rfl
set_option maxRecDepth 20000 in
theorem m_1477 : Cond.methodLink RX12 368 yX12_passes ∈ g_tb := gq_in gq_s6 162 rfl rfl
set_option maxRecDepth 20000 in
theorem m_1479 : Cond.instanceMethod yX12_passes ∈ g_tb := gq_in gq_s6 164 rfl rfl
set_option maxRecDepth 20000 in
theorem m_1480 : Cond.code yX12_passes cX12_passes 4 (some .int) ∈ g_tb := gq_in gq_s6 165 rfl rfl
set_option maxRecDepth 20000 in
theorem m_1481 : Cond.methodLink RX12 355 yX12_lossOf ∈ g_tb := gq_in gq_s6 166 rfl rfl
set_option maxRecDepth 20000 in
theorem m_1483 : Cond.instanceMethod yX12_lossOf ∈ g_tb := gq_in gq_s6 168 rfl rfl
set_option maxRecDepth 20000 in
theorem m_1484 : Cond.code yX12_lossOf cX12_lossOf 5 (some .int) ∈ g_tb := gq_in gq_s6 169 rfl rfl
set_option maxRecDepth 20000 in
theorem m_1485 : Cond.methodLink RX12 342 yX12_fades ∈ g_tb := gq_in gq_s6 170 rfl rfl
set_option maxRecDepth 20000 in
theorem m_1487 : Cond.instanceMethod yX12_fades ∈ g_tb := gq_in gq_s6 172 rfl rfl
set_option maxRecDepth 20000 in
theorem m_1488 : Cond.code yX12_fades cX12_fades 5 (some .int) ∈ g_tb := gq_in gq_s6 173 rfl rfl
set_option maxRecDepth 20000 in
theorem m_1489 : Cond.methodLink RX12 346 yX12_words ∈ g_tb := gq_in gq_s6 174 rfl rfl
set_option maxRecDepth 20000 in
theorem m_1491 : Cond.instanceMethod yX12_words ∈ g_tb := gq_in gq_s6 176 rfl rfl
set_option maxRecDepth 20000 in
theorem m_1492 : Cond.code yX12_words cX12_words 5 none ∈ g_tb := gq_in gq_s6 177 rfl rfl
set_option maxRecDepth 20000 in
theorem m_1493 : Cond.methodLink RX12 335 yX12_strengthOf ∈ g_tb := gq_in gq_s6 178 rfl rfl
set_option maxRecDepth 20000 in
theorem m_1495 : Cond.instanceMethod yX12_strengthOf ∈ g_tb := gq_in gq_s6 180 rfl rfl
set_option maxRecDepth 20000 in
theorem m_1496 : Cond.code yX12_strengthOf cX12_strengthOf 3 (some .int) ∈ g_tb := gq_in gq_s6 181 rfl rfl
set_option maxRecDepth 20000 in
theorem m_1497 : Cond.methodLink RX12 349 yX12_summedBy ∈ g_tb := gq_in gq_s6 182 rfl rfl
set_option maxRecDepth 20000 in
theorem m_1499 : Cond.instanceMethod yX12_summedBy ∈ g_tb := gq_in gq_s6 184 rfl rfl
set_option maxRecDepth 20000 in
theorem m_1500 : Cond.code yX12_summedBy cX12_summedBy 4 (some .long) ∈ g_tb := gq_in gq_s6 185 rfl rfl
set_option maxRecDepth 20000 in
theorem m_1501 : Cond.methodLink RX12 338 yX12_reckons ∈ g_tb := gq_in gq_s6 186 rfl rfl
set_option maxRecDepth 20000 in
theorem m_1503 : Cond.instanceMethod yX12_reckons ∈ g_tb := gq_in gq_s6 188 rfl rfl
set_option maxRecDepth 20000 in
theorem m_1504 : Cond.code yX12_reckons cX12_reckons 11 (some .long) ∈ g_tb := gq_in gq_s6 189 rfl rfl
set_option maxRecDepth 20000 in
theorem m_1505 : Cond.methodLink RX12 285 yX12_push ∈ g_tb := gq_in gq_s6 190 rfl rfl
set_option maxRecDepth 20000 in
theorem m_1507 : Cond.instanceMethod yX12_push ∈ g_tb := gq_in gq_s6 192 rfl rfl
set_option maxRecDepth 20000 in
theorem m_1508 : Cond.code yX12_push cX12_push 3 none ∈ g_tb := gq_in gq_s6 193 rfl rfl
set_option maxRecDepth 20000 in
theorem m_1509 : Cond.methodLink RX12 289 yX12_pop ∈ g_tb := gq_in gq_s6 194 rfl rfl
set_option maxRecDepth 20000 in
theorem m_1511 : Cond.instanceMethod yX12_pop ∈ g_tb := gq_in gq_s6 196 rfl rfl
set_option maxRecDepth 20000 in
theorem m_1512 : Cond.code yX12_pop cX12_pop 1 (some .long) ∈ g_tb := gq_in gq_s6 197 rfl rfl
set_option maxRecDepth 20000 in
theorem m_1513 : Cond.methodLink RX12 293 yX12_one ∈ g_tb := gq_in gq_s6 198 rfl rfl
set_option maxRecDepth 20000 in
theorem m_1514 : Cond.static yX12_one ∈ g_tb := gq_in gq_s6 199 rfl rfl
set_option maxRecDepth 20000 in
theorem m_1515 : Cond.code yX12_one cX12_one 5 (some .long) ∈ g_tb := gq_in gq_s6 200 rfl rfl
set_option maxRecDepth 20000 in
theorem m_1516 : Cond.constantLong RX12 353 99 ∈ g_tb := gq_in gq_s6 201 rfl rfl
set_option maxRecDepth 20000 in
theorem m_1517 : Cond.methodLink RX12 358 yX12_knowsNow ∈ g_tb := gq_in gq_s6 202 rfl rfl
set_option maxRecDepth 20000 in
theorem m_1519 : Cond.instanceMethod yX12_knowsNow ∈ g_tb := gq_in gq_s6 204 rfl rfl
set_option maxRecDepth 20000 in
theorem m_1520 : Cond.code yX12_knowsNow cX12_knowsNow 5 none ∈ g_tb := gq_in gq_s6 205 rfl rfl
set_option maxRecDepth 20000 in
theorem m_1525 : Cond.methodLink RX12 371 yX12_takes ∈ g_tb := gq_in gq_s6 210 rfl rfl
set_option maxRecDepth 20000 in
theorem m_1527 : Cond.instanceMethod yX12_takes ∈ g_tb := gq_in gq_s6 212 rfl rfl
set_option maxRecDepth 20000 in
theorem m_1528 : Cond.code yX12_takes cX12_takes 5 (some .boolean) ∈ g_tb := gq_in gq_s6 213 rfl rfl
set_option maxRecDepth 20000 in
theorem m_1529 : Cond.methodLink RX12 375 yX12_goesOn ∈ g_tb := gq_in gq_s6 214 rfl rfl
set_option maxRecDepth 20000 in
theorem m_1531 : Cond.instanceMethod yX12_goesOn ∈ g_tb := gq_in gq_s6 216 rfl rfl
set_option maxRecDepth 20000 in
theorem m_1532 : Cond.code yX12_goesOn cX12_goesOn 7 (some .int) ∈ g_tb := gq_in gq_s6 217 rfl rfl
set_option maxRecDepth 20000 in
theorem m_1541 : Cond.methodLink RX12 378 yX12_asks ∈ g_tb := gq_in gq_s6 226 rfl rfl
set_option maxRecDepth 20000 in
theorem m_1543 : Cond.instanceMethod yX12_asks ∈ g_tb := gq_in gq_s6 228 rfl rfl
set_option maxRecDepth 20000 in
theorem m_1544 : Cond.code yX12_asks cX12_asks 4 (some .int) ∈ g_tb := gq_in gq_s6 229 rfl rfl
set_option maxRecDepth 20000 in
theorem m_1553 : Cond.constantLong RX12 381 200 ∈ g_tb := gq_in gq_s6 238 rfl rfl
set_option maxRecDepth 20000 in
theorem m_1554 : Cond.methodLink RX12 383 yX12_keeps ∈ g_tb := gq_in gq_s6 239 rfl rfl
set_option maxRecDepth 20000 in
theorem m_1556 : Cond.instanceMethod yX12_keeps ∈ g_tb := gq_in gq_s7 1 rfl rfl
set_option maxRecDepth 20000 in
theorem m_1557 : Cond.code yX12_keeps cX12_keeps 2 none ∈ g_tb := gq_in gq_s7 2 rfl rfl
set_option maxRecDepth 20000 in
theorem m_1558 : Cond.methodLink RX12 386 yX12_laysBack ∈ g_tb := gq_in gq_s7 3 rfl rfl
set_option maxRecDepth 20000 in
theorem m_1560 : Cond.instanceMethod yX12_laysBack ∈ g_tb := gq_in gq_s7 5 rfl rfl
set_option maxRecDepth 20000 in
theorem m_1561 : Cond.code yX12_laysBack cX12_laysBack 2 none ∈ g_tb := gq_in gq_s7 6 rfl rfl
set_option maxRecDepth 20000 in
theorem m_1566 : Cond.methodLink RX12 389 yX12_strikeOf ∈ g_tb := gq_in gq_s7 11 rfl rfl
set_option maxRecDepth 20000 in
theorem m_1568 : Cond.instanceMethod yX12_strikeOf ∈ g_tb := gq_in gq_s7 13 rfl rfl
set_option maxRecDepth 20000 in
theorem m_1569 : Cond.code yX12_strikeOf cX12_strikeOf 3 (some .int) ∈ g_tb := gq_in gq_s7 14 rfl rfl
set_option maxRecDepth 20000 in
theorem m_1574 : Cond.methodLink RX12 392 yX12_most ∈ g_tb := gq_in gq_s7 19 rfl rfl
set_option maxRecDepth 20000 in
theorem m_1576 : Cond.instanceMethod yX12_most ∈ g_tb := gq_in gq_s7 21 rfl rfl
set_option maxRecDepth 20000 in
theorem m_1577 : Cond.code yX12_most cX12_most 3 (some .int) ∈ g_tb := gq_in gq_s7 22 rfl rfl
set_option maxRecDepth 20000 in
theorem m_1578 : Cond.methodLink RX12 316 yX12_bits ∈ g_tb := gq_in gq_s7 23 rfl rfl
set_option maxRecDepth 20000 in
theorem m_1579 : Cond.static yX12_bits ∈ g_tb := gq_in gq_s7 24 rfl rfl
set_option maxRecDepth 20000 in
theorem m_1580 : Cond.code yX12_bits cX12_bits 3 (some .int) ∈ g_tb := gq_in gq_s7 25 rfl rfl
set_option maxRecDepth 20000 in
theorem m_1585 : Cond.constant RX12 395 100000 ∈ g_tb := gq_in gq_s7 30 rfl rfl
set_option maxRecDepth 20000 in
theorem m_1598 : Cond.constantLong RX12 396 2 ∈ g_tb := gq_in gq_s7 43 rfl rfl
set_option maxRecDepth 20000 in
theorem m_1599 : Cond.methodLink RX12 398 yX12_allHolds ∈ g_tb := gq_in gq_s7 44 rfl rfl
set_option maxRecDepth 20000 in
theorem m_1601 : Cond.instanceMethod yX12_allHolds ∈ g_tb := gq_in gq_s7 46 rfl rfl
set_option maxRecDepth 20000 in
theorem m_1602 : Cond.code yX12_allHolds cX12_allHolds 3 (some .int) ∈ g_tb := gq_in gq_s7 47 rfl rfl
set_option maxRecDepth 20000 in
theorem m_1611 : Cond.methodLink RX12 401 yX12_areParted ∈ g_tb := gq_in gq_s7 56 rfl rfl
set_option maxRecDepth 20000 in
theorem m_1613 : Cond.instanceMethod yX12_areParted ∈ g_tb := gq_in gq_s7 58 rfl rfl
set_option maxRecDepth 20000 in
theorem m_1614 : Cond.code yX12_areParted cX12_areParted 7 (some .boolean) ∈ g_tb := gq_in gq_s7 59 rfl rfl
set_option maxRecDepth 20000 in
theorem m_1619 : Cond.methodLink RX12 419 yX12_gathersWays ∈ g_tb := gq_in gq_s7 64 rfl rfl
set_option maxRecDepth 20000 in
theorem m_1621 : Cond.instanceMethod yX12_gathersWays ∈ g_tb := gq_in gq_s7 66 rfl rfl
set_option maxRecDepth 20000 in
theorem m_1622 : Cond.code yX12_gathersWays cX12_gathersWays 5 none ∈ g_tb := gq_in gq_s7 67 rfl rfl
set_option maxRecDepth 20000 in
theorem m_1623 : Cond.methodLink RX12 407 yX12_countsWay ∈ g_tb := gq_in gq_s7 68 rfl rfl
set_option maxRecDepth 20000 in
theorem m_1625 : Cond.instanceMethod yX12_countsWay ∈ g_tb := gq_in gq_s7 70 rfl rfl
set_option maxRecDepth 20000 in
theorem m_1626 : Cond.code yX12_countsWay cX12_countsWay 2 none ∈ g_tb := gq_in gq_s7 71 rfl rfl
set_option maxRecDepth 20000 in
theorem m_1627 : Cond.methodLink RX12 410 yX12_isWrong ∈ g_tb := gq_in gq_s7 72 rfl rfl
set_option maxRecDepth 20000 in
theorem m_1629 : Cond.instanceMethod yX12_isWrong ∈ g_tb := gq_in gq_s7 74 rfl rfl
set_option maxRecDepth 20000 in
theorem m_1630 : Cond.code yX12_isWrong cX12_isWrong 3 (some .boolean) ∈ g_tb := gq_in gq_s7 75 rfl rfl
set_option maxRecDepth 20000 in
theorem m_1631 : Cond.methodLink RX12 413 yX12_canHave ∈ g_tb := gq_in gq_s7 76 rfl rfl
set_option maxRecDepth 20000 in
theorem m_1633 : Cond.instanceMethod yX12_canHave ∈ g_tb := gq_in gq_s7 78 rfl rfl
set_option maxRecDepth 20000 in
theorem m_1634 : Cond.code yX12_canHave cX12_canHave 4 (some .boolean) ∈ g_tb := gq_in gq_s7 79 rfl rfl
set_option maxRecDepth 20000 in
theorem m_1635 : Cond.methodLink RX12 416 yX12_isRound ∈ g_tb := gq_in gq_s7 80 rfl rfl
set_option maxRecDepth 20000 in
theorem m_1637 : Cond.instanceMethod yX12_isRound ∈ g_tb := gq_in gq_s7 82 rfl rfl
set_option maxRecDepth 20000 in
theorem m_1638 : Cond.code yX12_isRound cX12_isRound 5 (some .boolean) ∈ g_tb := gq_in gq_s7 83 rfl rfl
set_option maxRecDepth 20000 in
theorem m_1647 : Cond.constantLong RX12 422 40 ∈ g_tb := gq_in gq_s7 92 rfl rfl
set_option maxRecDepth 20000 in
theorem m_1648 : Cond.methodLink RX12 424 yX12_promptsYear ∈ g_tb := gq_in gq_s7 93 rfl rfl
set_option maxRecDepth 20000 in
theorem m_1650 : Cond.instanceMethod yX12_promptsYear ∈ g_tb := gq_in gq_s7 95 rfl rfl
set_option maxRecDepth 20000 in
theorem m_1651 : Cond.code yX12_promptsYear cX12_promptsYear 5 none ∈ g_tb := gq_in gq_s7 96 rfl rfl
set_option maxRecDepth 20000 in
theorem m_1664 : Cond.constantLong RX12 445 10 ∈ g_tb := gq_in gq_s7 109 rfl rfl
set_option maxRecDepth 20000 in
theorem m_1665 : Cond.constantLong RX12 447 60 ∈ g_tb := gq_in gq_s7 110 rfl rfl
set_option maxRecDepth 20000 in
theorem m_1666 : Cond.methodLink RX12 449 yX12_drinks ∈ g_tb := gq_in gq_s7 111 rfl rfl
set_option maxRecDepth 20000 in
theorem m_1668 : Cond.instanceMethod yX12_drinks ∈ g_tb := gq_in gq_s7 113 rfl rfl
set_option maxRecDepth 20000 in
theorem m_1669 : Cond.code yX12_drinks cX12_drinks 3 none ∈ g_tb := gq_in gq_s7 114 rfl rfl
set_option maxRecDepth 20000 in
theorem m_1670 : Cond.methodLink RX12 442 yX12_draw ∈ g_tb := gq_in gq_s7 115 rfl rfl
set_option maxRecDepth 20000 in
theorem m_1672 : Cond.instanceMethod yX12_draw ∈ g_tb := gq_in gq_s7 117 rfl rfl
set_option maxRecDepth 20000 in
theorem m_1673 : Cond.code yX12_draw cX12_draw 2 (some .int) ∈ g_tb := gq_in gq_s7 118 rfl rfl
set_option maxRecDepth 20000 in
theorem m_1674 : Cond.constantLong RX12 434 1103515245 ∈ g_tb := gq_in gq_s7 119 rfl rfl
set_option maxRecDepth 20000 in
theorem m_1675 : Cond.constantLong RX12 436 12345 ∈ g_tb := gq_in gq_s7 120 rfl rfl
set_option maxRecDepth 20000 in
theorem m_1676 : Cond.constantLong RX12 438 2147483648 ∈ g_tb := gq_in gq_s7 121 rfl rfl
set_option maxRecDepth 20000 in
theorem m_1677 : Cond.constantLong RX12 440 65536 ∈ g_tb := gq_in gq_s7 122 rfl rfl
set_option maxRecDepth 20000 in
theorem m_1678 : Cond.methodLink RX12 452 yX12_standing ∈ g_tb := gq_in gq_s7 123 rfl rfl
set_option maxRecDepth 20000 in
theorem m_1680 : Cond.instanceMethod yX12_standing ∈ g_tb := gq_in gq_s7 125 rfl rfl
set_option maxRecDepth 20000 in
theorem m_1681 : Cond.code yX12_standing cX12_standing 3 (some .int) ∈ g_tb := gq_in gq_s7 126 rfl rfl
set_option maxRecDepth 20000 in
theorem m_1690 : Cond.constantLong RX12 455 3 ∈ g_tb := gq_in gq_s7 135 rfl rfl
theorem fi_0_0 : (g_T 0 0).1 = RX0 ∧ (g_T 0 0).2.2.2 = true := ⟨rfl, rfl⟩
theorem fi_0_1 : (g_T 0 1).2.2.2 = false := rfl
theorem fi_10_0 : (g_T 10 0).1 = RX10 ∧ (g_T 10 0).2.2.2 = true := ⟨rfl, rfl⟩
theorem fi_10_1 : (g_T 10 1).1 = RX10 ∧ (g_T 10 1).2.2.2 = true := ⟨rfl, rfl⟩
theorem fi_11_0 : (g_T 11 0).1 = RX11 ∧ (g_T 11 0).2.2.2 = true := ⟨rfl, rfl⟩
theorem fi_11_1 : (g_T 11 1).1 = RX11 ∧ (g_T 11 1).2.2.2 = true := ⟨rfl, rfl⟩
theorem fi_11_10 : (g_T 11 10).1 = RX11 ∧ (g_T 11 10).2.2.2 = true := ⟨rfl, rfl⟩
theorem fi_11_11 : (g_T 11 11).2.2.2 = false := rfl
theorem fi_11_12 : (g_T 11 12).2.2.2 = false := rfl
theorem fi_11_13 : (g_T 11 13).2.2.2 = false := rfl
theorem fi_11_14 : (g_T 11 14).2.2.2 = false := rfl
theorem fi_11_2 : (g_T 11 2).1 = RX11 ∧ (g_T 11 2).2.2.2 = true := ⟨rfl, rfl⟩
theorem fi_11_3 : (g_T 11 3).1 = RX11 ∧ (g_T 11 3).2.2.2 = true := ⟨rfl, rfl⟩
theorem fi_11_4 : (g_T 11 4).1 = RX11 ∧ (g_T 11 4).2.2.2 = true := ⟨rfl, rfl⟩
theorem fi_11_5 : (g_T 11 5).1 = RX11 ∧ (g_T 11 5).2.2.2 = true := ⟨rfl, rfl⟩
theorem fi_11_6 : (g_T 11 6).1 = RX11 ∧ (g_T 11 6).2.2.2 = true := ⟨rfl, rfl⟩
theorem fi_11_7 : (g_T 11 7).1 = RX11 ∧ (g_T 11 7).2.2.2 = true := ⟨rfl, rfl⟩
theorem fi_11_8 : (g_T 11 8).1 = RX11 ∧ (g_T 11 8).2.2.2 = true := ⟨rfl, rfl⟩
theorem fi_11_9 : (g_T 11 9).1 = RX11 ∧ (g_T 11 9).2.2.2 = true := ⟨rfl, rfl⟩
theorem fi_12_0 : (g_T 12 0).1 = RX12 ∧ (g_T 12 0).2.2.2 = true := ⟨rfl, rfl⟩
theorem fi_12_1 : (g_T 12 1).2.2.2 = false := rfl
theorem fi_12_10 : (g_T 12 10).2.2.2 = false := rfl
theorem fi_12_11 : (g_T 12 11).2.2.2 = false := rfl
theorem fi_12_12 : (g_T 12 12).2.2.2 = false := rfl
theorem fi_12_13 : (g_T 12 13).2.2.2 = false := rfl
theorem fi_12_14 : (g_T 12 14).2.2.2 = false := rfl
theorem fi_12_15 : (g_T 12 15).1 = RX12 ∧ (g_T 12 15).2.2.2 = true := ⟨rfl, rfl⟩
theorem fi_12_16 : (g_T 12 16).2.2.2 = false := rfl
theorem fi_12_17 : (g_T 12 17).1 = RX12 ∧ (g_T 12 17).2.2.2 = true := ⟨rfl, rfl⟩
theorem fi_12_18 : (g_T 12 18).2.2.2 = false := rfl
theorem fi_12_19 : (g_T 12 19).1 = RX12 ∧ (g_T 12 19).2.2.2 = true := ⟨rfl, rfl⟩
theorem fi_12_2 : (g_T 12 2).2.2.2 = false := rfl
theorem fi_12_20 : (g_T 12 20).1 = RX12 ∧ (g_T 12 20).2.2.2 = true := ⟨rfl, rfl⟩
theorem fi_12_21 : (g_T 12 21).2.2.2 = false := rfl
theorem fi_12_22 : (g_T 12 22).2.2.2 = false := rfl
theorem fi_12_23 : (g_T 12 23).1 = RX12 ∧ (g_T 12 23).2.2.2 = true := ⟨rfl, rfl⟩
theorem fi_12_24 : (g_T 12 24).1 = RX12 ∧ (g_T 12 24).2.2.2 = true := ⟨rfl, rfl⟩
theorem fi_12_25 : (g_T 12 25).2.2.2 = false := rfl
theorem fi_12_26 : (g_T 12 26).1 = RX12 ∧ (g_T 12 26).2.2.2 = true := ⟨rfl, rfl⟩
theorem fi_12_27 : (g_T 12 27).1 = RX12 ∧ (g_T 12 27).2.2.2 = true := ⟨rfl, rfl⟩
theorem fi_12_28 : (g_T 12 28).1 = RX12 ∧ (g_T 12 28).2.2.2 = true := ⟨rfl, rfl⟩
theorem fi_12_29 : (g_T 12 29).2.2.2 = false := rfl
theorem fi_12_3 : (g_T 12 3).1 = RX12 ∧ (g_T 12 3).2.2.2 = true := ⟨rfl, rfl⟩
theorem fi_12_30 : (g_T 12 30).1 = RX12 ∧ (g_T 12 30).2.2.2 = true := ⟨rfl, rfl⟩
theorem fi_12_31 : (g_T 12 31).1 = RX12 ∧ (g_T 12 31).2.2.2 = true := ⟨rfl, rfl⟩
theorem fi_12_32 : (g_T 12 32).2.2.2 = false := rfl
theorem fi_12_33 : (g_T 12 33).1 = RX12 ∧ (g_T 12 33).2.2.2 = true := ⟨rfl, rfl⟩
theorem fi_12_34 : (g_T 12 34).1 = RX12 ∧ (g_T 12 34).2.2.2 = true := ⟨rfl, rfl⟩
theorem fi_12_35 : (g_T 12 35).1 = RX12 ∧ (g_T 12 35).2.2.2 = true := ⟨rfl, rfl⟩
theorem fi_12_36 : (g_T 12 36).1 = RX12 ∧ (g_T 12 36).2.2.2 = true := ⟨rfl, rfl⟩
theorem fi_12_4 : (g_T 12 4).1 = RX12 ∧ (g_T 12 4).2.2.2 = true := ⟨rfl, rfl⟩
theorem fi_12_5 : (g_T 12 5).1 = RX12 ∧ (g_T 12 5).2.2.2 = true := ⟨rfl, rfl⟩
theorem fi_12_6 : (g_T 12 6).1 = RX12 ∧ (g_T 12 6).2.2.2 = true := ⟨rfl, rfl⟩
theorem fi_12_7 : (g_T 12 7).1 = RX12 ∧ (g_T 12 7).2.2.2 = true := ⟨rfl, rfl⟩
theorem fi_12_8 : (g_T 12 8).2.2.2 = false := rfl
theorem fi_12_9 : (g_T 12 9).2.2.2 = false := rfl
theorem fi_1_0 : (g_T 1 0).1 = RX1 ∧ (g_T 1 0).2.2.2 = true := ⟨rfl, rfl⟩
theorem fi_1_1 : (g_T 1 1).1 = RX1 ∧ (g_T 1 1).2.2.2 = true := ⟨rfl, rfl⟩
theorem fi_1_10 : (g_T 1 10).2.2.2 = false := rfl
theorem fi_1_2 : (g_T 1 2).1 = RX1 ∧ (g_T 1 2).2.2.2 = true := ⟨rfl, rfl⟩
theorem fi_1_3 : (g_T 1 3).1 = RX1 ∧ (g_T 1 3).2.2.2 = true := ⟨rfl, rfl⟩
theorem fi_1_4 : (g_T 1 4).1 = RX1 ∧ (g_T 1 4).2.2.2 = true := ⟨rfl, rfl⟩
theorem fi_1_5 : (g_T 1 5).2.2.2 = false := rfl
theorem fi_1_6 : (g_T 1 6).2.2.2 = false := rfl
theorem fi_1_7 : (g_T 1 7).2.2.2 = false := rfl
theorem fi_1_8 : (g_T 1 8).2.2.2 = false := rfl
theorem fi_1_9 : (g_T 1 9).2.2.2 = false := rfl
theorem fi_2_0 : (g_T 2 0).1 = RX2 ∧ (g_T 2 0).2.2.2 = true := ⟨rfl, rfl⟩
theorem fi_2_1 : (g_T 2 1).2.2.2 = false := rfl
theorem fi_2_2 : (g_T 2 2).1 = RX2 ∧ (g_T 2 2).2.2.2 = true := ⟨rfl, rfl⟩
theorem fi_3_0 : (g_T 3 0).1 = RX3 ∧ (g_T 3 0).2.2.2 = true := ⟨rfl, rfl⟩
theorem fi_3_1 : (g_T 3 1).2.2.2 = false := rfl
theorem fi_3_2 : (g_T 3 2).2.2.2 = false := rfl
theorem fi_3_3 : (g_T 3 3).2.2.2 = false := rfl
theorem fi_4_0 : (g_T 4 0).1 = RX4 ∧ (g_T 4 0).2.2.2 = true := ⟨rfl, rfl⟩
theorem fi_4_1 : (g_T 4 1).2.2.2 = false := rfl
theorem fi_4_2 : (g_T 4 2).2.2.2 = false := rfl
theorem fi_5_0 : (g_T 5 0).1 = RX5 ∧ (g_T 5 0).2.2.2 = true := ⟨rfl, rfl⟩
theorem fi_5_1 : (g_T 5 1).1 = RX5 ∧ (g_T 5 1).2.2.2 = true := ⟨rfl, rfl⟩
theorem fi_5_2 : (g_T 5 2).2.2.2 = false := rfl
theorem fi_6_0 : (g_T 6 0).1 = RX6 ∧ (g_T 6 0).2.2.2 = true := ⟨rfl, rfl⟩
theorem fi_6_1 : (g_T 6 1).1 = RX6 ∧ (g_T 6 1).2.2.2 = true := ⟨rfl, rfl⟩
theorem fi_7_0 : (g_T 7 0).1 = RX7 ∧ (g_T 7 0).2.2.2 = true := ⟨rfl, rfl⟩
theorem fi_7_1 : (g_T 7 1).1 = RX7 ∧ (g_T 7 1).2.2.2 = true := ⟨rfl, rfl⟩
theorem fi_7_2 : (g_T 7 2).1 = RX7 ∧ (g_T 7 2).2.2.2 = true := ⟨rfl, rfl⟩
theorem fi_7_3 : (g_T 7 3).2.2.2 = false := rfl
theorem fi_7_4 : (g_T 7 4).2.2.2 = false := rfl
theorem fi_7_5 : (g_T 7 5).2.2.2 = false := rfl
theorem fi_8_0 : (g_T 8 0).1 = RX8 ∧ (g_T 8 0).2.2.2 = true := ⟨rfl, rfl⟩
theorem fi_8_1 : (g_T 8 1).1 = RX8 ∧ (g_T 8 1).2.2.2 = true := ⟨rfl, rfl⟩
theorem fi_8_2 : (g_T 8 2).1 = RX8 ∧ (g_T 8 2).2.2.2 = true := ⟨rfl, rfl⟩
theorem fi_8_3 : (g_T 8 3).1 = RX8 ∧ (g_T 8 3).2.2.2 = true := ⟨rfl, rfl⟩
theorem fi_8_4 : (g_T 8 4).2.2.2 = false := rfl
theorem fi_8_5 : (g_T 8 5).2.2.2 = false := rfl
theorem fi_8_6 : (g_T 8 6).2.2.2 = false := rfl
theorem fi_9_0 : (g_T 9 0).1 = RX9 ∧ (g_T 9 0).2.2.2 = true := ⟨rfl, rfl⟩
theorem fi_9_1 : (g_T 9 1).1 = RX9 ∧ (g_T 9 1).2.2.2 = true := ⟨rfl, rfl⟩
theorem fi_9_2 : (g_T 9 2).1 = RX9 ∧ (g_T 9 2).2.2.2 = true := ⟨rfl, rfl⟩
theorem fi_9_3 : (g_T 9 3).1 = RX9 ∧ (g_T 9 3).2.2.2 = true := ⟨rfl, rfl⟩
theorem fi_9_4 : (g_T 9 4).2.2.2 = false := rfl
theorem fi_9_5 : (g_T 9 5).2.2.2 = false := rfl
theorem fi_9_6 : (g_T 9 6).2.2.2 = false := rfl
theorem fi_9_7 : (g_T 9 7).2.2.2 = false := rfl
theorem ty_0_0 : g_ty 0 0 = .array .long := rfl
theorem ty_0_1 : g_ty 0 1 = .int := rfl
theorem ty_10_0 : g_ty 10 0 = .array .int := rfl
theorem ty_10_1 : g_ty 10 1 = .object "ForgetHeirs$Reckoner" := rfl
theorem ty_11_0 : g_ty 11 0 = .object "ForgetHeirs$Tape" := rfl
theorem ty_11_1 : g_ty 11 1 = .object "ForgetHeirs$HouseReader" := rfl
theorem ty_11_10 : g_ty 11 10 = .object "ForgetHeirs$Forests" := rfl
theorem ty_11_11 : g_ty 11 11 = .object "ForgetHeirs$House" := rfl
theorem ty_11_12 : g_ty 11 12 = .int := rfl
theorem ty_11_13 : g_ty 11 13 = .int := rfl
theorem ty_11_14 : g_ty 11 14 = .int := rfl
theorem ty_11_2 : g_ty 11 2 = .object "ForgetHeirs$RuleReader" := rfl
theorem ty_11_3 : g_ty 11 3 = .array (.object "ForgetHeirs$Rule") := rfl
theorem ty_11_4 : g_ty 11 4 = .object "ForgetHeirs$Years" := rfl
theorem ty_11_5 : g_ty 11 5 = .object "ForgetHeirs$State" := rfl
theorem ty_11_6 : g_ty 11 6 = .object "ForgetHeirs$State" := rfl
theorem ty_11_7 : g_ty 11 7 = .object "ForgetHeirs$Past" := rfl
theorem ty_11_8 : g_ty 11 8 = .array (.object "ForgetHeirs$Image") := rfl
theorem ty_11_9 : g_ty 11 9 = .array .int := rfl
theorem ty_12_0 : g_ty 12 0 = .array .byte := rfl
theorem ty_12_1 : g_ty 12 1 = .int := rfl
theorem ty_12_10 : g_ty 12 10 = .int := rfl
theorem ty_12_11 : g_ty 12 11 = .int := rfl
theorem ty_12_12 : g_ty 12 12 = .int := rfl
theorem ty_12_13 : g_ty 12 13 = .int := rfl
theorem ty_12_14 : g_ty 12 14 = .int := rfl
theorem ty_12_15 : g_ty 12 15 = .array .int := rfl
theorem ty_12_16 : g_ty 12 16 = .int := rfl
theorem ty_12_17 : g_ty 12 17 = .array .long := rfl
theorem ty_12_18 : g_ty 12 18 = .int := rfl
theorem ty_12_19 : g_ty 12 19 = .array .long := rfl
theorem ty_12_2 : g_ty 12 2 = .int := rfl
theorem ty_12_20 : g_ty 12 20 = .array .int := rfl
theorem ty_12_21 : g_ty 12 21 = .int := rfl
theorem ty_12_22 : g_ty 12 22 = .int := rfl
theorem ty_12_23 : g_ty 12 23 = .array .int := rfl
theorem ty_12_24 : g_ty 12 24 = .array .int := rfl
theorem ty_12_25 : g_ty 12 25 = .int := rfl
theorem ty_12_26 : g_ty 12 26 = .array .int := rfl
theorem ty_12_27 : g_ty 12 27 = .array .int := rfl
theorem ty_12_28 : g_ty 12 28 = .array .int := rfl
theorem ty_12_29 : g_ty 12 29 = .int := rfl
theorem ty_12_3 : g_ty 12 3 = .array .int := rfl
theorem ty_12_30 : g_ty 12 30 = .array .int := rfl
theorem ty_12_31 : g_ty 12 31 = .array .int := rfl
theorem ty_12_32 : g_ty 12 32 = .long := rfl
theorem ty_12_33 : g_ty 12 33 = .array .int := rfl
theorem ty_12_34 : g_ty 12 34 = .array .int := rfl
theorem ty_12_35 : g_ty 12 35 = .array .int := rfl
theorem ty_12_36 : g_ty 12 36 = .array .boolean := rfl
theorem ty_12_4 : g_ty 12 4 = .array .int := rfl
theorem ty_12_5 : g_ty 12 5 = .array .int := rfl
theorem ty_12_6 : g_ty 12 6 = .array .int := rfl
theorem ty_12_7 : g_ty 12 7 = .array .int := rfl
theorem ty_12_8 : g_ty 12 8 = .int := rfl
theorem ty_12_9 : g_ty 12 9 = .int := rfl
theorem ty_1_0 : g_ty 1 0 = .array .int := rfl
theorem ty_1_1 : g_ty 1 1 = .array .int := rfl
theorem ty_1_10 : g_ty 1 10 = .int := rfl
theorem ty_1_2 : g_ty 1 2 = .array .int := rfl
theorem ty_1_3 : g_ty 1 3 = .array .int := rfl
theorem ty_1_4 : g_ty 1 4 = .array .int := rfl
theorem ty_1_5 : g_ty 1 5 = .boolean := rfl
theorem ty_1_6 : g_ty 1 6 = .int := rfl
theorem ty_1_7 : g_ty 1 7 = .int := rfl
theorem ty_1_8 : g_ty 1 8 = .int := rfl
theorem ty_1_9 : g_ty 1 9 = .int := rfl
theorem ty_2_0 : g_ty 2 0 = .object "ForgetHeirs$Tape" := rfl
theorem ty_2_1 : g_ty 2 1 = .object "ForgetHeirs$House" := rfl
theorem ty_2_2 : g_ty 2 2 = .object "ForgetHeirs$State" := rfl
theorem ty_3_0 : g_ty 3 0 = .object "ForgetHeirs$State" := rfl
theorem ty_3_1 : g_ty 3 1 = .object "ForgetHeirs$House" := rfl
theorem ty_3_2 : g_ty 3 2 = .int := rfl
theorem ty_3_3 : g_ty 3 3 = .int := rfl
theorem ty_4_0 : g_ty 4 0 = .array (.object "ForgetHeirs$State") := rfl
theorem ty_4_1 : g_ty 4 1 = .int := rfl
theorem ty_4_2 : g_ty 4 2 = .int := rfl
theorem ty_5_0 : g_ty 5 0 = .array .long := rfl
theorem ty_5_1 : g_ty 5 1 = .array .long := rfl
theorem ty_5_2 : g_ty 5 2 = .int := rfl
theorem ty_6_0 : g_ty 6 0 = .array .int := rfl
theorem ty_6_1 : g_ty 6 1 = .array .int := rfl
theorem ty_7_0 : g_ty 7 0 = .object "ForgetHeirs$Tape" := rfl
theorem ty_7_1 : g_ty 7 1 = .array .int := rfl
theorem ty_7_2 : g_ty 7 2 = .array .int := rfl
theorem ty_7_3 : g_ty 7 3 = .int := rfl
theorem ty_7_4 : g_ty 7 4 = .int := rfl
theorem ty_7_5 : g_ty 7 5 = .int := rfl
theorem ty_8_0 : g_ty 8 0 = .array .int := rfl
theorem ty_8_1 : g_ty 8 1 = .array .int := rfl
theorem ty_8_2 : g_ty 8 2 = .array .int := rfl
theorem ty_8_3 : g_ty 8 3 = .array .int := rfl
theorem ty_8_4 : g_ty 8 4 = .int := rfl
theorem ty_8_5 : g_ty 8 5 = .int := rfl
theorem ty_8_6 : g_ty 8 6 = .int := rfl
theorem ty_9_0 : g_ty 9 0 = .array .byte := rfl
theorem ty_9_1 : g_ty 9 1 = .array .int := rfl
theorem ty_9_2 : g_ty 9 2 = .array .int := rfl
theorem ty_9_3 : g_ty 9 3 = .array .int := rfl
theorem ty_9_4 : g_ty 9 4 = .int := rfl
theorem ty_9_5 : g_ty 9 5 = .int := rfl
theorem ty_9_6 : g_ty 9 6 = .int := rfl
theorem ty_9_7 : g_ty 9 7 = .int := rfl
set_option maxRecDepth 20000 in
theorem f_X0_15 : g_Fld RX0 15 0 1 := ⟨g_cok0, by decide, gq_in gq_s1 139 rfl rfl⟩
set_option maxRecDepth 20000 in
theorem f_X0_9 : g_Fld RX0 9 0 0 := ⟨g_cok0, by decide, gq_in gq_s1 138 rfl rfl⟩
set_option maxRecDepth 20000 in
theorem f_X10_18 : g_Fld RX10 18 10 1 := ⟨g_cok10, by decide, gq_in gq_s1 57 rfl rfl⟩
set_option maxRecDepth 20000 in
theorem f_X10_30 : g_Fld RX10 30 1 7 := ⟨g_cok1, by decide, gq_in gq_s1 179 rfl rfl⟩
set_option maxRecDepth 20000 in
theorem f_X10_36 : g_Fld RX10 36 8 2 := ⟨g_cok8, by decide, gq_in gq_s1 77 rfl rfl⟩
set_option maxRecDepth 20000 in
theorem f_X10_51 : g_Fld RX10 51 8 5 := ⟨g_cok8, by decide, gq_in gq_s1 89 rfl rfl⟩
set_option maxRecDepth 20000 in
theorem f_X10_54 : g_Fld RX10 54 1 6 := ⟨g_cok1, by decide, gq_in gq_s1 174 rfl rfl⟩
set_option maxRecDepth 20000 in
theorem f_X10_57 : g_Fld RX10 57 8 1 := ⟨g_cok8, by decide, gq_in gq_s1 74 rfl rfl⟩
set_option maxRecDepth 20000 in
theorem f_X10_60 : g_Fld RX10 60 8 4 := ⟨g_cok8, by decide, gq_in gq_s1 86 rfl rfl⟩
set_option maxRecDepth 20000 in
theorem f_X10_87 : g_Fld RX10 87 8 3 := ⟨g_cok8, by decide, gq_in gq_s1 82 rfl rfl⟩
set_option maxRecDepth 20000 in
theorem f_X10_9 : g_Fld RX10 9 10 0 := ⟨g_cok10, by decide, gq_in gq_s1 56 rfl rfl⟩
set_option maxRecDepth 20000 in
theorem f_X11_108 : g_Fld RX11 108 9 7 := ⟨g_cok9, by decide, gq_in gq_s1 232 rfl rfl⟩
set_option maxRecDepth 20000 in
theorem f_X11_11 : g_Fld RX11 11 11 3 := ⟨g_cok11, by decide, gq_in gq_s2 84 rfl rfl⟩
set_option maxRecDepth 20000 in
theorem f_X11_111 : g_Fld RX11 111 2 2 := ⟨g_cok2, by decide, gq_in gq_s2 24 rfl rfl⟩
set_option maxRecDepth 20000 in
theorem f_X11_121 : g_Fld RX11 121 1 7 := ⟨g_cok1, by decide, gq_in gq_s1 180 rfl rfl⟩
set_option maxRecDepth 20000 in
theorem f_X11_131 : g_Fld RX11 131 8 2 := ⟨g_cok8, by decide, gq_in gq_s1 79 rfl rfl⟩
set_option maxRecDepth 20000 in
theorem f_X11_134 : g_Fld RX11 134 1 3 := ⟨g_cok1, by decide, gq_in gq_s1 165 rfl rfl⟩
set_option maxRecDepth 20000 in
theorem f_X11_137 : g_Fld RX11 137 1 10 := ⟨g_cok1, by decide, gq_in gq_s1 193 rfl rfl⟩
set_option maxRecDepth 20000 in
theorem f_X11_144 : g_Fld RX11 144 1 4 := ⟨g_cok1, by decide, gq_in gq_s1 168 rfl rfl⟩
set_option maxRecDepth 20000 in
theorem f_X11_157 : g_Fld RX11 157 1 0 := ⟨g_cok1, by decide, gq_in gq_s1 155 rfl rfl⟩
set_option maxRecDepth 20000 in
theorem f_X11_160 : g_Fld RX11 160 1 1 := ⟨g_cok1, by decide, gq_in gq_s1 158 rfl rfl⟩
set_option maxRecDepth 20000 in
theorem f_X11_163 : g_Fld RX11 163 1 2 := ⟨g_cok1, by decide, gq_in gq_s1 162 rfl rfl⟩
set_option maxRecDepth 20000 in
theorem f_X11_166 : g_Fld RX11 166 1 9 := ⟨g_cok1, by decide, gq_in gq_s1 189 rfl rfl⟩
set_option maxRecDepth 20000 in
theorem f_X11_169 : g_Fld RX11 169 8 4 := ⟨g_cok8, by decide, gq_in gq_s1 87 rfl rfl⟩
set_option maxRecDepth 20000 in
theorem f_X11_172 : g_Fld RX11 172 8 3 := ⟨g_cok8, by decide, gq_in gq_s1 83 rfl rfl⟩
set_option maxRecDepth 20000 in
theorem f_X11_178 : g_Fld RX11 178 8 1 := ⟨g_cok8, by decide, gq_in gq_s1 75 rfl rfl⟩
set_option maxRecDepth 20000 in
theorem f_X11_18 : g_Fld RX11 18 11 4 := ⟨g_cok11, by decide, gq_in gq_s2 85 rfl rfl⟩
set_option maxRecDepth 20000 in
theorem f_X11_181 : g_Fld RX11 181 8 0 := ⟨g_cok8, by decide, gq_in gq_s1 71 rfl rfl⟩
set_option maxRecDepth 20000 in
theorem f_X11_184 : g_Fld RX11 184 1 6 := ⟨g_cok1, by decide, gq_in gq_s1 177 rfl rfl⟩
set_option maxRecDepth 20000 in
theorem f_X11_187 : g_Fld RX11 187 1 8 := ⟨g_cok1, by decide, gq_in gq_s1 185 rfl rfl⟩
set_option maxRecDepth 20000 in
theorem f_X11_190 : g_Fld RX11 190 8 5 := ⟨g_cok8, by decide, gq_in gq_s1 91 rfl rfl⟩
set_option maxRecDepth 20000 in
theorem f_X11_193 : g_Fld RX11 193 8 6 := ⟨g_cok8, by decide, gq_in gq_s1 94 rfl rfl⟩
set_option maxRecDepth 20000 in
theorem f_X11_203 : g_Fld RX11 203 4 2 := ⟨g_cok4, by decide, gq_in gq_s1 122 rfl rfl⟩
set_option maxRecDepth 20000 in
theorem f_X11_204 : g_Fld RX11 204 1 5 := ⟨g_cok1, by decide, gq_in gq_s1 172 rfl rfl⟩
set_option maxRecDepth 20000 in
theorem f_X11_25 : g_Fld RX11 25 11 5 := ⟨g_cok11, by decide, gq_in gq_s2 86 rfl rfl⟩
set_option maxRecDepth 20000 in
theorem f_X11_29 : g_Fld RX11 29 11 6 := ⟨g_cok11, by decide, gq_in gq_s2 87 rfl rfl⟩
set_option maxRecDepth 20000 in
theorem f_X11_324 : g_Fld RX11 324 3 1 := ⟨g_cok3, by decide, gq_in gq_s2 67 rfl rfl⟩
set_option maxRecDepth 20000 in
theorem f_X11_325 : g_Fld RX11 325 3 0 := ⟨g_cok3, by decide, gq_in gq_s2 65 rfl rfl⟩
set_option maxRecDepth 20000 in
theorem f_X11_326 : g_Fld RX11 326 3 2 := ⟨g_cok3, by decide, gq_in gq_s2 69 rfl rfl⟩
set_option maxRecDepth 20000 in
theorem f_X11_327 : g_Fld RX11 327 3 3 := ⟨g_cok3, by decide, gq_in gq_s2 71 rfl rfl⟩
set_option maxRecDepth 20000 in
theorem f_X11_35 : g_Fld RX11 35 11 7 := ⟨g_cok11, by decide, gq_in gq_s2 88 rfl rfl⟩
set_option maxRecDepth 20000 in
theorem f_X11_41 : g_Fld RX11 41 11 8 := ⟨g_cok11, by decide, gq_in gq_s2 89 rfl rfl⟩
set_option maxRecDepth 20000 in
theorem f_X11_45 : g_Fld RX11 45 11 9 := ⟨g_cok11, by decide, gq_in gq_s2 90 rfl rfl⟩
set_option maxRecDepth 20000 in
theorem f_X11_52 : g_Fld RX11 52 11 10 := ⟨g_cok11, by decide, gq_in gq_s2 91 rfl rfl⟩
set_option maxRecDepth 20000 in
theorem f_X11_59 : g_Fld RX11 59 11 11 := ⟨g_cok11, by decide, gq_in gq_s2 92 rfl rfl⟩
set_option maxRecDepth 20000 in
theorem f_X11_63 : g_Fld RX11 63 11 12 := ⟨g_cok11, by decide, gq_in gq_s2 93 rfl rfl⟩
set_option maxRecDepth 20000 in
theorem f_X11_67 : g_Fld RX11 67 11 13 := ⟨g_cok11, by decide, gq_in gq_s2 94 rfl rfl⟩
set_option maxRecDepth 20000 in
theorem f_X11_70 : g_Fld RX11 70 11 14 := ⟨g_cok11, by decide, gq_in gq_s2 95 rfl rfl⟩
set_option maxRecDepth 20000 in
theorem f_X11_76 : g_Fld RX11 76 11 0 := ⟨g_cok11, by decide, gq_in gq_s2 81 rfl rfl⟩
set_option maxRecDepth 20000 in
theorem f_X11_85 : g_Fld RX11 85 11 1 := ⟨g_cok11, by decide, gq_in gq_s2 82 rfl rfl⟩
set_option maxRecDepth 20000 in
theorem f_X11_92 : g_Fld RX11 92 11 2 := ⟨g_cok11, by decide, gq_in gq_s2 83 rfl rfl⟩
set_option maxRecDepth 20000 in
theorem f_X11_97 : g_Fld RX11 97 9 6 := ⟨g_cok9, by decide, gq_in gq_s1 230 rfl rfl⟩
set_option maxRecDepth 20000 in
theorem f_X12_115 : g_Fld RX12 115 12 10 := ⟨g_cok12, by decide, gq_in gq_s5 37 rfl rfl⟩
set_option maxRecDepth 20000 in
theorem f_X12_13 : g_Fld RX12 13 12 3 := ⟨g_cok12, by decide, gq_in gq_s5 30 rfl rfl⟩
set_option maxRecDepth 20000 in
theorem f_X12_150 : g_Fld RX12 150 12 11 := ⟨g_cok12, by decide, gq_in gq_s5 38 rfl rfl⟩
set_option maxRecDepth 20000 in
theorem f_X12_153 : g_Fld RX12 153 12 12 := ⟨g_cok12, by decide, gq_in gq_s5 39 rfl rfl⟩
set_option maxRecDepth 20000 in
theorem f_X12_156 : g_Fld RX12 156 12 13 := ⟨g_cok12, by decide, gq_in gq_s5 40 rfl rfl⟩
set_option maxRecDepth 20000 in
theorem f_X12_159 : g_Fld RX12 159 12 16 := ⟨g_cok12, by decide, gq_in gq_s5 43 rfl rfl⟩
set_option maxRecDepth 20000 in
theorem f_X12_17 : g_Fld RX12 17 12 4 := ⟨g_cok12, by decide, gq_in gq_s5 31 rfl rfl⟩
set_option maxRecDepth 20000 in
theorem f_X12_20 : g_Fld RX12 20 12 5 := ⟨g_cok12, by decide, gq_in gq_s5 32 rfl rfl⟩
set_option maxRecDepth 20000 in
theorem f_X12_23 : g_Fld RX12 23 12 6 := ⟨g_cok12, by decide, gq_in gq_s5 33 rfl rfl⟩
set_option maxRecDepth 20000 in
theorem f_X12_26 : g_Fld RX12 26 12 7 := ⟨g_cok12, by decide, gq_in gq_s5 34 rfl rfl⟩
set_option maxRecDepth 20000 in
theorem f_X12_261 : g_Fld RX12 261 12 14 := ⟨g_cok12, by decide, gq_in gq_s5 41 rfl rfl⟩
set_option maxRecDepth 20000 in
theorem f_X12_273 : g_Fld RX12 273 12 2 := ⟨g_cok12, by decide, gq_in gq_s5 29 rfl rfl⟩
set_option maxRecDepth 20000 in
theorem f_X12_279 : g_Fld RX12 279 12 25 := ⟨g_cok12, by decide, gq_in gq_s5 52 rfl rfl⟩
set_option maxRecDepth 20000 in
theorem f_X12_282 : g_Fld RX12 282 12 18 := ⟨g_cok12, by decide, gq_in gq_s5 45 rfl rfl⟩
set_option maxRecDepth 20000 in
theorem f_X12_29 : g_Fld RX12 29 12 15 := ⟨g_cok12, by decide, gq_in gq_s5 42 rfl rfl⟩
set_option maxRecDepth 20000 in
theorem f_X12_32 : g_Fld RX12 32 12 17 := ⟨g_cok12, by decide, gq_in gq_s5 44 rfl rfl⟩
set_option maxRecDepth 20000 in
theorem f_X12_36 : g_Fld RX12 36 12 19 := ⟨g_cok12, by decide, gq_in gq_s5 46 rfl rfl⟩
set_option maxRecDepth 20000 in
theorem f_X12_39 : g_Fld RX12 39 12 20 := ⟨g_cok12, by decide, gq_in gq_s5 47 rfl rfl⟩
set_option maxRecDepth 20000 in
theorem f_X12_404 : g_Fld RX12 404 12 29 := ⟨g_cok12, by decide, gq_in gq_s5 56 rfl rfl⟩
set_option maxRecDepth 20000 in
theorem f_X12_42 : g_Fld RX12 42 12 21 := ⟨g_cok12, by decide, gq_in gq_s5 48 rfl rfl⟩
set_option maxRecDepth 20000 in
theorem f_X12_427 : g_Fld RX12 427 12 22 := ⟨g_cok12, by decide, gq_in gq_s5 49 rfl rfl⟩
set_option maxRecDepth 20000 in
theorem f_X12_430 : g_Fld RX12 430 12 32 := ⟨g_cok12, by decide, gq_in gq_s5 59 rfl rfl⟩
set_option maxRecDepth 20000 in
theorem f_X12_46 : g_Fld RX12 46 12 23 := ⟨g_cok12, by decide, gq_in gq_s5 50 rfl rfl⟩
set_option maxRecDepth 20000 in
theorem f_X12_49 : g_Fld RX12 49 12 24 := ⟨g_cok12, by decide, gq_in gq_s5 51 rfl rfl⟩
set_option maxRecDepth 20000 in
theorem f_X12_52 : g_Fld RX12 52 12 26 := ⟨g_cok12, by decide, gq_in gq_s5 53 rfl rfl⟩
set_option maxRecDepth 20000 in
theorem f_X12_55 : g_Fld RX12 55 12 27 := ⟨g_cok12, by decide, gq_in gq_s5 54 rfl rfl⟩
set_option maxRecDepth 20000 in
theorem f_X12_58 : g_Fld RX12 58 12 28 := ⟨g_cok12, by decide, gq_in gq_s5 55 rfl rfl⟩
set_option maxRecDepth 20000 in
theorem f_X12_61 : g_Fld RX12 61 12 30 := ⟨g_cok12, by decide, gq_in gq_s5 57 rfl rfl⟩
set_option maxRecDepth 20000 in
theorem f_X12_64 : g_Fld RX12 64 12 31 := ⟨g_cok12, by decide, gq_in gq_s5 58 rfl rfl⟩
set_option maxRecDepth 20000 in
theorem f_X12_67 : g_Fld RX12 67 12 33 := ⟨g_cok12, by decide, gq_in gq_s5 60 rfl rfl⟩
set_option maxRecDepth 20000 in
theorem f_X12_7 : g_Fld RX12 7 12 0 := ⟨g_cok12, by decide, gq_in gq_s5 27 rfl rfl⟩
set_option maxRecDepth 20000 in
theorem f_X12_70 : g_Fld RX12 70 12 34 := ⟨g_cok12, by decide, gq_in gq_s5 61 rfl rfl⟩
set_option maxRecDepth 20000 in
theorem f_X12_73 : g_Fld RX12 73 12 35 := ⟨g_cok12, by decide, gq_in gq_s5 62 rfl rfl⟩
set_option maxRecDepth 20000 in
theorem f_X12_76 : g_Fld RX12 76 12 36 := ⟨g_cok12, by decide, gq_in gq_s5 63 rfl rfl⟩
set_option maxRecDepth 20000 in
theorem f_X12_80 : g_Fld RX12 80 12 1 := ⟨g_cok12, by decide, gq_in gq_s5 28 rfl rfl⟩
set_option maxRecDepth 20000 in
theorem f_X12_87 : g_Fld RX12 87 12 9 := ⟨g_cok12, by decide, gq_in gq_s5 36 rfl rfl⟩
set_option maxRecDepth 20000 in
theorem f_X12_90 : g_Fld RX12 90 12 8 := ⟨g_cok12, by decide, gq_in gq_s5 35 rfl rfl⟩
set_option maxRecDepth 20000 in
theorem f_X1_15 : g_Fld RX1 15 1 1 := ⟨g_cok1, by decide, gq_in gq_s1 156 rfl rfl⟩
set_option maxRecDepth 20000 in
theorem f_X1_18 : g_Fld RX1 18 1 2 := ⟨g_cok1, by decide, gq_in gq_s1 160 rfl rfl⟩
set_option maxRecDepth 20000 in
theorem f_X1_21 : g_Fld RX1 21 1 3 := ⟨g_cok1, by decide, gq_in gq_s1 164 rfl rfl⟩
set_option maxRecDepth 20000 in
theorem f_X1_24 : g_Fld RX1 24 1 4 := ⟨g_cok1, by decide, gq_in gq_s1 167 rfl rfl⟩
set_option maxRecDepth 20000 in
theorem f_X1_27 : g_Fld RX1 27 1 5 := ⟨g_cok1, by decide, gq_in gq_s1 170 rfl rfl⟩
set_option maxRecDepth 20000 in
theorem f_X1_31 : g_Fld RX1 31 1 6 := ⟨g_cok1, by decide, gq_in gq_s1 173 rfl rfl⟩
set_option maxRecDepth 20000 in
theorem f_X1_35 : g_Fld RX1 35 1 7 := ⟨g_cok1, by decide, gq_in gq_s1 178 rfl rfl⟩
set_option maxRecDepth 20000 in
theorem f_X1_38 : g_Fld RX1 38 1 8 := ⟨g_cok1, by decide, gq_in gq_s1 183 rfl rfl⟩
set_option maxRecDepth 20000 in
theorem f_X1_41 : g_Fld RX1 41 1 9 := ⟨g_cok1, by decide, gq_in gq_s1 186 rfl rfl⟩
set_option maxRecDepth 20000 in
theorem f_X1_44 : g_Fld RX1 44 1 10 := ⟨g_cok1, by decide, gq_in gq_s1 190 rfl rfl⟩
set_option maxRecDepth 20000 in
theorem f_X1_9 : g_Fld RX1 9 1 0 := ⟨g_cok1, by decide, gq_in gq_s1 151 rfl rfl⟩
set_option maxRecDepth 20000 in
theorem f_X2_106 : g_Fld RX2 106 1 10 := ⟨g_cok1, by decide, gq_in gq_s1 192 rfl rfl⟩
set_option maxRecDepth 20000 in
theorem f_X2_115 : g_Fld RX2 115 1 0 := ⟨g_cok1, by decide, gq_in gq_s1 154 rfl rfl⟩
set_option maxRecDepth 20000 in
theorem f_X2_119 : g_Fld RX2 119 1 1 := ⟨g_cok1, by decide, gq_in gq_s1 159 rfl rfl⟩
set_option maxRecDepth 20000 in
theorem f_X2_12 : g_Fld RX2 12 2 1 := ⟨g_cok2, by decide, gq_in gq_s2 22 rfl rfl⟩
set_option maxRecDepth 20000 in
theorem f_X2_122 : g_Fld RX2 122 1 2 := ⟨g_cok1, by decide, gq_in gq_s1 163 rfl rfl⟩
set_option maxRecDepth 20000 in
theorem f_X2_125 : g_Fld RX2 125 8 2 := ⟨g_cok8, by decide, gq_in gq_s1 80 rfl rfl⟩
set_option maxRecDepth 20000 in
theorem f_X2_128 : g_Fld RX2 128 1 3 := ⟨g_cok1, by decide, gq_in gq_s1 166 rfl rfl⟩
set_option maxRecDepth 20000 in
theorem f_X2_131 : g_Fld RX2 131 1 4 := ⟨g_cok1, by decide, gq_in gq_s1 169 rfl rfl⟩
set_option maxRecDepth 20000 in
theorem f_X2_21 : g_Fld RX2 21 2 2 := ⟨g_cok2, by decide, gq_in gq_s2 23 rfl rfl⟩
set_option maxRecDepth 20000 in
theorem f_X2_25 : g_Fld RX2 25 2 0 := ⟨g_cok2, by decide, gq_in gq_s2 21 rfl rfl⟩
set_option maxRecDepth 20000 in
theorem f_X2_48 : g_Fld RX2 48 1 5 := ⟨g_cok1, by decide, gq_in gq_s1 171 rfl rfl⟩
set_option maxRecDepth 20000 in
theorem f_X2_76 : g_Fld RX2 76 1 6 := ⟨g_cok1, by decide, gq_in gq_s1 175 rfl rfl⟩
set_option maxRecDepth 20000 in
theorem f_X2_80 : g_Fld RX2 80 1 7 := ⟨g_cok1, by decide, gq_in gq_s1 181 rfl rfl⟩
set_option maxRecDepth 20000 in
theorem f_X2_83 : g_Fld RX2 83 1 8 := ⟨g_cok1, by decide, gq_in gq_s1 184 rfl rfl⟩
set_option maxRecDepth 20000 in
theorem f_X2_90 : g_Fld RX2 90 8 6 := ⟨g_cok8, by decide, gq_in gq_s1 93 rfl rfl⟩
set_option maxRecDepth 20000 in
theorem f_X2_96 : g_Fld RX2 96 1 9 := ⟨g_cok1, by decide, gq_in gq_s1 188 rfl rfl⟩
set_option maxRecDepth 20000 in
theorem f_X3_12 : g_Fld RX3 12 3 0 := ⟨g_cok3, by decide, gq_in gq_s2 64 rfl rfl⟩
set_option maxRecDepth 20000 in
theorem f_X3_18 : g_Fld RX3 18 3 1 := ⟨g_cok3, by decide, gq_in gq_s2 66 rfl rfl⟩
set_option maxRecDepth 20000 in
theorem f_X3_22 : g_Fld RX3 22 3 2 := ⟨g_cok3, by decide, gq_in gq_s2 68 rfl rfl⟩
set_option maxRecDepth 20000 in
theorem f_X3_26 : g_Fld RX3 26 3 3 := ⟨g_cok3, by decide, gq_in gq_s2 70 rfl rfl⟩
set_option maxRecDepth 20000 in
theorem f_X4_11 : g_Fld RX4 11 4 0 := ⟨g_cok4, by decide, gq_in gq_s1 119 rfl rfl⟩
set_option maxRecDepth 20000 in
theorem f_X4_15 : g_Fld RX4 15 4 1 := ⟨g_cok4, by decide, gq_in gq_s1 120 rfl rfl⟩
set_option maxRecDepth 20000 in
theorem f_X4_19 : g_Fld RX4 19 4 2 := ⟨g_cok4, by decide, gq_in gq_s1 121 rfl rfl⟩
set_option maxRecDepth 20000 in
theorem f_X5_11 : g_Fld RX5 11 5 0 := ⟨g_cok5, by decide, gq_in gq_s1 44 rfl rfl⟩
set_option maxRecDepth 20000 in
theorem f_X5_17 : g_Fld RX5 17 5 1 := ⟨g_cok5, by decide, gq_in gq_s1 45 rfl rfl⟩
set_option maxRecDepth 20000 in
theorem f_X5_20 : g_Fld RX5 20 5 2 := ⟨g_cok5, by decide, gq_in gq_s1 46 rfl rfl⟩
set_option maxRecDepth 20000 in
theorem f_X5_24 : g_Fld RX5 24 8 0 := ⟨g_cok8, by decide, gq_in gq_s1 70 rfl rfl⟩
set_option maxRecDepth 20000 in
theorem f_X5_30 : g_Fld RX5 30 1 0 := ⟨g_cok1, by decide, gq_in gq_s1 152 rfl rfl⟩
set_option maxRecDepth 20000 in
theorem f_X5_35 : g_Fld RX5 35 8 1 := ⟨g_cok8, by decide, gq_in gq_s1 73 rfl rfl⟩
set_option maxRecDepth 20000 in
theorem f_X5_38 : g_Fld RX5 38 8 2 := ⟨g_cok8, by decide, gq_in gq_s1 78 rfl rfl⟩
set_option maxRecDepth 20000 in
theorem f_X5_41 : g_Fld RX5 41 1 10 := ⟨g_cok1, by decide, gq_in gq_s1 191 rfl rfl⟩
set_option maxRecDepth 20000 in
theorem f_X5_48 : g_Fld RX5 48 1 9 := ⟨g_cok1, by decide, gq_in gq_s1 187 rfl rfl⟩
set_option maxRecDepth 20000 in
theorem f_X5_51 : g_Fld RX5 51 8 4 := ⟨g_cok8, by decide, gq_in gq_s1 85 rfl rfl⟩
set_option maxRecDepth 20000 in
theorem f_X5_54 : g_Fld RX5 54 1 1 := ⟨g_cok1, by decide, gq_in gq_s1 157 rfl rfl⟩
set_option maxRecDepth 20000 in
theorem f_X5_57 : g_Fld RX5 57 1 2 := ⟨g_cok1, by decide, gq_in gq_s1 161 rfl rfl⟩
set_option maxRecDepth 20000 in
theorem f_X5_60 : g_Fld RX5 60 8 5 := ⟨g_cok8, by decide, gq_in gq_s1 90 rfl rfl⟩
set_option maxRecDepth 20000 in
theorem f_X5_77 : g_Fld RX5 77 6 1 := ⟨g_cok6, by decide, gq_in gq_s3 159 rfl rfl⟩
set_option maxRecDepth 20000 in
theorem f_X5_82 : g_Fld RX5 82 6 0 := ⟨g_cok6, by decide, gq_in gq_s3 157 rfl rfl⟩
set_option maxRecDepth 20000 in
theorem f_X6_13 : g_Fld RX6 13 6 1 := ⟨g_cok6, by decide, gq_in gq_s3 158 rfl rfl⟩
set_option maxRecDepth 20000 in
theorem f_X6_7 : g_Fld RX6 7 6 0 := ⟨g_cok6, by decide, gq_in gq_s3 156 rfl rfl⟩
set_option maxRecDepth 20000 in
theorem f_X7_11 : g_Fld RX7 11 7 1 := ⟨g_cok7, by decide, gq_in gq_s2 39 rfl rfl⟩
set_option maxRecDepth 20000 in
theorem f_X7_17 : g_Fld RX7 17 7 2 := ⟨g_cok7, by decide, gq_in gq_s2 40 rfl rfl⟩
set_option maxRecDepth 20000 in
theorem f_X7_20 : g_Fld RX7 20 7 3 := ⟨g_cok7, by decide, gq_in gq_s2 41 rfl rfl⟩
set_option maxRecDepth 20000 in
theorem f_X7_24 : g_Fld RX7 24 7 4 := ⟨g_cok7, by decide, gq_in gq_s2 42 rfl rfl⟩
set_option maxRecDepth 20000 in
theorem f_X7_27 : g_Fld RX7 27 7 5 := ⟨g_cok7, by decide, gq_in gq_s2 43 rfl rfl⟩
set_option maxRecDepth 20000 in
theorem f_X7_30 : g_Fld RX7 30 7 0 := ⟨g_cok7, by decide, gq_in gq_s2 38 rfl rfl⟩
set_option maxRecDepth 20000 in
theorem f_X8_15 : g_Fld RX8 15 8 1 := ⟨g_cok8, by decide, gq_in gq_s1 72 rfl rfl⟩
set_option maxRecDepth 20000 in
theorem f_X8_18 : g_Fld RX8 18 8 2 := ⟨g_cok8, by decide, gq_in gq_s1 76 rfl rfl⟩
set_option maxRecDepth 20000 in
theorem f_X8_21 : g_Fld RX8 21 8 3 := ⟨g_cok8, by decide, gq_in gq_s1 81 rfl rfl⟩
set_option maxRecDepth 20000 in
theorem f_X8_24 : g_Fld RX8 24 8 4 := ⟨g_cok8, by decide, gq_in gq_s1 84 rfl rfl⟩
set_option maxRecDepth 20000 in
theorem f_X8_28 : g_Fld RX8 28 8 5 := ⟨g_cok8, by decide, gq_in gq_s1 88 rfl rfl⟩
set_option maxRecDepth 20000 in
theorem f_X8_31 : g_Fld RX8 31 8 6 := ⟨g_cok8, by decide, gq_in gq_s1 92 rfl rfl⟩
set_option maxRecDepth 20000 in
theorem f_X8_58 : g_Fld RX8 58 1 0 := ⟨g_cok1, by decide, gq_in gq_s1 153 rfl rfl⟩
set_option maxRecDepth 20000 in
theorem f_X8_63 : g_Fld RX8 63 1 6 := ⟨g_cok1, by decide, gq_in gq_s1 176 rfl rfl⟩
set_option maxRecDepth 20000 in
theorem f_X8_66 : g_Fld RX8 66 1 7 := ⟨g_cok1, by decide, gq_in gq_s1 182 rfl rfl⟩
set_option maxRecDepth 20000 in
theorem f_X8_9 : g_Fld RX8 9 8 0 := ⟨g_cok8, by decide, gq_in gq_s1 69 rfl rfl⟩
set_option maxRecDepth 20000 in
theorem f_X9_11 : g_Fld RX9 11 9 0 := ⟨g_cok9, by decide, gq_in gq_s1 223 rfl rfl⟩
set_option maxRecDepth 20000 in
theorem f_X9_15 : g_Fld RX9 15 9 1 := ⟨g_cok9, by decide, gq_in gq_s1 224 rfl rfl⟩
set_option maxRecDepth 20000 in
theorem f_X9_19 : g_Fld RX9 19 9 2 := ⟨g_cok9, by decide, gq_in gq_s1 225 rfl rfl⟩
set_option maxRecDepth 20000 in
theorem f_X9_22 : g_Fld RX9 22 9 3 := ⟨g_cok9, by decide, gq_in gq_s1 226 rfl rfl⟩
set_option maxRecDepth 20000 in
theorem f_X9_25 : g_Fld RX9 25 9 4 := ⟨g_cok9, by decide, gq_in gq_s1 227 rfl rfl⟩
set_option maxRecDepth 20000 in
theorem f_X9_29 : g_Fld RX9 29 9 5 := ⟨g_cok9, by decide, gq_in gq_s1 228 rfl rfl⟩
set_option maxRecDepth 20000 in
theorem f_X9_32 : g_Fld RX9 32 9 6 := ⟨g_cok9, by decide, gq_in gq_s1 229 rfl rfl⟩
set_option maxRecDepth 20000 in
theorem f_X9_35 : g_Fld RX9 35 9 7 := ⟨g_cok9, by decide, gq_in gq_s1 231 rfl rfl⟩
theorem yc_J6_bitCount_0f7a4 : g_ycl yJ6_bitCount_0f7a4 1 := ⟨by decide +kernel, by decide +kernel, by decide +kernel⟩
theorem yc_J7_copyOf_59c91 : g_ycl yJ7_copyOf_59c91 2 := ⟨by decide +kernel, by decide +kernel, by decide +kernel⟩
theorem yc_X0_clear : g_ycl yX0_clear 1 := ⟨by decide +kernel, by decide +kernel, by decide +kernel⟩
theorem yc_X0_howMany : g_ycl yX0_howMany 0 := ⟨by decide +kernel, by decide +kernel, by decide +kernel⟩
theorem yc_X0_init : g_ycl yX0_init 0 := ⟨by decide +kernel, by decide +kernel, by decide +kernel⟩
theorem yc_X0_join : g_ycl yX0_join 2 := ⟨by decide +kernel, by decide +kernel, by decide +kernel⟩
theorem yc_X10_fadeAll : g_ycl yX10_fadeAll 2 := ⟨by decide +kernel, by decide +kernel, by decide +kernel⟩
theorem yc_X10_init : g_ycl yX10_init 0 := ⟨by decide +kernel, by decide +kernel, by decide +kernel⟩
theorem yc_X10_pass : g_ycl yX10_pass 3 := ⟨by decide +kernel, by decide +kernel, by decide +kernel⟩
theorem yc_X10_strikeForgotten : g_ycl yX10_strikeForgotten 2 := ⟨by decide +kernel, by decide +kernel, by decide +kernel⟩
theorem yc_X10_weigh : g_ycl yX10_weigh 3 := ⟨by decide +kernel, by decide +kernel, by decide +kernel⟩
theorem yc_X11_bit : g_ycl yX11_bit 2 := ⟨by decide +kernel, by decide +kernel, by decide +kernel⟩
theorem yc_X11_draw : g_ycl yX11_draw 0 := ⟨by decide +kernel, by decide +kernel, by decide +kernel⟩
theorem yc_X11_drinkLater : g_ycl yX11_drinkLater 0 := ⟨by decide +kernel, by decide +kernel, by decide +kernel⟩
theorem yc_X11_fillUnlike : g_ycl yX11_fillUnlike 1 := ⟨by decide +kernel, by decide +kernel, by decide +kernel⟩
theorem yc_X11_heldBehindAsk : g_ycl yX11_heldBehindAsk 1 := ⟨by decide +kernel, by decide +kernel, by decide +kernel⟩
theorem yc_X11_isHeir : g_ycl yX11_isHeir 1 := ⟨by decide +kernel, by decide +kernel, by decide +kernel⟩
theorem yc_X11_isKnown : g_ycl yX11_isKnown 2 := ⟨by decide +kernel, by decide +kernel, by decide +kernel⟩
theorem yc_X11_isThing : g_ycl yX11_isThing 1 := ⟨by decide +kernel, by decide +kernel, by decide +kernel⟩
theorem yc_X11_lookAhead : g_ycl yX11_lookAhead 1 := ⟨by decide +kernel, by decide +kernel, by decide +kernel⟩
theorem yc_X11_partsAll : g_ycl yX11_partsAll 2 := ⟨by decide +kernel, by decide +kernel, by decide +kernel⟩
theorem yc_X11_prompted : g_ycl yX11_prompted 1 := ⟨by decide +kernel, by decide +kernel, by decide +kernel⟩
theorem yc_X11_ruleInForce : g_ycl yX11_ruleInForce 0 := ⟨by decide +kernel, by decide +kernel, by decide +kernel⟩
theorem yc_X11_sharers : g_ycl yX11_sharers 2 := ⟨by decide +kernel, by decide +kernel, by decide +kernel⟩
theorem yc_X11_spread : g_ycl yX11_spread 3 := ⟨by decide +kernel, by decide +kernel, by decide +kernel⟩
theorem yc_X11_strikeLater : g_ycl yX11_strikeLater 1 := ⟨by decide +kernel, by decide +kernel, by decide +kernel⟩
theorem yc_X12_allHolds : g_ycl yX12_allHolds 0 := ⟨by decide +kernel, by decide +kernel, by decide +kernel⟩
theorem yc_X12_areCousinsHere : g_ycl yX12_areCousinsHere 1 := ⟨by decide +kernel, by decide +kernel, by decide +kernel⟩
theorem yc_X12_areParted : g_ycl yX12_areParted 2 := ⟨by decide +kernel, by decide +kernel, by decide +kernel⟩
theorem yc_X12_asks : g_ycl yX12_asks 2 := ⟨by decide +kernel, by decide +kernel, by decide +kernel⟩
theorem yc_X12_bits : g_ycl yX12_bits 1 := ⟨by decide +kernel, by decide +kernel, by decide +kernel⟩
theorem yc_X12_canHave : g_ycl yX12_canHave 3 := ⟨by decide +kernel, by decide +kernel, by decide +kernel⟩
theorem yc_X12_cellHere : g_ycl yX12_cellHere 3 := ⟨by decide +kernel, by decide +kernel, by decide +kernel⟩
theorem yc_X12_clauseHere : g_ycl yX12_clauseHere 0 := ⟨by decide +kernel, by decide +kernel, by decide +kernel⟩
theorem yc_X12_closes : g_ycl yX12_closes 0 := ⟨by decide +kernel, by decide +kernel, by decide +kernel⟩
theorem yc_X12_compare : g_ycl yX12_compare 0 := ⟨by decide +kernel, by decide +kernel, by decide +kernel⟩
theorem yc_X12_countsWay : g_ycl yX12_countsWay 0 := ⟨by decide +kernel, by decide +kernel, by decide +kernel⟩
theorem yc_X12_draw : g_ycl yX12_draw 1 := ⟨by decide +kernel, by decide +kernel, by decide +kernel⟩
theorem yc_X12_drinks : g_ycl yX12_drinks 0 := ⟨by decide +kernel, by decide +kernel, by decide +kernel⟩
theorem yc_X12_fact : g_ycl yX12_fact 0 := ⟨by decide +kernel, by decide +kernel, by decide +kernel⟩
theorem yc_X12_fades : g_ycl yX12_fades 3 := ⟨by decide +kernel, by decide +kernel, by decide +kernel⟩
theorem yc_X12_fails : g_ycl yX12_fails 2 := ⟨by decide +kernel, by decide +kernel, by decide +kernel⟩
theorem yc_X12_four : g_ycl yX12_four 1 := ⟨by decide +kernel, by decide +kernel, by decide +kernel⟩
theorem yc_X12_gathersWays : g_ycl yX12_gathersWays 1 := ⟨by decide +kernel, by decide +kernel, by decide +kernel⟩
theorem yc_X12_goesOn : g_ycl yX12_goesOn 3 := ⟨by decide +kernel, by decide +kernel, by decide +kernel⟩
theorem yc_X12_holdersOf : g_ycl yX12_holdersOf 1 := ⟨by decide +kernel, by decide +kernel, by decide +kernel⟩
theorem yc_X12_holds : g_ycl yX12_holds 2 := ⟨by decide +kernel, by decide +kernel, by decide +kernel⟩
theorem yc_X12_holdsOf : g_ycl yX12_holdsOf 1 := ⟨by decide +kernel, by decide +kernel, by decide +kernel⟩
theorem yc_X12_houseLineHere : g_ycl yX12_houseLineHere 1 := ⟨by decide +kernel, by decide +kernel, by decide +kernel⟩
theorem yc_X12_in : g_ycl yX12_in 3 := ⟨by decide +kernel, by decide +kernel, by decide +kernel⟩
theorem yc_X12_isDigit : g_ycl yX12_isDigit 1 := ⟨by decide +kernel, by decide +kernel, by decide +kernel⟩
theorem yc_X12_isFadeHere : g_ycl yX12_isFadeHere 0 := ⟨by decide +kernel, by decide +kernel, by decide +kernel⟩
theorem yc_X12_isHateHere : g_ycl yX12_isHateHere 0 := ⟨by decide +kernel, by decide +kernel, by decide +kernel⟩
theorem yc_X12_isHeir : g_ycl yX12_isHeir 1 := ⟨by decide +kernel, by decide +kernel, by decide +kernel⟩
theorem yc_X12_isHeirHere : g_ycl yX12_isHeirHere 1 := ⟨by decide +kernel, by decide +kernel, by decide +kernel⟩
theorem yc_X12_isHouse : g_ycl yX12_isHouse 0 := ⟨by decide +kernel, by decide +kernel, by decide +kernel⟩
theorem yc_X12_isHouseHere : g_ycl yX12_isHouseHere 1 := ⟨by decide +kernel, by decide +kernel, by decide +kernel⟩
theorem yc_X12_isHouseWord : g_ycl yX12_isHouseWord 0 := ⟨by decide +kernel, by decide +kernel, by decide +kernel⟩
theorem yc_X12_isInside : g_ycl yX12_isInside 0 := ⟨by decide +kernel, by decide +kernel, by decide +kernel⟩
theorem yc_X12_isKnownHere : g_ycl yX12_isKnownHere 0 := ⟨by decide +kernel, by decide +kernel, by decide +kernel⟩
theorem yc_X12_isLetter : g_ycl yX12_isLetter 1 := ⟨by decide +kernel, by decide +kernel, by decide +kernel⟩
theorem yc_X12_isOf : g_ycl yX12_isOf 2 := ⟨by decide +kernel, by decide +kernel, by decide +kernel⟩
theorem yc_X12_isRound : g_ycl yX12_isRound 2 := ⟨by decide +kernel, by decide +kernel, by decide +kernel⟩
theorem yc_X12_isRule : g_ycl yX12_isRule 1 := ⟨by decide +kernel, by decide +kernel, by decide +kernel⟩
theorem yc_X12_isSongHere : g_ycl yX12_isSongHere 0 := ⟨by decide +kernel, by decide +kernel, by decide +kernel⟩
theorem yc_X12_isThing : g_ycl yX12_isThing 1 := ⟨by decide +kernel, by decide +kernel, by decide +kernel⟩
theorem yc_X12_isThingHere : g_ycl yX12_isThingHere 1 := ⟨by decide +kernel, by decide +kernel, by decide +kernel⟩
theorem yc_X12_isWord : g_ycl yX12_isWord 1 := ⟨by decide +kernel, by decide +kernel, by decide +kernel⟩
theorem yc_X12_isWrong : g_ycl yX12_isWrong 2 := ⟨by decide +kernel, by decide +kernel, by decide +kernel⟩
theorem yc_X12_keeps : g_ycl yX12_keeps 0 := ⟨by decide +kernel, by decide +kernel, by decide +kernel⟩
theorem yc_X12_keepsAct : g_ycl yX12_keepsAct 0 := ⟨by decide +kernel, by decide +kernel, by decide +kernel⟩
theorem yc_X12_knowsNow : g_ycl yX12_knowsNow 4 := ⟨by decide +kernel, by decide +kernel, by decide +kernel⟩
theorem yc_X12_knowsOf : g_ycl yX12_knowsOf 2 := ⟨by decide +kernel, by decide +kernel, by decide +kernel⟩
theorem yc_X12_laysBack : g_ycl yX12_laysBack 0 := ⟨by decide +kernel, by decide +kernel, by decide +kernel⟩
theorem yc_X12_lossOf : g_ycl yX12_lossOf 2 := ⟨by decide +kernel, by decide +kernel, by decide +kernel⟩
theorem yc_X12_makes : g_ycl yX12_makes 1 := ⟨by decide +kernel, by decide +kernel, by decide +kernel⟩
theorem yc_X12_most : g_ycl yX12_most 0 := ⟨by decide +kernel, by decide +kernel, by decide +kernel⟩
theorem yc_X12_numberHere : g_ycl yX12_numberHere 2 := ⟨by decide +kernel, by decide +kernel, by decide +kernel⟩
theorem yc_X12_one : g_ycl yX12_one 3 := ⟨by decide +kernel, by decide +kernel, by decide +kernel⟩
theorem yc_X12_opens : g_ycl yX12_opens 1 := ⟨by decide +kernel, by decide +kernel, by decide +kernel⟩
theorem yc_X12_passWord : g_ycl yX12_passWord 0 := ⟨by decide +kernel, by decide +kernel, by decide +kernel⟩
theorem yc_X12_passes : g_ycl yX12_passes 0 := ⟨by decide +kernel, by decide +kernel, by decide +kernel⟩
theorem yc_X12_pop : g_ycl yX12_pop 0 := ⟨by decide +kernel, by decide +kernel, by decide +kernel⟩
theorem yc_X12_promptsYear : g_ycl yX12_promptsYear 1 := ⟨by decide +kernel, by decide +kernel, by decide +kernel⟩
theorem yc_X12_push : g_ycl yX12_push 1 := ⟨by decide +kernel, by decide +kernel, by decide +kernel⟩
theorem yc_X12_puts : g_ycl yX12_puts 2 := ⟨by decide +kernel, by decide +kernel, by decide +kernel⟩
theorem yc_X12_readsAll : g_ycl yX12_readsAll 0 := ⟨by decide +kernel, by decide +kernel, by decide +kernel⟩
theorem yc_X12_reckons : g_ycl yX12_reckons 3 := ⟨by decide +kernel, by decide +kernel, by decide +kernel⟩
theorem yc_X12_sameAs : g_ycl yX12_sameAs 2 := ⟨by decide +kernel, by decide +kernel, by decide +kernel⟩
theorem yc_X12_see : g_ycl yX12_see 0 := ⟨by decide +kernel, by decide +kernel, by decide +kernel⟩
theorem yc_X12_settles : g_ycl yX12_settles 1 := ⟨by decide +kernel, by decide +kernel, by decide +kernel⟩
theorem yc_X12_standing : g_ycl yX12_standing 0 := ⟨by decide +kernel, by decide +kernel, by decide +kernel⟩
theorem yc_X12_strength : g_ycl yX12_strength 1 := ⟨by decide +kernel, by decide +kernel, by decide +kernel⟩
theorem yc_X12_strengthOf : g_ycl yX12_strengthOf 2 := ⟨by decide +kernel, by decide +kernel, by decide +kernel⟩
theorem yc_X12_strikeOf : g_ycl yX12_strikeOf 1 := ⟨by decide +kernel, by decide +kernel, by decide +kernel⟩
theorem yc_X12_sum : g_ycl yX12_sum 0 := ⟨by decide +kernel, by decide +kernel, by decide +kernel⟩
theorem yc_X12_summedBy : g_ycl yX12_summedBy 1 := ⟨by decide +kernel, by decide +kernel, by decide +kernel⟩
theorem yc_X12_takes : g_ycl yX12_takes 4 := ⟨by decide +kernel, by decide +kernel, by decide +kernel⟩
theorem yc_X12_takesWord : g_ycl yX12_takesWord 1 := ⟨by decide +kernel, by decide +kernel, by decide +kernel⟩
theorem yc_X12_term : g_ycl yX12_term 0 := ⟨by decide +kernel, by decide +kernel, by decide +kernel⟩
theorem yc_X12_tested : g_ycl yX12_tested 0 := ⟨by decide +kernel, by decide +kernel, by decide +kernel⟩
theorem yc_X12_thingOf : g_ycl yX12_thingOf 2 := ⟨by decide +kernel, by decide +kernel, by decide +kernel⟩
theorem yc_X12_value : g_ycl yX12_value 0 := ⟨by decide +kernel, by decide +kernel, by decide +kernel⟩
theorem yc_X12_valueOf : g_ycl yX12_valueOf 2 := ⟨by decide +kernel, by decide +kernel, by decide +kernel⟩
theorem yc_X12_wordHere : g_ycl yX12_wordHere 0 := ⟨by decide +kernel, by decide +kernel, by decide +kernel⟩
theorem yc_X12_words : g_ycl yX12_words 2 := ⟨by decide +kernel, by decide +kernel, by decide +kernel⟩
theorem yc_X1_init : g_ycl yX1_init 0 := ⟨by decide +kernel, by decide +kernel, by decide +kernel⟩
theorem yc_X1_plainLoss : g_ycl yX1_plainLoss 4 := ⟨by decide +kernel, by decide +kernel, by decide +kernel⟩
theorem yc_X2_bitOf : g_ycl yX2_bitOf 1 := ⟨by decide +kernel, by decide +kernel, by decide +kernel⟩
theorem yc_X2_init : g_ycl yX2_init 1 := ⟨by decide +kernel, by decide +kernel, by decide +kernel⟩
theorem yc_X2_isClause : g_ycl yX2_isClause 1 := ⟨by decide +kernel, by decide +kernel, by decide +kernel⟩
theorem yc_X2_isFull : g_ycl yX2_isFull 1 := ⟨by decide +kernel, by decide +kernel, by decide +kernel⟩
theorem yc_X2_read : g_ycl yX2_read 0 := ⟨by decide +kernel, by decide +kernel, by decide +kernel⟩
theorem yc_X2_readClause : g_ycl yX2_readClause 1 := ⟨by decide +kernel, by decide +kernel, by decide +kernel⟩
theorem yc_X2_readCousins : g_ycl yX2_readCousins 0 := ⟨by decide +kernel, by decide +kernel, by decide +kernel⟩
theorem yc_X2_readHeir : g_ycl yX2_readHeir 0 := ⟨by decide +kernel, by decide +kernel, by decide +kernel⟩
theorem yc_X2_readKnows : g_ycl yX2_readKnows 0 := ⟨by decide +kernel, by decide +kernel, by decide +kernel⟩
theorem yc_X2_readNumbers : g_ycl yX2_readNumbers 1 := ⟨by decide +kernel, by decide +kernel, by decide +kernel⟩
theorem yc_X2_readThing : g_ycl yX2_readThing 0 := ⟨by decide +kernel, by decide +kernel, by decide +kernel⟩
theorem yc_X3_init : g_ycl yX3_init 0 := ⟨by decide +kernel, by decide +kernel, by decide +kernel⟩
theorem yc_X4_clear : g_ycl yX4_clear 0 := ⟨by decide +kernel, by decide +kernel, by decide +kernel⟩
theorem yc_X4_giveBack : g_ycl yX4_giveBack 1 := ⟨by decide +kernel, by decide +kernel, by decide +kernel⟩
theorem yc_X4_init : g_ycl yX4_init 0 := ⟨by decide +kernel, by decide +kernel, by decide +kernel⟩
theorem yc_X4_keep : g_ycl yX4_keep 1 := ⟨by decide +kernel, by decide +kernel, by decide +kernel⟩
theorem yc_X5_init : g_ycl yX5_init 0 := ⟨by decide +kernel, by decide +kernel, by decide +kernel⟩
theorem yc_X5_joined : g_ycl yX5_joined 3 := ⟨by decide +kernel, by decide +kernel, by decide +kernel⟩
theorem yc_X5_look : g_ycl yX5_look 4 := ⟨by decide +kernel, by decide +kernel, by decide +kernel⟩
theorem yc_X5_loss : g_ycl yX5_loss 1 := ⟨by decide +kernel, by decide +kernel, by decide +kernel⟩
theorem yc_X5_pop : g_ycl yX5_pop 0 := ⟨by decide +kernel, by decide +kernel, by decide +kernel⟩
theorem yc_X5_push : g_ycl yX5_push 1 := ⟨by decide +kernel, by decide +kernel, by decide +kernel⟩
theorem yc_X5_run : g_ycl yX5_run 3 := ⟨by decide +kernel, by decide +kernel, by decide +kernel⟩
theorem yc_X6_init : g_ycl yX6_init 2 := ⟨by decide +kernel, by decide +kernel, by decide +kernel⟩
theorem yc_X7_comparingOf : g_ycl yX7_comparingOf 1 := ⟨by decide +kernel, by decide +kernel, by decide +kernel⟩
theorem yc_X7_countValue : g_ycl yX7_countValue 1 := ⟨by decide +kernel, by decide +kernel, by decide +kernel⟩
theorem yc_X7_init : g_ycl yX7_init 1 := ⟨by decide +kernel, by decide +kernel, by decide +kernel⟩
theorem yc_X7_joinerOf : g_ycl yX7_joinerOf 2 := ⟨by decide +kernel, by decide +kernel, by decide +kernel⟩
theorem yc_X7_mark : g_ycl yX7_mark 0 := ⟨by decide +kernel, by decide +kernel, by decide +kernel⟩
theorem yc_X7_put : g_ycl yX7_put 1 := ⟨by decide +kernel, by decide +kernel, by decide +kernel⟩
theorem yc_X7_read : g_ycl yX7_read 0 := ⟨by decide +kernel, by decide +kernel, by decide +kernel⟩
theorem yc_X7_readClause : g_ycl yX7_readClause 1 := ⟨by decide +kernel, by decide +kernel, by decide +kernel⟩
theorem yc_X7_readComparing : g_ycl yX7_readComparing 0 := ⟨by decide +kernel, by decide +kernel, by decide +kernel⟩
theorem yc_X7_readFact : g_ycl yX7_readFact 1 := ⟨by decide +kernel, by decide +kernel, by decide +kernel⟩
theorem yc_X7_readJoined : g_ycl yX7_readJoined 2 := ⟨by decide +kernel, by decide +kernel, by decide +kernel⟩
theorem yc_X7_readValue : g_ycl yX7_readValue 0 := ⟨by decide +kernel, by decide +kernel, by decide +kernel⟩
theorem yc_X8_clear : g_ycl yX8_clear 0 := ⟨by decide +kernel, by decide +kernel, by decide +kernel⟩
theorem yc_X8_copy : g_ycl yX8_copy 1 := ⟨by decide +kernel, by decide +kernel, by decide +kernel⟩
theorem yc_X8_errs : g_ycl yX8_errs 3 := ⟨by decide +kernel, by decide +kernel, by decide +kernel⟩
theorem yc_X8_forget : g_ycl yX8_forget 2 := ⟨by decide +kernel, by decide +kernel, by decide +kernel⟩
theorem yc_X8_heldAs : g_ycl yX8_heldAs 2 := ⟨by decide +kernel, by decide +kernel, by decide +kernel⟩
theorem yc_X8_heldBy : g_ycl yX8_heldBy 2 := ⟨by decide +kernel, by decide +kernel, by decide +kernel⟩
theorem yc_X8_heldTogether : g_ycl yX8_heldTogether 1 := ⟨by decide +kernel, by decide +kernel, by decide +kernel⟩
theorem yc_X8_holdersOf : g_ycl yX8_holdersOf 2 := ⟨by decide +kernel, by decide +kernel, by decide +kernel⟩
theorem yc_X8_holdsMost : g_ycl yX8_holdsMost 1 := ⟨by decide +kernel, by decide +kernel, by decide +kernel⟩
theorem yc_X8_init : g_ycl yX8_init 0 := ⟨by decide +kernel, by decide +kernel, by decide +kernel⟩
theorem yc_X8_isAnyHeld : g_ycl yX8_isAnyHeld 1 := ⟨by decide +kernel, by decide +kernel, by decide +kernel⟩
theorem yc_X8_isAsked : g_ycl yX8_isAsked 3 := ⟨by decide +kernel, by decide +kernel, by decide +kernel⟩
theorem yc_X8_knowersAs : g_ycl yX8_knowersAs 3 := ⟨by decide +kernel, by decide +kernel, by decide +kernel⟩
theorem yc_X8_knownBy : g_ycl yX8_knownBy 2 := ⟨by decide +kernel, by decide +kernel, by decide +kernel⟩
theorem yc_X8_knownUnlike : g_ycl yX8_knownUnlike 3 := ⟨by decide +kernel, by decide +kernel, by decide +kernel⟩
theorem yc_X8_lasts : g_ycl yX8_lasts 1 := ⟨by decide +kernel, by decide +kernel, by decide +kernel⟩
theorem yc_X8_learn : g_ycl yX8_learn 4 := ⟨by decide +kernel, by decide +kernel, by decide +kernel⟩
theorem yc_X8_standing : g_ycl yX8_standing 1 := ⟨by decide +kernel, by decide +kernel, by decide +kernel⟩
theorem yc_X8_strengthAs : g_ycl yX8_strengthAs 3 := ⟨by decide +kernel, by decide +kernel, by decide +kernel⟩
theorem yc_X8_takes : g_ycl yX8_takes 4 := ⟨by decide +kernel, by decide +kernel, by decide +kernel⟩
theorem yc_X9_add : g_ycl yX9_add 3 := ⟨by decide +kernel, by decide +kernel, by decide +kernel⟩
theorem yc_X9_append : g_ycl yX9_append 1 := ⟨by decide +kernel, by decide +kernel, by decide +kernel⟩
theorem yc_X9_blame : g_ycl yX9_blame 2 := ⟨by decide +kernel, by decide +kernel, by decide +kernel⟩
theorem yc_X9_byteAt : g_ycl yX9_byteAt 1 := ⟨by decide +kernel, by decide +kernel, by decide +kernel⟩
theorem yc_X9_endOfRun : g_ycl yX9_endOfRun 1 := ⟨by decide +kernel, by decide +kernel, by decide +kernel⟩
theorem yc_X9_expect : g_ycl yX9_expect 1 := ⟨by decide +kernel, by decide +kernel, by decide +kernel⟩
theorem yc_X9_goesOn : g_ycl yX9_goesOn 0 := ⟨by decide +kernel, by decide +kernel, by decide +kernel⟩
theorem yc_X9_init : g_ycl yX9_init 0 := ⟨by decide +kernel, by decide +kernel, by decide +kernel⟩
theorem yc_X9_isDigit : g_ycl yX9_isDigit 1 := ⟨by decide +kernel, by decide +kernel, by decide +kernel⟩
theorem yc_X9_isFaulty : g_ycl yX9_isFaulty 0 := ⟨by decide +kernel, by decide +kernel, by decide +kernel⟩
theorem yc_X9_isLetter : g_ycl yX9_isLetter 1 := ⟨by decide +kernel, by decide +kernel, by decide +kernel⟩
theorem yc_X9_kind : g_ycl yX9_kind 0 := ⟨by decide +kernel, by decide +kernel, by decide +kernel⟩
theorem yc_X9_next : g_ycl yX9_next 0 := ⟨by decide +kernel, by decide +kernel, by decide +kernel⟩
theorem yc_X9_number : g_ycl yX9_number 2 := ⟨by decide +kernel, by decide +kernel, by decide +kernel⟩
theorem yc_X9_place : g_ycl yX9_place 0 := ⟨by decide +kernel, by decide +kernel, by decide +kernel⟩
theorem yc_X9_split : g_ycl yX9_split 0 := ⟨by decide +kernel, by decide +kernel, by decide +kernel⟩
theorem yc_X9_valueOf : g_ycl yX9_valueOf 2 := ⟨by decide +kernel, by decide +kernel, by decide +kernel⟩
theorem yc_X9_wordKind : g_ycl yX9_wordKind 2 := ⟨by decide +kernel, by decide +kernel, by decide +kernel⟩
theorem pn__java_lang_Integer_ : plainName "java/lang/Integer" = true := by decide +kernel
theorem pn__java_util_Arrays_ : plainName "java/util/Arrays" = true := by decide +kernel
theorem pn_RX0 : plainName RX0 = true := by decide +kernel
theorem pn_RX1 : plainName RX1 = true := by decide +kernel
theorem pn_RX10 : plainName RX10 = true := by decide +kernel
theorem pn_RX11 : plainName RX11 = true := by decide +kernel
theorem pn_RX12 : plainName RX12 = true := by decide +kernel
theorem pn_RX2 : plainName RX2 = true := by decide +kernel
theorem pn_RX3 : plainName RX3 = true := by decide +kernel
theorem pn_RX4 : plainName RX4 = true := by decide +kernel
theorem pn_RX5 : plainName RX5 = true := by decide +kernel
theorem pn_RX6 : plainName RX6 = true := by decide +kernel
theorem pn_RX7 : plainName RX7 = true := by decide +kernel
theorem pn_RX8 : plainName RX8 = true := by decide +kernel
theorem pn_RX9 : plainName RX9 = true := by decide +kernel
