theorem m_0 : Cond.selects RX9 yX9_byteAt yX9_byteAt ∈ g_tb := g_in 0 (by decide +kernel) rfl
theorem m_1 : Cond.selects RX9 yX9_endOfRun yX9_endOfRun ∈ g_tb := g_in 1 (by decide +kernel) rfl
theorem m_2 : Cond.selects RX9 yX9_wordKind yX9_wordKind ∈ g_tb := g_in 2 (by decide +kernel) rfl
theorem m_3 : Cond.selects RX9 yX9_add yX9_add ∈ g_tb := g_in 3 (by decide +kernel) rfl
theorem m_4 : Cond.selects RX9 yX9_valueOf yX9_valueOf ∈ g_tb := g_in 4 (by decide +kernel) rfl
theorem m_5 : Cond.selects RX2 yX2_readClause yX2_readClause ∈ g_tb := g_in 5 (by decide +kernel) rfl
theorem m_6 : Cond.selects RX2 yX2_isFull yX2_isFull ∈ g_tb := g_in 6 (by decide +kernel) rfl
theorem m_7 : Cond.selects RX2 yX2_readNumbers yX2_readNumbers ∈ g_tb := g_in 7 (by decide +kernel) rfl
theorem m_8 : Cond.selects RX2 yX2_readThing yX2_readThing ∈ g_tb := g_in 8 (by decide +kernel) rfl
theorem m_9 : Cond.selects RX2 yX2_readHeir yX2_readHeir ∈ g_tb := g_in 9 (by decide +kernel) rfl
theorem m_10 : Cond.selects RX2 yX2_readCousins yX2_readCousins ∈ g_tb := g_in 10 (by decide +kernel) rfl
theorem m_11 : Cond.selects RX2 yX2_readKnows yX2_readKnows ∈ g_tb := g_in 11 (by decide +kernel) rfl
theorem m_12 : Cond.selects RX7 yX7_readClause yX7_readClause ∈ g_tb := g_in 12 (by decide +kernel) rfl
theorem m_13 : Cond.selects RX7 yX7_mark yX7_mark ∈ g_tb := g_in 13 (by decide +kernel) rfl
theorem m_14 : Cond.selects RX7 yX7_readJoined yX7_readJoined ∈ g_tb := g_in 14 (by decide +kernel) rfl
theorem m_15 : Cond.selects RX7 yX7_readValue yX7_readValue ∈ g_tb := g_in 15 (by decide +kernel) rfl
theorem m_16 : Cond.selects RX7 yX7_put yX7_put ∈ g_tb := g_in 16 (by decide +kernel) rfl
theorem m_17 : Cond.selects RX7 yX7_countValue yX7_countValue ∈ g_tb := g_in 17 (by decide +kernel) rfl
theorem m_18 : Cond.selects RX7 yX7_readFact yX7_readFact ∈ g_tb := g_in 18 (by decide +kernel) rfl
theorem m_19 : Cond.selects RX7 yX7_readComparing yX7_readComparing ∈ g_tb := g_in 19 (by decide +kernel) rfl
theorem m_20 : Cond.selects RX11 yX11_isHeir yX11_isHeir ∈ g_tb := g_in 20 (by decide +kernel) rfl
theorem m_21 : Cond.selects RX8 yX8_heldAs yX8_heldAs ∈ g_tb := g_in 21 (by decide +kernel) rfl
theorem m_22 : Cond.selects RX11 yX11_isThing yX11_isThing ∈ g_tb := g_in 22 (by decide +kernel) rfl
theorem m_23 : Cond.selects RX11 yX11_ruleInForce yX11_ruleInForce ∈ g_tb := g_in 23 (by decide +kernel) rfl
theorem m_24 : Cond.selects RX10 yX10_weigh yX10_weigh ∈ g_tb := g_in 24 (by decide +kernel) rfl
theorem m_25 : Cond.selects RX5 yX5_run yX5_run ∈ g_tb := g_in 25 (by decide +kernel) rfl
theorem m_26 : Cond.selects RX5 yX5_push yX5_push ∈ g_tb := g_in 26 (by decide +kernel) rfl
theorem m_27 : Cond.selects RX5 yX5_pop yX5_pop ∈ g_tb := g_in 27 (by decide +kernel) rfl
theorem m_28 : Cond.selects RX10 yX10_fadeAll yX10_fadeAll ∈ g_tb := g_in 28 (by decide +kernel) rfl
theorem m_29 : Cond.selects RX10 yX10_strikeForgotten yX10_strikeForgotten ∈ g_tb := g_in 29 (by decide +kernel) rfl
theorem m_30 : Cond.selects RX11 yX11_isKnown yX11_isKnown ∈ g_tb := g_in 30 (by decide +kernel) rfl
theorem m_31 : Cond.selects RX11 yX11_spread yX11_spread ∈ g_tb := g_in 31 (by decide +kernel) rfl
theorem m_32 : Cond.selects RX11 yX11_lookAhead yX11_lookAhead ∈ g_tb := g_in 32 (by decide +kernel) rfl
theorem m_33 : Cond.selects RX11 yX11_strikeLater yX11_strikeLater ∈ g_tb := g_in 33 (by decide +kernel) rfl
theorem m_34 : Cond.selects RX11 yX11_heldBehindAsk yX11_heldBehindAsk ∈ g_tb := g_in 34 (by decide +kernel) rfl
theorem m_35 : Cond.selects RX11 yX11_fillUnlike yX11_fillUnlike ∈ g_tb := g_in 35 (by decide +kernel) rfl
theorem m_36 : Cond.selects RX11 yX11_partsAll yX11_partsAll ∈ g_tb := g_in 36 (by decide +kernel) rfl
theorem m_37 : Cond.selects RX11 yX11_sharers yX11_sharers ∈ g_tb := g_in 37 (by decide +kernel) rfl
theorem m_38 : Cond.selects RX11 yX11_drinkLater yX11_drinkLater ∈ g_tb := g_in 38 (by decide +kernel) rfl
theorem m_39 : Cond.selects RX11 yX11_draw yX11_draw ∈ g_tb := g_in 39 (by decide +kernel) rfl
theorem m_40 : Cond.selects RX12 yX12_four yX12_four ∈ g_tb := g_in 40 (by decide +kernel) rfl
theorem m_41 : Cond.selects RX12 yX12_readsAll yX12_readsAll ∈ g_tb := g_in 41 (by decide +kernel) rfl
theorem m_42 : Cond.selects RX12 yX12_clauseHere yX12_clauseHere ∈ g_tb := g_in 42 (by decide +kernel) rfl
theorem m_43 : Cond.selects RX12 yX12_see yX12_see ∈ g_tb := g_in 43 (by decide +kernel) rfl
theorem m_44 : Cond.selects RX12 yX12_isHouseWord yX12_isHouseWord ∈ g_tb := g_in 44 (by decide +kernel) rfl
theorem m_45 : Cond.selects RX12 yX12_isWord yX12_isWord ∈ g_tb := g_in 45 (by decide +kernel) rfl
theorem m_46 : Cond.selects RX12 yX12_isLetter yX12_isLetter ∈ g_tb := g_in 46 (by decide +kernel) rfl
theorem m_47 : Cond.selects RX12 yX12_fails yX12_fails ∈ g_tb := g_in 47 (by decide +kernel) rfl
theorem m_48 : Cond.selects RX12 yX12_houseLineHere yX12_houseLineHere ∈ g_tb := g_in 48 (by decide +kernel) rfl
theorem m_49 : Cond.selects RX12 yX12_isHouseHere yX12_isHouseHere ∈ g_tb := g_in 49 (by decide +kernel) rfl
theorem m_50 : Cond.selects RX12 yX12_passWord yX12_passWord ∈ g_tb := g_in 50 (by decide +kernel) rfl
theorem m_51 : Cond.selects RX12 yX12_cellHere yX12_cellHere ∈ g_tb := g_in 51 (by decide +kernel) rfl
theorem m_52 : Cond.selects RX12 yX12_numberHere yX12_numberHere ∈ g_tb := g_in 52 (by decide +kernel) rfl
theorem m_53 : Cond.selects RX12 yX12_isDigit yX12_isDigit ∈ g_tb := g_in 53 (by decide +kernel) rfl
theorem m_54 : Cond.selects RX12 yX12_isThingHere yX12_isThingHere ∈ g_tb := g_in 54 (by decide +kernel) rfl
theorem m_55 : Cond.selects RX12 yX12_isHeirHere yX12_isHeirHere ∈ g_tb := g_in 55 (by decide +kernel) rfl
theorem m_56 : Cond.selects RX12 yX12_isSongHere yX12_isSongHere ∈ g_tb := g_in 56 (by decide +kernel) rfl
theorem m_57 : Cond.selects RX12 yX12_isHateHere yX12_isHateHere ∈ g_tb := g_in 57 (by decide +kernel) rfl
theorem m_58 : Cond.selects RX12 yX12_areCousinsHere yX12_areCousinsHere ∈ g_tb := g_in 58 (by decide +kernel) rfl
theorem m_59 : Cond.selects RX12 yX12_isKnownHere yX12_isKnownHere ∈ g_tb := g_in 59 (by decide +kernel) rfl
theorem m_60 : Cond.selects RX12 yX12_isFadeHere yX12_isFadeHere ∈ g_tb := g_in 60 (by decide +kernel) rfl
theorem m_61 : Cond.selects RX12 yX12_sum yX12_sum ∈ g_tb := g_in 61 (by decide +kernel) rfl
theorem m_62 : Cond.selects RX12 yX12_term yX12_term ∈ g_tb := g_in 62 (by decide +kernel) rfl
theorem m_63 : Cond.selects RX12 yX12_value yX12_value ∈ g_tb := g_in 63 (by decide +kernel) rfl
theorem m_64 : Cond.selects RX12 yX12_makes yX12_makes ∈ g_tb := g_in 64 (by decide +kernel) rfl
theorem m_65 : Cond.selects RX12 yX12_puts yX12_puts ∈ g_tb := g_in 65 (by decide +kernel) rfl
theorem m_66 : Cond.selects RX12 yX12_wordHere yX12_wordHere ∈ g_tb := g_in 66 (by decide +kernel) rfl
theorem m_67 : Cond.selects RX12 yX12_takesWord yX12_takesWord ∈ g_tb := g_in 67 (by decide +kernel) rfl
theorem m_68 : Cond.selects RX12 yX12_tested yX12_tested ∈ g_tb := g_in 68 (by decide +kernel) rfl
theorem m_69 : Cond.selects RX12 yX12_fact yX12_fact ∈ g_tb := g_in 69 (by decide +kernel) rfl
theorem m_70 : Cond.selects RX12 yX12_opens yX12_opens ∈ g_tb := g_in 70 (by decide +kernel) rfl
theorem m_71 : Cond.selects RX12 yX12_compare yX12_compare ∈ g_tb := g_in 71 (by decide +kernel) rfl
theorem m_72 : Cond.selects RX12 yX12_closes yX12_closes ∈ g_tb := g_in 72 (by decide +kernel) rfl
theorem m_73 : Cond.selects RX12 yX12_settles yX12_settles ∈ g_tb := g_in 73 (by decide +kernel) rfl
theorem m_74 : Cond.selects RX12 yX12_isInside yX12_isInside ∈ g_tb := g_in 74 (by decide +kernel) rfl
theorem m_75 : Cond.selects RX12 yX12_isRule yX12_isRule ∈ g_tb := g_in 75 (by decide +kernel) rfl
theorem m_76 : Cond.selects RX12 yX12_isHeir yX12_isHeir ∈ g_tb := g_in 76 (by decide +kernel) rfl
theorem m_77 : Cond.selects RX12 yX12_holdsOf yX12_holdsOf ∈ g_tb := g_in 77 (by decide +kernel) rfl
theorem m_78 : Cond.selects RX12 yX12_holds yX12_holds ∈ g_tb := g_in 78 (by decide +kernel) rfl
theorem m_79 : Cond.selects RX12 yX12_thingOf yX12_thingOf ∈ g_tb := g_in 79 (by decide +kernel) rfl
theorem m_80 : Cond.selects RX12 yX12_knowsOf yX12_knowsOf ∈ g_tb := g_in 80 (by decide +kernel) rfl
theorem m_81 : Cond.selects RX12 yX12_valueOf yX12_valueOf ∈ g_tb := g_in 81 (by decide +kernel) rfl
theorem m_82 : Cond.selects RX12 yX12_sameAs yX12_sameAs ∈ g_tb := g_in 82 (by decide +kernel) rfl
theorem m_83 : Cond.selects RX12 yX12_isThing yX12_isThing ∈ g_tb := g_in 83 (by decide +kernel) rfl
theorem m_84 : Cond.selects RX12 yX12_holdersOf yX12_holdersOf ∈ g_tb := g_in 84 (by decide +kernel) rfl
theorem m_85 : Cond.selects RX12 yX12_isHouse yX12_isHouse ∈ g_tb := g_in 85 (by decide +kernel) rfl
theorem m_86 : Cond.selects RX12 yX12_keepsAct yX12_keepsAct ∈ g_tb := g_in 86 (by decide +kernel) rfl
theorem m_87 : Cond.selects RX12 yX12_passes yX12_passes ∈ g_tb := g_in 87 (by decide +kernel) rfl
theorem m_88 : Cond.selects RX12 yX12_lossOf yX12_lossOf ∈ g_tb := g_in 88 (by decide +kernel) rfl
theorem m_89 : Cond.selects RX12 yX12_fades yX12_fades ∈ g_tb := g_in 89 (by decide +kernel) rfl
theorem m_90 : Cond.selects RX12 yX12_words yX12_words ∈ g_tb := g_in 90 (by decide +kernel) rfl
theorem m_91 : Cond.selects RX12 yX12_strengthOf yX12_strengthOf ∈ g_tb := g_in 91 (by decide +kernel) rfl
theorem m_92 : Cond.selects RX12 yX12_summedBy yX12_summedBy ∈ g_tb := g_in 92 (by decide +kernel) rfl
theorem m_93 : Cond.selects RX12 yX12_reckons yX12_reckons ∈ g_tb := g_in 93 (by decide +kernel) rfl
theorem m_94 : Cond.selects RX12 yX12_push yX12_push ∈ g_tb := g_in 94 (by decide +kernel) rfl
theorem m_95 : Cond.selects RX12 yX12_pop yX12_pop ∈ g_tb := g_in 95 (by decide +kernel) rfl
theorem m_96 : Cond.selects RX12 yX12_knowsNow yX12_knowsNow ∈ g_tb := g_in 96 (by decide +kernel) rfl
theorem m_97 : Cond.selects RX12 yX12_takes yX12_takes ∈ g_tb := g_in 97 (by decide +kernel) rfl
theorem m_98 : Cond.selects RX12 yX12_goesOn yX12_goesOn ∈ g_tb := g_in 98 (by decide +kernel) rfl
theorem m_99 : Cond.selects RX12 yX12_asks yX12_asks ∈ g_tb := g_in 99 (by decide +kernel) rfl
theorem m_100 : Cond.selects RX12 yX12_keeps yX12_keeps ∈ g_tb := g_in 100 (by decide +kernel) rfl
theorem m_101 : Cond.selects RX12 yX12_laysBack yX12_laysBack ∈ g_tb := g_in 101 (by decide +kernel) rfl
theorem m_102 : Cond.selects RX12 yX12_strikeOf yX12_strikeOf ∈ g_tb := g_in 102 (by decide +kernel) rfl
theorem m_103 : Cond.selects RX12 yX12_most yX12_most ∈ g_tb := g_in 103 (by decide +kernel) rfl
theorem m_104 : Cond.selects RX12 yX12_allHolds yX12_allHolds ∈ g_tb := g_in 104 (by decide +kernel) rfl
theorem m_105 : Cond.selects RX12 yX12_areParted yX12_areParted ∈ g_tb := g_in 105 (by decide +kernel) rfl
theorem m_106 : Cond.selects RX12 yX12_gathersWays yX12_gathersWays ∈ g_tb := g_in 106 (by decide +kernel) rfl
theorem m_107 : Cond.selects RX12 yX12_countsWay yX12_countsWay ∈ g_tb := g_in 107 (by decide +kernel) rfl
theorem m_108 : Cond.selects RX12 yX12_isWrong yX12_isWrong ∈ g_tb := g_in 108 (by decide +kernel) rfl
theorem m_109 : Cond.selects RX12 yX12_canHave yX12_canHave ∈ g_tb := g_in 109 (by decide +kernel) rfl
theorem m_110 : Cond.selects RX12 yX12_isRound yX12_isRound ∈ g_tb := g_in 110 (by decide +kernel) rfl
theorem m_111 : Cond.selects RX12 yX12_promptsYear yX12_promptsYear ∈ g_tb := g_in 111 (by decide +kernel) rfl
theorem m_112 : Cond.selects RX12 yX12_drinks yX12_drinks ∈ g_tb := g_in 112 (by decide +kernel) rfl
theorem m_113 : Cond.selects RX12 yX12_draw yX12_draw ∈ g_tb := g_in 113 (by decide +kernel) rfl
theorem m_114 : Cond.selects RX12 yX12_standing yX12_standing ∈ g_tb := g_in 114 (by decide +kernel) rfl
theorem m_116 : Cond.initialized RX11 ∈ g_tb := g_in 116 (by decide +kernel) rfl
theorem m_117 : Cond.initialized RX10 ∈ g_tb := g_in 117 (by decide +kernel) rfl
theorem m_118 : Cond.initialized RX5 ∈ g_tb := g_in 118 (by decide +kernel) rfl
theorem m_119 : Cond.initialized RX8 ∈ g_tb := g_in 119 (by decide +kernel) rfl
theorem m_120 : Cond.initialized RX4 ∈ g_tb := g_in 120 (by decide +kernel) rfl
theorem m_121 : Cond.initialized RX0 ∈ g_tb := g_in 121 (by decide +kernel) rfl
theorem m_122 : Cond.initialized RX1 ∈ g_tb := g_in 122 (by decide +kernel) rfl
theorem m_123 : Cond.initialized RX9 ∈ g_tb := g_in 123 (by decide +kernel) rfl
theorem m_124 : Cond.initialized RX2 ∈ g_tb := g_in 124 (by decide +kernel) rfl
theorem m_125 : Cond.initialized RX7 ∈ g_tb := g_in 125 (by decide +kernel) rfl
theorem m_126 : Cond.initialized RX3 ∈ g_tb := g_in 126 (by decide +kernel) rfl
theorem m_127 : Cond.initialized RX12 ∈ g_tb := g_in 127 (by decide +kernel) rfl
theorem m_133 : Cond.initialized RX6 ∈ g_tb := g_in 133 (by decide +kernel) rfl
theorem m_134 : Cond.initialized "java/util/Arrays" ∈ g_tb := g_in 134 (by decide +kernel) rfl
theorem m_136 : Cond.initialized "java/lang/Integer" ∈ g_tb := g_in 136 (by decide +kernel) rfl
theorem m_142 : Cond.methodLink RX11 3 Lib.objectInit ∈ g_tb := g_in 142 (by decide +kernel) rfl
theorem m_145 : Cond.classLink RX11 9 RX6 ∈ g_tb := g_in 145 (by decide +kernel) rfl
theorem m_147 : Cond.classLink RX11 15 RX10 ∈ g_tb := g_in 147 (by decide +kernel) rfl
theorem m_148 : Cond.instantiable RX10 2 ∈ g_tb := g_in 148 (by decide +kernel) rfl
theorem m_150 : Cond.instanceMethod yX10_init ∈ g_tb := g_in 150 (by decide +kernel) rfl
theorem m_151 : Cond.code yX10_init cX10_init 1 none ∈ g_tb := g_in 151 (by decide +kernel) rfl
theorem m_152 : Cond.methodLink RX10 3 Lib.objectInit ∈ g_tb := g_in 152 (by decide +kernel) rfl
theorem m_153 : Cond.classLink RX10 15 RX5 ∈ g_tb := g_in 153 (by decide +kernel) rfl
theorem m_154 : Cond.instantiable RX5 3 ∈ g_tb := g_in 154 (by decide +kernel) rfl
theorem m_156 : Cond.instanceMethod yX5_init ∈ g_tb := g_in 156 (by decide +kernel) rfl
theorem m_157 : Cond.code yX5_init cX5_init 1 none ∈ g_tb := g_in 157 (by decide +kernel) rfl
theorem m_158 : Cond.methodLink RX5 3 Lib.objectInit ∈ g_tb := g_in 158 (by decide +kernel) rfl
theorem m_178 : Cond.classLink RX11 22 RX8 ∈ g_tb := g_in 178 (by decide +kernel) rfl
theorem m_179 : Cond.instantiable RX8 7 ∈ g_tb := g_in 179 (by decide +kernel) rfl
theorem m_181 : Cond.instanceMethod yX8_init ∈ g_tb := g_in 181 (by decide +kernel) rfl
theorem m_182 : Cond.code yX8_init cX8_init 1 none ∈ g_tb := g_in 182 (by decide +kernel) rfl
theorem m_183 : Cond.methodLink RX8 3 Lib.objectInit ∈ g_tb := g_in 183 (by decide +kernel) rfl
theorem m_225 : Cond.classLink RX11 32 RX4 ∈ g_tb := g_in 225 (by decide +kernel) rfl
theorem m_226 : Cond.instantiable RX4 3 ∈ g_tb := g_in 226 (by decide +kernel) rfl
theorem m_227 : Cond.methodLink RX11 34 yX4_init ∈ g_tb := g_in 227 (by decide +kernel) rfl
theorem m_228 : Cond.instanceMethod yX4_init ∈ g_tb := g_in 228 (by decide +kernel) rfl
theorem m_229 : Cond.code yX4_init cX4_init 2 none ∈ g_tb := g_in 229 (by decide +kernel) rfl
theorem m_230 : Cond.methodLink RX4 1 Lib.objectInit ∈ g_tb := g_in 230 (by decide +kernel) rfl
theorem m_231 : Cond.classLink RX4 9 RX8 ∈ g_tb := g_in 231 (by decide +kernel) rfl
theorem m_245 : Cond.classLink RX11 39 RX3 ∈ g_tb := g_in 245 (by decide +kernel) rfl
theorem m_247 : Cond.classLink RX11 49 RX0 ∈ g_tb := g_in 247 (by decide +kernel) rfl
theorem m_248 : Cond.instantiable RX0 2 ∈ g_tb := g_in 248 (by decide +kernel) rfl
theorem m_250 : Cond.instanceMethod yX0_init ∈ g_tb := g_in 250 (by decide +kernel) rfl
theorem m_251 : Cond.code yX0_init cX0_init 1 none ∈ g_tb := g_in 251 (by decide +kernel) rfl
theorem m_252 : Cond.methodLink RX0 3 Lib.objectInit ∈ g_tb := g_in 252 (by decide +kernel) rfl
theorem m_260 : Cond.classLink RX11 56 RX1 ∈ g_tb := g_in 260 (by decide +kernel) rfl
theorem m_261 : Cond.instantiable RX1 11 ∈ g_tb := g_in 261 (by decide +kernel) rfl
theorem m_263 : Cond.instanceMethod yX1_init ∈ g_tb := g_in 263 (by decide +kernel) rfl
theorem m_264 : Cond.code yX1_init cX1_init 1 none ∈ g_tb := g_in 264 (by decide +kernel) rfl
theorem m_265 : Cond.methodLink RX1 3 Lib.objectInit ∈ g_tb := g_in 265 (by decide +kernel) rfl
theorem m_332 : Cond.classLink RX11 73 RX9 ∈ g_tb := g_in 332 (by decide +kernel) rfl
theorem m_333 : Cond.instantiable RX9 8 ∈ g_tb := g_in 333 (by decide +kernel) rfl
theorem m_335 : Cond.instanceMethod yX9_init ∈ g_tb := g_in 335 (by decide +kernel) rfl
theorem m_336 : Cond.code yX9_init cX9_init 1 none ∈ g_tb := g_in 336 (by decide +kernel) rfl
theorem m_337 : Cond.methodLink RX9 5 Lib.objectInit ∈ g_tb := g_in 337 (by decide +kernel) rfl
theorem m_366 : Cond.classLink RX11 80 RX2 ∈ g_tb := g_in 366 (by decide +kernel) rfl
theorem m_367 : Cond.instantiable RX2 3 ∈ g_tb := g_in 367 (by decide +kernel) rfl
theorem m_368 : Cond.methodLink RX11 82 yX2_init ∈ g_tb := g_in 368 (by decide +kernel) rfl
theorem m_369 : Cond.instanceMethod yX2_init ∈ g_tb := g_in 369 (by decide +kernel) rfl
theorem m_370 : Cond.code yX2_init cX2_init 2 none ∈ g_tb := g_in 370 (by decide +kernel) rfl
theorem m_371 : Cond.methodLink RX2 3 Lib.objectInit ∈ g_tb := g_in 371 (by decide +kernel) rfl
theorem m_372 : Cond.classLink RX2 9 RX1 ∈ g_tb := g_in 372 (by decide +kernel) rfl
theorem m_374 : Cond.classLink RX2 18 RX8 ∈ g_tb := g_in 374 (by decide +kernel) rfl
theorem m_387 : Cond.classLink RX11 89 RX7 ∈ g_tb := g_in 387 (by decide +kernel) rfl
theorem m_388 : Cond.instantiable RX7 6 ∈ g_tb := g_in 388 (by decide +kernel) rfl
theorem m_389 : Cond.methodLink RX11 91 yX7_init ∈ g_tb := g_in 389 (by decide +kernel) rfl
theorem m_390 : Cond.instanceMethod yX7_init ∈ g_tb := g_in 390 (by decide +kernel) rfl
theorem m_391 : Cond.code yX7_init cX7_init 2 none ∈ g_tb := g_in 391 (by decide +kernel) rfl
theorem m_392 : Cond.methodLink RX7 3 Lib.objectInit ∈ g_tb := g_in 392 (by decide +kernel) rfl
theorem m_412 : Cond.instantiable RX3 4 ∈ g_tb := g_in 412 (by decide +kernel) rfl
theorem m_414 : Cond.instanceMethod yX3_init ∈ g_tb := g_in 414 (by decide +kernel) rfl
theorem m_415 : Cond.code yX3_init cX3_init 1 none ∈ g_tb := g_in 415 (by decide +kernel) rfl
theorem m_416 : Cond.methodLink RX3 3 Lib.objectInit ∈ g_tb := g_in 416 (by decide +kernel) rfl
theorem m_417 : Cond.classLink RX3 9 RX8 ∈ g_tb := g_in 417 (by decide +kernel) rfl
theorem m_486 : Cond.methodLink RX11 100 yX9_append ∈ g_tb := g_in 486 (by decide +kernel) rfl
theorem m_487 : Cond.instanceMethod yX9_append ∈ g_tb := g_in 487 (by decide +kernel) rfl
theorem m_488 : Cond.selects RX9 yX9_append yX9_append ∈ g_tb := g_in 488 (by decide +kernel) rfl
theorem m_489 : Cond.code yX9_append cX9_append 3 none ∈ g_tb := g_in 489 (by decide +kernel) rfl
theorem m_498 : Cond.methodLink RX11 104 yX2_read ∈ g_tb := g_in 498 (by decide +kernel) rfl
theorem m_499 : Cond.instanceMethod yX2_read ∈ g_tb := g_in 499 (by decide +kernel) rfl
theorem m_500 : Cond.selects RX2 yX2_read yX2_read ∈ g_tb := g_in 500 (by decide +kernel) rfl
theorem m_501 : Cond.code yX2_read cX2_read 3 (some (.object "ForgetHeirs$House")) ∈ g_tb := g_in 501 (by decide +kernel) rfl
theorem m_502 : Cond.methodLink RX2 29 yX9_split ∈ g_tb := g_in 502 (by decide +kernel) rfl
theorem m_503 : Cond.instanceMethod yX9_split ∈ g_tb := g_in 503 (by decide +kernel) rfl
theorem m_504 : Cond.selects RX9 yX9_split yX9_split ∈ g_tb := g_in 504 (by decide +kernel) rfl
theorem m_505 : Cond.code yX9_split cX9_split 5 none ∈ g_tb := g_in 505 (by decide +kernel) rfl
theorem m_506 : Cond.methodLink RX9 38 yX9_byteAt ∈ g_tb := g_in 506 (by decide +kernel) rfl
theorem m_508 : Cond.instanceMethod yX9_byteAt ∈ g_tb := g_in 508 (by decide +kernel) rfl
theorem m_509 : Cond.code yX9_byteAt cX9_byteAt 2 (some .int) ∈ g_tb := g_in 509 (by decide +kernel) rfl
theorem m_510 : Cond.methodLink RX9 42 yX9_isLetter ∈ g_tb := g_in 510 (by decide +kernel) rfl
theorem m_511 : Cond.static yX9_isLetter ∈ g_tb := g_in 511 (by decide +kernel) rfl
theorem m_512 : Cond.code yX9_isLetter cX9_isLetter 1 (some .boolean) ∈ g_tb := g_in 512 (by decide +kernel) rfl
theorem m_513 : Cond.methodLink RX9 46 yX9_isDigit ∈ g_tb := g_in 513 (by decide +kernel) rfl
theorem m_514 : Cond.static yX9_isDigit ∈ g_tb := g_in 514 (by decide +kernel) rfl
theorem m_515 : Cond.code yX9_isDigit cX9_isDigit 1 (some .boolean) ∈ g_tb := g_in 515 (by decide +kernel) rfl
theorem m_516 : Cond.methodLink RX9 49 yX9_endOfRun ∈ g_tb := g_in 516 (by decide +kernel) rfl
theorem m_518 : Cond.instanceMethod yX9_endOfRun ∈ g_tb := g_in 518 (by decide +kernel) rfl
theorem m_519 : Cond.code yX9_endOfRun cX9_endOfRun 4 (some .int) ∈ g_tb := g_in 519 (by decide +kernel) rfl
theorem m_520 : Cond.methodLink RX9 52 yX9_wordKind ∈ g_tb := g_in 520 (by decide +kernel) rfl
theorem m_522 : Cond.instanceMethod yX9_wordKind ∈ g_tb := g_in 522 (by decide +kernel) rfl
theorem m_523 : Cond.code yX9_wordKind cX9_wordKind 7 (some .int) ∈ g_tb := g_in 523 (by decide +kernel) rfl
theorem m_573 : Cond.methodLink RX9 56 yX9_add ∈ g_tb := g_in 573 (by decide +kernel) rfl
theorem m_575 : Cond.instanceMethod yX9_add ∈ g_tb := g_in 575 (by decide +kernel) rfl
theorem m_576 : Cond.code yX9_add cX9_add 4 none ∈ g_tb := g_in 576 (by decide +kernel) rfl
theorem m_577 : Cond.methodLink RX9 60 yX9_valueOf ∈ g_tb := g_in 577 (by decide +kernel) rfl
theorem m_579 : Cond.instanceMethod yX9_valueOf ∈ g_tb := g_in 579 (by decide +kernel) rfl
theorem m_580 : Cond.code yX9_valueOf cX9_valueOf 5 (some .int) ∈ g_tb := g_in 580 (by decide +kernel) rfl
theorem m_581 : Cond.constant RX9 63 1000000 ∈ g_tb := g_in 581 (by decide +kernel) rfl
theorem m_582 : Cond.methodLink RX2 34 yX8_clear ∈ g_tb := g_in 582 (by decide +kernel) rfl
theorem m_583 : Cond.instanceMethod yX8_clear ∈ g_tb := g_in 583 (by decide +kernel) rfl
theorem m_584 : Cond.selects RX8 yX8_clear yX8_clear ∈ g_tb := g_in 584 (by decide +kernel) rfl
theorem m_585 : Cond.code yX8_clear cX8_clear 2 none ∈ g_tb := g_in 585 (by decide +kernel) rfl
theorem m_586 : Cond.methodLink RX2 37 yX2_readClause ∈ g_tb := g_in 586 (by decide +kernel) rfl
theorem m_588 : Cond.instanceMethod yX2_readClause ∈ g_tb := g_in 588 (by decide +kernel) rfl
theorem m_589 : Cond.code yX2_readClause cX2_readClause 3 none ∈ g_tb := g_in 589 (by decide +kernel) rfl
theorem m_590 : Cond.methodLink RX2 52 yX9_kind ∈ g_tb := g_in 590 (by decide +kernel) rfl
theorem m_591 : Cond.instanceMethod yX9_kind ∈ g_tb := g_in 591 (by decide +kernel) rfl
theorem m_592 : Cond.selects RX9 yX9_kind yX9_kind ∈ g_tb := g_in 592 (by decide +kernel) rfl
theorem m_593 : Cond.code yX9_kind cX9_kind 1 (some .int) ∈ g_tb := g_in 593 (by decide +kernel) rfl
theorem m_594 : Cond.methodLink RX2 56 yX2_isClause ∈ g_tb := g_in 594 (by decide +kernel) rfl
theorem m_595 : Cond.static yX2_isClause ∈ g_tb := g_in 595 (by decide +kernel) rfl
theorem m_596 : Cond.code yX2_isClause cX2_isClause 1 (some .boolean) ∈ g_tb := g_in 596 (by decide +kernel) rfl
theorem m_597 : Cond.methodLink RX2 60 yX9_place ∈ g_tb := g_in 597 (by decide +kernel) rfl
theorem m_598 : Cond.instanceMethod yX9_place ∈ g_tb := g_in 598 (by decide +kernel) rfl
theorem m_599 : Cond.selects RX9 yX9_place yX9_place ∈ g_tb := g_in 599 (by decide +kernel) rfl
theorem m_600 : Cond.code yX9_place cX9_place 1 (some .int) ∈ g_tb := g_in 600 (by decide +kernel) rfl
theorem m_601 : Cond.methodLink RX2 63 yX9_blame ∈ g_tb := g_in 601 (by decide +kernel) rfl
theorem m_602 : Cond.instanceMethod yX9_blame ∈ g_tb := g_in 602 (by decide +kernel) rfl
theorem m_603 : Cond.selects RX9 yX9_blame yX9_blame ∈ g_tb := g_in 603 (by decide +kernel) rfl
theorem m_604 : Cond.code yX9_blame cX9_blame 3 none ∈ g_tb := g_in 604 (by decide +kernel) rfl
theorem m_605 : Cond.methodLink RX2 67 yX2_isFull ∈ g_tb := g_in 605 (by decide +kernel) rfl
theorem m_607 : Cond.instanceMethod yX2_isFull ∈ g_tb := g_in 607 (by decide +kernel) rfl
theorem m_608 : Cond.code yX2_isFull cX2_isFull 2 (some .boolean) ∈ g_tb := g_in 608 (by decide +kernel) rfl
theorem m_609 : Cond.methodLink RX2 70 yX9_next ∈ g_tb := g_in 609 (by decide +kernel) rfl
theorem m_610 : Cond.instanceMethod yX9_next ∈ g_tb := g_in 610 (by decide +kernel) rfl
theorem m_611 : Cond.selects RX9 yX9_next yX9_next ∈ g_tb := g_in 611 (by decide +kernel) rfl
theorem m_612 : Cond.code yX9_next cX9_next 1 none ∈ g_tb := g_in 612 (by decide +kernel) rfl
theorem m_613 : Cond.methodLink RX2 73 yX2_readNumbers ∈ g_tb := g_in 613 (by decide +kernel) rfl
theorem m_615 : Cond.instanceMethod yX2_readNumbers ∈ g_tb := g_in 615 (by decide +kernel) rfl
theorem m_616 : Cond.code yX2_readNumbers cX2_readNumbers 2 none ∈ g_tb := g_in 616 (by decide +kernel) rfl
theorem m_617 : Cond.methodLink RX2 86 yX9_number ∈ g_tb := g_in 617 (by decide +kernel) rfl
theorem m_618 : Cond.instanceMethod yX9_number ∈ g_tb := g_in 618 (by decide +kernel) rfl
theorem m_619 : Cond.selects RX9 yX9_number yX9_number ∈ g_tb := g_in 619 (by decide +kernel) rfl
theorem m_620 : Cond.code yX9_number cX9_number 4 (some .int) ∈ g_tb := g_in 620 (by decide +kernel) rfl
theorem m_621 : Cond.methodLink RX9 76 yX9_isFaulty ∈ g_tb := g_in 621 (by decide +kernel) rfl
theorem m_622 : Cond.instanceMethod yX9_isFaulty ∈ g_tb := g_in 622 (by decide +kernel) rfl
theorem m_623 : Cond.selects RX9 yX9_isFaulty yX9_isFaulty ∈ g_tb := g_in 623 (by decide +kernel) rfl
theorem m_624 : Cond.code yX9_isFaulty cX9_isFaulty 1 (some .boolean) ∈ g_tb := g_in 624 (by decide +kernel) rfl
theorem m_625 : Cond.methodLink RX9 80 yX9_kind ∈ g_tb := g_in 625 (by decide +kernel) rfl
theorem m_626 : Cond.methodLink RX9 83 yX9_place ∈ g_tb := g_in 626 (by decide +kernel) rfl
theorem m_627 : Cond.methodLink RX9 86 yX9_blame ∈ g_tb := g_in 627 (by decide +kernel) rfl
theorem m_628 : Cond.methodLink RX9 90 yX9_next ∈ g_tb := g_in 628 (by decide +kernel) rfl
theorem m_629 : Cond.methodLink RX2 93 yX2_readThing ∈ g_tb := g_in 629 (by decide +kernel) rfl
theorem m_631 : Cond.instanceMethod yX2_readThing ∈ g_tb := g_in 631 (by decide +kernel) rfl
theorem m_632 : Cond.code yX2_readThing cX2_readThing 4 none ∈ g_tb := g_in 632 (by decide +kernel) rfl
theorem m_633 : Cond.methodLink RX2 45 yX9_isFaulty ∈ g_tb := g_in 633 (by decide +kernel) rfl
theorem m_634 : Cond.methodLink RX2 99 yX2_bitOf ∈ g_tb := g_in 634 (by decide +kernel) rfl
theorem m_635 : Cond.static yX2_bitOf ∈ g_tb := g_in 635 (by decide +kernel) rfl
theorem m_636 : Cond.code yX2_bitOf cX2_bitOf 1 (some .int) ∈ g_tb := g_in 636 (by decide +kernel) rfl
theorem m_637 : Cond.methodLink RX2 103 yX2_readHeir ∈ g_tb := g_in 637 (by decide +kernel) rfl
theorem m_639 : Cond.instanceMethod yX2_readHeir ∈ g_tb := g_in 639 (by decide +kernel) rfl
theorem m_640 : Cond.code yX2_readHeir cX2_readHeir 3 none ∈ g_tb := g_in 640 (by decide +kernel) rfl
theorem m_641 : Cond.methodLink RX2 109 yX2_readCousins ∈ g_tb := g_in 641 (by decide +kernel) rfl
theorem m_643 : Cond.instanceMethod yX2_readCousins ∈ g_tb := g_in 643 (by decide +kernel) rfl
theorem m_644 : Cond.code yX2_readCousins cX2_readCousins 4 none ∈ g_tb := g_in 644 (by decide +kernel) rfl
theorem m_646 : Cond.static yX11_bit ∈ g_tb := g_in 646 (by decide +kernel) rfl
theorem m_647 : Cond.code yX11_bit cX11_bit 2 (some .int) ∈ g_tb := g_in 647 (by decide +kernel) rfl
theorem m_648 : Cond.methodLink RX2 112 yX2_readKnows ∈ g_tb := g_in 648 (by decide +kernel) rfl
theorem m_650 : Cond.instanceMethod yX2_readKnows ∈ g_tb := g_in 650 (by decide +kernel) rfl
theorem m_651 : Cond.code yX2_readKnows cX2_readKnows 5 none ∈ g_tb := g_in 651 (by decide +kernel) rfl
theorem m_652 : Cond.methodLink RX2 137 yX8_learn ∈ g_tb := g_in 652 (by decide +kernel) rfl
theorem m_653 : Cond.instanceMethod yX8_learn ∈ g_tb := g_in 653 (by decide +kernel) rfl
theorem m_654 : Cond.selects RX8 yX8_learn yX8_learn ∈ g_tb := g_in 654 (by decide +kernel) rfl
theorem m_655 : Cond.code yX8_learn cX8_learn 5 none ∈ g_tb := g_in 655 (by decide +kernel) rfl
theorem m_656 : Cond.methodLink RX2 41 yX9_goesOn ∈ g_tb := g_in 656 (by decide +kernel) rfl
theorem m_657 : Cond.instanceMethod yX9_goesOn ∈ g_tb := g_in 657 (by decide +kernel) rfl
theorem m_658 : Cond.selects RX9 yX9_goesOn yX9_goesOn ∈ g_tb := g_in 658 (by decide +kernel) rfl
theorem m_659 : Cond.code yX9_goesOn cX9_goesOn 1 (some .boolean) ∈ g_tb := g_in 659 (by decide +kernel) rfl
theorem m_660 : Cond.methodLink RX9 93 yX9_expect ∈ g_tb := g_in 660 (by decide +kernel) rfl
theorem m_661 : Cond.instanceMethod yX9_expect ∈ g_tb := g_in 661 (by decide +kernel) rfl
theorem m_662 : Cond.selects RX9 yX9_expect yX9_expect ∈ g_tb := g_in 662 (by decide +kernel) rfl
theorem m_663 : Cond.code yX9_expect cX9_expect 2 none ∈ g_tb := g_in 663 (by decide +kernel) rfl
theorem m_664 : Cond.methodLink RX11 114 yX8_copy ∈ g_tb := g_in 664 (by decide +kernel) rfl
theorem m_665 : Cond.instanceMethod yX8_copy ∈ g_tb := g_in 665 (by decide +kernel) rfl
theorem m_666 : Cond.selects RX8 yX8_copy yX8_copy ∈ g_tb := g_in 666 (by decide +kernel) rfl
theorem m_667 : Cond.code yX8_copy cX8_copy 2 none ∈ g_tb := g_in 667 (by decide +kernel) rfl
theorem m_668 : Cond.methodLink RX8 34 arraycopyName ∈ g_tb := g_in 668 (by decide +kernel) rfl
theorem m_671 : Cond.methodLink RX11 118 yX4_clear ∈ g_tb := g_in 671 (by decide +kernel) rfl
theorem m_672 : Cond.instanceMethod yX4_clear ∈ g_tb := g_in 672 (by decide +kernel) rfl
theorem m_673 : Cond.selects RX4 yX4_clear yX4_clear ∈ g_tb := g_in 673 (by decide +kernel) rfl
theorem m_674 : Cond.code yX4_clear cX4_clear 1 none ∈ g_tb := g_in 674 (by decide +kernel) rfl
theorem m_679 : Cond.methodLink RX11 124 yX7_read ∈ g_tb := g_in 679 (by decide +kernel) rfl
theorem m_680 : Cond.instanceMethod yX7_read ∈ g_tb := g_in 680 (by decide +kernel) rfl
theorem m_681 : Cond.selects RX7 yX7_read yX7_read ∈ g_tb := g_in 681 (by decide +kernel) rfl
theorem m_682 : Cond.code yX7_read cX7_read 3 (some (.object "ForgetHeirs$Rule")) ∈ g_tb := g_in 682 (by decide +kernel) rfl
theorem m_683 : Cond.methodLink RX7 34 yX9_split ∈ g_tb := g_in 683 (by decide +kernel) rfl
theorem m_684 : Cond.methodLink RX7 37 yX7_readClause ∈ g_tb := g_in 684 (by decide +kernel) rfl
theorem m_686 : Cond.instanceMethod yX7_readClause ∈ g_tb := g_in 686 (by decide +kernel) rfl
theorem m_687 : Cond.code yX7_readClause cX7_readClause 2 none ∈ g_tb := g_in 687 (by decide +kernel) rfl
theorem m_688 : Cond.methodLink RX7 59 yX9_kind ∈ g_tb := g_in 688 (by decide +kernel) rfl
theorem m_689 : Cond.methodLink RX7 63 yX9_place ∈ g_tb := g_in 689 (by decide +kernel) rfl
theorem m_690 : Cond.methodLink RX7 66 yX9_blame ∈ g_tb := g_in 690 (by decide +kernel) rfl
theorem m_691 : Cond.methodLink RX7 70 yX9_next ∈ g_tb := g_in 691 (by decide +kernel) rfl
theorem m_692 : Cond.methodLink RX7 73 yX7_mark ∈ g_tb := g_in 692 (by decide +kernel) rfl
theorem m_694 : Cond.instanceMethod yX7_mark ∈ g_tb := g_in 694 (by decide +kernel) rfl
theorem m_695 : Cond.code yX7_mark cX7_mark 1 none ∈ g_tb := g_in 695 (by decide +kernel) rfl
theorem m_696 : Cond.methodLink RX7 76 yX7_readJoined ∈ g_tb := g_in 696 (by decide +kernel) rfl
theorem m_698 : Cond.instanceMethod yX7_readJoined ∈ g_tb := g_in 698 (by decide +kernel) rfl
theorem m_699 : Cond.code yX7_readJoined cX7_readJoined 5 none ∈ g_tb := g_in 699 (by decide +kernel) rfl
theorem m_700 : Cond.methodLink RX7 45 yX9_isFaulty ∈ g_tb := g_in 700 (by decide +kernel) rfl
theorem m_701 : Cond.methodLink RX7 79 yX7_readValue ∈ g_tb := g_in 701 (by decide +kernel) rfl
theorem m_703 : Cond.instanceMethod yX7_readValue ∈ g_tb := g_in 703 (by decide +kernel) rfl
theorem m_704 : Cond.code yX7_readValue cX7_readValue 3 none ∈ g_tb := g_in 704 (by decide +kernel) rfl
theorem m_705 : Cond.methodLink RX7 85 yX7_put ∈ g_tb := g_in 705 (by decide +kernel) rfl
theorem m_707 : Cond.instanceMethod yX7_put ∈ g_tb := g_in 707 (by decide +kernel) rfl
theorem m_708 : Cond.code yX7_put cX7_put 2 none ∈ g_tb := g_in 708 (by decide +kernel) rfl
theorem m_709 : Cond.constant RX7 105 99999 ∈ g_tb := g_in 709 (by decide +kernel) rfl
theorem m_710 : Cond.methodLink RX7 106 yX9_number ∈ g_tb := g_in 710 (by decide +kernel) rfl
theorem m_711 : Cond.methodLink RX7 102 yX7_countValue ∈ g_tb := g_in 711 (by decide +kernel) rfl
theorem m_713 : Cond.instanceMethod yX7_countValue ∈ g_tb := g_in 713 (by decide +kernel) rfl
theorem m_714 : Cond.code yX7_countValue cX7_countValue 2 none ∈ g_tb := g_in 714 (by decide +kernel) rfl
theorem m_715 : Cond.methodLink RX7 82 yX7_readFact ∈ g_tb := g_in 715 (by decide +kernel) rfl
theorem m_717 : Cond.instanceMethod yX7_readFact ∈ g_tb := g_in 717 (by decide +kernel) rfl
theorem m_718 : Cond.code yX7_readFact cX7_readFact 4 none ∈ g_tb := g_in 718 (by decide +kernel) rfl
theorem m_719 : Cond.methodLink RX7 92 yX9_expect ∈ g_tb := g_in 719 (by decide +kernel) rfl
theorem m_720 : Cond.methodLink RX7 95 yX7_readComparing ∈ g_tb := g_in 720 (by decide +kernel) rfl
theorem m_722 : Cond.instanceMethod yX7_readComparing ∈ g_tb := g_in 722 (by decide +kernel) rfl
theorem m_723 : Cond.code yX7_readComparing cX7_readComparing 2 (some .int) ∈ g_tb := g_in 723 (by decide +kernel) rfl
theorem m_724 : Cond.methodLink RX7 98 yX7_comparingOf ∈ g_tb := g_in 724 (by decide +kernel) rfl
theorem m_725 : Cond.static yX7_comparingOf ∈ g_tb := g_in 725 (by decide +kernel) rfl
theorem m_726 : Cond.code yX7_comparingOf cX7_comparingOf 1 (some .int) ∈ g_tb := g_in 726 (by decide +kernel) rfl
theorem m_727 : Cond.methodLink RX7 88 yX7_joinerOf ∈ g_tb := g_in 727 (by decide +kernel) rfl
theorem m_728 : Cond.static yX7_joinerOf ∈ g_tb := g_in 728 (by decide +kernel) rfl
theorem m_729 : Cond.code yX7_joinerOf cX7_joinerOf 2 (some .int) ∈ g_tb := g_in 729 (by decide +kernel) rfl
theorem m_730 : Cond.methodLink RX7 41 yX9_goesOn ∈ g_tb := g_in 730 (by decide +kernel) rfl
theorem m_731 : Cond.classLink RX7 48 RX6 ∈ g_tb := g_in 731 (by decide +kernel) rfl
theorem m_732 : Cond.instantiable RX6 2 ∈ g_tb := g_in 732 (by decide +kernel) rfl
theorem m_733 : Cond.methodLink RX7 50 yJ7_copyOf_59c91 ∈ g_tb := g_in 733 (by decide +kernel) rfl
theorem m_734 : Cond.static yJ7_copyOf_59c91 ∈ g_tb := g_in 734 (by decide +kernel) rfl
theorem m_735 : Cond.code yJ7_copyOf_59c91 cJ7_copyOf_59c91 3 (some (.array .int)) ∈ g_tb := g_in 735 (by decide +kernel) rfl
theorem m_743 : Cond.methodLink "java/util/Arrays" 304 Lib.Math.min.name ∈ g_tb := g_in 743 (by decide +kernel) rfl
theorem m_746 : Cond.methodLink "java/util/Arrays" 150 arraycopyName ∈ g_tb := g_in 746 (by decide +kernel) rfl
theorem m_747 : Cond.methodLink RX7 56 yX6_init ∈ g_tb := g_in 747 (by decide +kernel) rfl
theorem m_748 : Cond.instanceMethod yX6_init ∈ g_tb := g_in 748 (by decide +kernel) rfl
theorem m_749 : Cond.code yX6_init cX6_init 3 none ∈ g_tb := g_in 749 (by decide +kernel) rfl
theorem m_750 : Cond.methodLink RX6 1 Lib.objectInit ∈ g_tb := g_in 750 (by decide +kernel) rfl
theorem m_768 : Cond.methodLink RX11 127 yX11_isHeir ∈ g_tb := g_in 768 (by decide +kernel) rfl
theorem m_770 : Cond.instanceMethod yX11_isHeir ∈ g_tb := g_in 770 (by decide +kernel) rfl
theorem m_771 : Cond.code yX11_isHeir cX11_isHeir 2 (some .boolean) ∈ g_tb := g_in 771 (by decide +kernel) rfl
theorem m_772 : Cond.methodLink RX11 140 yX11_bit ∈ g_tb := g_in 772 (by decide +kernel) rfl
theorem m_773 : Cond.methodLink RX11 147 yX8_knownBy ∈ g_tb := g_in 773 (by decide +kernel) rfl
theorem m_774 : Cond.instanceMethod yX8_knownBy ∈ g_tb := g_in 774 (by decide +kernel) rfl
theorem m_775 : Cond.selects RX8 yX8_knownBy yX8_knownBy ∈ g_tb := g_in 775 (by decide +kernel) rfl
theorem m_776 : Cond.code yX8_knownBy cX8_knownBy 5 (some .int) ∈ g_tb := g_in 776 (by decide +kernel) rfl
theorem m_777 : Cond.methodLink RX11 151 yX8_heldBy ∈ g_tb := g_in 777 (by decide +kernel) rfl
theorem m_778 : Cond.instanceMethod yX8_heldBy ∈ g_tb := g_in 778 (by decide +kernel) rfl
theorem m_779 : Cond.selects RX8 yX8_heldBy yX8_heldBy ∈ g_tb := g_in 779 (by decide +kernel) rfl
theorem m_780 : Cond.code yX8_heldBy cX8_heldBy 5 (some .int) ∈ g_tb := g_in 780 (by decide +kernel) rfl
theorem m_781 : Cond.methodLink RX8 76 yX8_holdersOf ∈ g_tb := g_in 781 (by decide +kernel) rfl
theorem m_782 : Cond.instanceMethod yX8_holdersOf ∈ g_tb := g_in 782 (by decide +kernel) rfl
theorem m_783 : Cond.selects RX8 yX8_holdersOf yX8_holdersOf ∈ g_tb := g_in 783 (by decide +kernel) rfl
theorem m_784 : Cond.code yX8_holdersOf cX8_holdersOf 7 (some .int) ∈ g_tb := g_in 784 (by decide +kernel) rfl
theorem m_785 : Cond.methodLink RX8 69 yX8_heldAs ∈ g_tb := g_in 785 (by decide +kernel) rfl
theorem m_787 : Cond.instanceMethod yX8_heldAs ∈ g_tb := g_in 787 (by decide +kernel) rfl
theorem m_788 : Cond.code yX8_heldAs cX8_heldAs 7 (some .int) ∈ g_tb := g_in 788 (by decide +kernel) rfl
theorem m_794 : Cond.methodLink RX11 154 yX11_isThing ∈ g_tb := g_in 794 (by decide +kernel) rfl
theorem m_796 : Cond.instanceMethod yX11_isThing ∈ g_tb := g_in 796 (by decide +kernel) rfl
theorem m_797 : Cond.code yX11_isThing cX11_isThing 2 (some .boolean) ∈ g_tb := g_in 797 (by decide +kernel) rfl
theorem m_798 : Cond.methodLink RX11 175 yX8_holdersOf ∈ g_tb := g_in 798 (by decide +kernel) rfl
theorem m_807 : Cond.methodLink RX11 196 yX8_standing ∈ g_tb := g_in 807 (by decide +kernel) rfl
theorem m_808 : Cond.instanceMethod yX8_standing ∈ g_tb := g_in 808 (by decide +kernel) rfl
theorem m_809 : Cond.selects RX8 yX8_standing yX8_standing ∈ g_tb := g_in 809 (by decide +kernel) rfl
theorem m_810 : Cond.code yX8_standing cX8_standing 4 (some .int) ∈ g_tb := g_in 810 (by decide +kernel) rfl
theorem m_811 : Cond.methodLink RX11 200 yX8_heldTogether ∈ g_tb := g_in 811 (by decide +kernel) rfl
theorem m_812 : Cond.instanceMethod yX8_heldTogether ∈ g_tb := g_in 812 (by decide +kernel) rfl
theorem m_813 : Cond.selects RX8 yX8_heldTogether yX8_heldTogether ∈ g_tb := g_in 813 (by decide +kernel) rfl
theorem m_814 : Cond.code yX8_heldTogether cX8_heldTogether 4 (some .int) ∈ g_tb := g_in 814 (by decide +kernel) rfl
theorem m_815 : Cond.methodLink RX8 79 yJ6_bitCount_0f7a4 ∈ g_tb := g_in 815 (by decide +kernel) rfl
theorem m_816 : Cond.static yJ6_bitCount_0f7a4 ∈ g_tb := g_in 816 (by decide +kernel) rfl
theorem m_817 : Cond.code yJ6_bitCount_0f7a4 cJ6_bitCount_0f7a4 1 (some .int) ∈ g_tb := g_in 817 (by decide +kernel) rfl
theorem m_818 : Cond.constant "java/lang/Integer" 265 1431655765 ∈ g_tb := g_in 818 (by decide +kernel) rfl
theorem m_819 : Cond.constant "java/lang/Integer" 266 858993459 ∈ g_tb := g_in 819 (by decide +kernel) rfl
theorem m_820 : Cond.constant "java/lang/Integer" 267 252645135 ∈ g_tb := g_in 820 (by decide +kernel) rfl
theorem m_825 : Cond.methodLink RX11 208 yX4_keep ∈ g_tb := g_in 825 (by decide +kernel) rfl
theorem m_826 : Cond.instanceMethod yX4_keep ∈ g_tb := g_in 826 (by decide +kernel) rfl
theorem m_827 : Cond.selects RX4 yX4_keep yX4_keep ∈ g_tb := g_in 827 (by decide +kernel) rfl
theorem m_828 : Cond.code yX4_keep cX4_keep 2 none ∈ g_tb := g_in 828 (by decide +kernel) rfl
theorem m_829 : Cond.methodLink RX4 23 yX8_copy ∈ g_tb := g_in 829 (by decide +kernel) rfl
theorem m_830 : Cond.methodLink RX4 27 Lib.Math.min.name ∈ g_tb := g_in 830 (by decide +kernel) rfl
theorem m_831 : Cond.methodLink RX11 211 yX11_ruleInForce ∈ g_tb := g_in 831 (by decide +kernel) rfl
theorem m_833 : Cond.instanceMethod yX11_ruleInForce ∈ g_tb := g_in 833 (by decide +kernel) rfl
theorem m_834 : Cond.code yX11_ruleInForce cX11_ruleInForce 1 (some (.object "ForgetHeirs$Rule")) ∈ g_tb := g_in 834 (by decide +kernel) rfl
theorem m_835 : Cond.methodLink RX11 214 yX10_pass ∈ g_tb := g_in 835 (by decide +kernel) rfl
theorem m_836 : Cond.instanceMethod yX10_pass ∈ g_tb := g_in 836 (by decide +kernel) rfl
theorem m_837 : Cond.selects RX10 yX10_pass yX10_pass ∈ g_tb := g_in 837 (by decide +kernel) rfl
theorem m_838 : Cond.code yX10_pass cX10_pass 5 (some .int) ∈ g_tb := g_in 838 (by decide +kernel) rfl
theorem m_839 : Cond.methodLink RX10 22 yX10_weigh ∈ g_tb := g_in 839 (by decide +kernel) rfl
theorem m_841 : Cond.instanceMethod yX10_weigh ∈ g_tb := g_in 841 (by decide +kernel) rfl
theorem m_842 : Cond.code yX10_weigh cX10_weigh 7 none ∈ g_tb := g_in 842 (by decide +kernel) rfl
theorem m_843 : Cond.methodLink RX10 63 yX1_plainLoss ∈ g_tb := g_in 843 (by decide +kernel) rfl
theorem m_844 : Cond.instanceMethod yX1_plainLoss ∈ g_tb := g_in 844 (by decide +kernel) rfl
theorem m_845 : Cond.selects RX1 yX1_plainLoss yX1_plainLoss ∈ g_tb := g_in 845 (by decide +kernel) rfl
theorem m_846 : Cond.code yX1_plainLoss cX1_plainLoss 6 (some .int) ∈ g_tb := g_in 846 (by decide +kernel) rfl
theorem m_848 : Cond.methodLink RX10 67 yX5_look ∈ g_tb := g_in 848 (by decide +kernel) rfl
theorem m_849 : Cond.instanceMethod yX5_look ∈ g_tb := g_in 849 (by decide +kernel) rfl
theorem m_850 : Cond.selects RX5 yX5_look yX5_look ∈ g_tb := g_in 850 (by decide +kernel) rfl
theorem m_851 : Cond.code yX5_look cX5_look 6 none ∈ g_tb := g_in 851 (by decide +kernel) rfl
theorem m_853 : Cond.methodLink RX5 63 yX8_knowersAs ∈ g_tb := g_in 853 (by decide +kernel) rfl
theorem m_854 : Cond.instanceMethod yX8_knowersAs ∈ g_tb := g_in 854 (by decide +kernel) rfl
theorem m_855 : Cond.selects RX8 yX8_knowersAs yX8_knowersAs ∈ g_tb := g_in 855 (by decide +kernel) rfl
theorem m_856 : Cond.code yX8_knowersAs cX8_knowersAs 7 (some .int) ∈ g_tb := g_in 856 (by decide +kernel) rfl
theorem m_857 : Cond.methodLink RX5 67 yJ6_bitCount_0f7a4 ∈ g_tb := g_in 857 (by decide +kernel) rfl
theorem m_858 : Cond.methodLink RX5 73 yX8_knownBy ∈ g_tb := g_in 858 (by decide +kernel) rfl
theorem m_859 : Cond.constantLong RX10 71 99 ∈ g_tb := g_in 859 (by decide +kernel) rfl
theorem m_860 : Cond.methodLink RX10 73 yX5_loss ∈ g_tb := g_in 860 (by decide +kernel) rfl
theorem m_861 : Cond.instanceMethod yX5_loss ∈ g_tb := g_in 861 (by decide +kernel) rfl
theorem m_862 : Cond.selects RX5 yX5_loss yX5_loss ∈ g_tb := g_in 862 (by decide +kernel) rfl
theorem m_863 : Cond.code yX5_loss cX5_loss 5 (some .long) ∈ g_tb := g_in 863 (by decide +kernel) rfl
theorem m_864 : Cond.methodLink RX5 85 yX5_run ∈ g_tb := g_in 864 (by decide +kernel) rfl
theorem m_866 : Cond.instanceMethod yX5_run ∈ g_tb := g_in 866 (by decide +kernel) rfl
theorem m_867 : Cond.code yX5_run cX5_run 9 (some .long) ∈ g_tb := g_in 867 (by decide +kernel) rfl
theorem m_868 : Cond.methodLink RX5 89 yX5_push ∈ g_tb := g_in 868 (by decide +kernel) rfl
theorem m_870 : Cond.instanceMethod yX5_push ∈ g_tb := g_in 870 (by decide +kernel) rfl
theorem m_871 : Cond.code yX5_push cX5_push 3 none ∈ g_tb := g_in 871 (by decide +kernel) rfl
theorem m_872 : Cond.methodLink RX5 93 yX5_pop ∈ g_tb := g_in 872 (by decide +kernel) rfl
theorem m_874 : Cond.instanceMethod yX5_pop ∈ g_tb := g_in 874 (by decide +kernel) rfl
theorem m_875 : Cond.code yX5_pop cX5_pop 1 (some .long) ∈ g_tb := g_in 875 (by decide +kernel) rfl
theorem m_876 : Cond.methodLink RX5 97 yX5_joined ∈ g_tb := g_in 876 (by decide +kernel) rfl
theorem m_877 : Cond.static yX5_joined ∈ g_tb := g_in 877 (by decide +kernel) rfl
theorem m_878 : Cond.code yX5_joined cX5_joined 5 (some .long) ∈ g_tb := g_in 878 (by decide +kernel) rfl
theorem m_879 : Cond.methodLink RX10 77 Lib.MathLoose.min_long.x ∈ g_tb := g_in 879 (by decide +kernel) rfl
theorem m_882 : Cond.methodLink RX10 80 Lib.MathLoose.max_long.x ∈ g_tb := g_in 882 (by decide +kernel) rfl
theorem m_885 : Cond.methodLink RX10 26 yX10_fadeAll ∈ g_tb := g_in 885 (by decide +kernel) rfl
theorem m_887 : Cond.instanceMethod yX10_fadeAll ∈ g_tb := g_in 887 (by decide +kernel) rfl
theorem m_888 : Cond.code yX10_fadeAll cX10_fadeAll 6 none ∈ g_tb := g_in 888 (by decide +kernel) rfl
theorem m_889 : Cond.methodLink RX10 83 yX8_forget ∈ g_tb := g_in 889 (by decide +kernel) rfl
theorem m_890 : Cond.instanceMethod yX8_forget ∈ g_tb := g_in 890 (by decide +kernel) rfl
theorem m_891 : Cond.selects RX8 yX8_forget yX8_forget ∈ g_tb := g_in 891 (by decide +kernel) rfl
theorem m_892 : Cond.code yX8_forget cX8_forget 3 none ∈ g_tb := g_in 892 (by decide +kernel) rfl
theorem m_893 : Cond.methodLink RX8 40 yX8_learn ∈ g_tb := g_in 893 (by decide +kernel) rfl
theorem m_894 : Cond.methodLink RX10 41 Lib.Math.min.name ∈ g_tb := g_in 894 (by decide +kernel) rfl
theorem m_895 : Cond.methodLink RX10 47 yX10_strikeForgotten ∈ g_tb := g_in 895 (by decide +kernel) rfl
theorem m_897 : Cond.instanceMethod yX10_strikeForgotten ∈ g_tb := g_in 897 (by decide +kernel) rfl
theorem m_898 : Cond.code yX10_strikeForgotten cX10_strikeForgotten 5 (some .int) ∈ g_tb := g_in 898 (by decide +kernel) rfl
theorem m_899 : Cond.methodLink RX10 90 yX8_holdersOf ∈ g_tb := g_in 899 (by decide +kernel) rfl
theorem m_904 : Cond.methodLink RX11 218 yX11_isKnown ∈ g_tb := g_in 904 (by decide +kernel) rfl
theorem m_906 : Cond.instanceMethod yX11_isKnown ∈ g_tb := g_in 906 (by decide +kernel) rfl
theorem m_907 : Cond.code yX11_isKnown cX11_isKnown 3 (some .boolean) ∈ g_tb := g_in 907 (by decide +kernel) rfl
theorem m_908 : Cond.methodLink RX11 222 yX8_takes ∈ g_tb := g_in 908 (by decide +kernel) rfl
theorem m_909 : Cond.instanceMethod yX8_takes ∈ g_tb := g_in 909 (by decide +kernel) rfl
theorem m_910 : Cond.selects RX8 yX8_takes yX8_takes ∈ g_tb := g_in 910 (by decide +kernel) rfl
theorem m_911 : Cond.code yX8_takes cX8_takes 6 (some .boolean) ∈ g_tb := g_in 911 (by decide +kernel) rfl
theorem m_912 : Cond.methodLink RX8 44 Lib.Math.max.name ∈ g_tb := g_in 912 (by decide +kernel) rfl
theorem m_915 : Cond.methodLink RX11 226 yX11_spread ∈ g_tb := g_in 915 (by decide +kernel) rfl
theorem m_917 : Cond.instanceMethod yX11_spread ∈ g_tb := g_in 917 (by decide +kernel) rfl
theorem m_918 : Cond.code yX11_spread cX11_spread 7 (some .int) ∈ g_tb := g_in 918 (by decide +kernel) rfl
theorem m_923 : Cond.methodLink RX11 230 yX11_prompted ∈ g_tb := g_in 923 (by decide +kernel) rfl
theorem m_924 : Cond.static yX11_prompted ∈ g_tb := g_in 924 (by decide +kernel) rfl
theorem m_925 : Cond.code yX11_prompted cX11_prompted 1 (some .int) ∈ g_tb := g_in 925 (by decide +kernel) rfl
theorem m_926 : Cond.methodLink RX11 258 Lib.Math.min.name ∈ g_tb := g_in 926 (by decide +kernel) rfl
theorem m_931 : Cond.methodLink RX11 234 yX8_isAsked ∈ g_tb := g_in 931 (by decide +kernel) rfl
theorem m_932 : Cond.instanceMethod yX8_isAsked ∈ g_tb := g_in 932 (by decide +kernel) rfl
theorem m_933 : Cond.selects RX8 yX8_isAsked yX8_isAsked ∈ g_tb := g_in 933 (by decide +kernel) rfl
theorem m_934 : Cond.code yX8_isAsked cX8_isAsked 4 none ∈ g_tb := g_in 934 (by decide +kernel) rfl
theorem m_935 : Cond.methodLink RX8 50 yX8_errs ∈ g_tb := g_in 935 (by decide +kernel) rfl
theorem m_936 : Cond.instanceMethod yX8_errs ∈ g_tb := g_in 936 (by decide +kernel) rfl
theorem m_937 : Cond.selects RX8 yX8_errs yX8_errs ∈ g_tb := g_in 937 (by decide +kernel) rfl
theorem m_938 : Cond.code yX8_errs cX8_errs 5 (some .boolean) ∈ g_tb := g_in 938 (by decide +kernel) rfl
theorem m_939 : Cond.methodLink RX8 54 yX8_forget ∈ g_tb := g_in 939 (by decide +kernel) rfl
theorem m_948 : Cond.methodLink RX11 238 yX4_giveBack ∈ g_tb := g_in 948 (by decide +kernel) rfl
theorem m_949 : Cond.instanceMethod yX4_giveBack ∈ g_tb := g_in 949 (by decide +kernel) rfl
theorem m_950 : Cond.selects RX4 yX4_giveBack yX4_giveBack ∈ g_tb := g_in 950 (by decide +kernel) rfl
theorem m_951 : Cond.code yX4_giveBack cX4_giveBack 2 (some .boolean) ∈ g_tb := g_in 951 (by decide +kernel) rfl
theorem m_956 : Cond.methodLink RX11 242 yX11_lookAhead ∈ g_tb := g_in 956 (by decide +kernel) rfl
theorem m_958 : Cond.instanceMethod yX11_lookAhead ∈ g_tb := g_in 958 (by decide +kernel) rfl
theorem m_959 : Cond.code yX11_lookAhead cX11_lookAhead 3 none ∈ g_tb := g_in 959 (by decide +kernel) rfl
theorem m_964 : Cond.methodLink RX11 245 yX11_strikeLater ∈ g_tb := g_in 964 (by decide +kernel) rfl
theorem m_966 : Cond.instanceMethod yX11_strikeLater ∈ g_tb := g_in 966 (by decide +kernel) rfl
theorem m_967 : Cond.code yX11_strikeLater cX11_strikeLater 3 (some .int) ∈ g_tb := g_in 967 (by decide +kernel) rfl
theorem m_972 : Cond.methodLink RX11 248 yX8_isAnyHeld ∈ g_tb := g_in 972 (by decide +kernel) rfl
theorem m_973 : Cond.instanceMethod yX8_isAnyHeld ∈ g_tb := g_in 973 (by decide +kernel) rfl
theorem m_974 : Cond.selects RX8 yX8_isAnyHeld yX8_isAnyHeld ∈ g_tb := g_in 974 (by decide +kernel) rfl
theorem m_975 : Cond.code yX8_isAnyHeld cX8_isAnyHeld 3 (some .boolean) ∈ g_tb := g_in 975 (by decide +kernel) rfl
theorem m_976 : Cond.methodLink RX11 252 yX8_holdsMost ∈ g_tb := g_in 976 (by decide +kernel) rfl
theorem m_977 : Cond.instanceMethod yX8_holdsMost ∈ g_tb := g_in 977 (by decide +kernel) rfl
theorem m_978 : Cond.selects RX8 yX8_holdsMost yX8_holdsMost ∈ g_tb := g_in 978 (by decide +kernel) rfl
theorem m_979 : Cond.code yX8_holdsMost cX8_holdsMost 6 (some .int) ∈ g_tb := g_in 979 (by decide +kernel) rfl
theorem m_980 : Cond.methodLink RX8 85 yX8_heldBy ∈ g_tb := g_in 980 (by decide +kernel) rfl
theorem m_985 : Cond.methodLink RX11 255 yX8_lasts ∈ g_tb := g_in 985 (by decide +kernel) rfl
theorem m_986 : Cond.instanceMethod yX8_lasts ∈ g_tb := g_in 986 (by decide +kernel) rfl
theorem m_987 : Cond.selects RX8 yX8_lasts yX8_lasts ∈ g_tb := g_in 987 (by decide +kernel) rfl
theorem m_988 : Cond.code yX8_lasts cX8_lasts 2 (some .int) ∈ g_tb := g_in 988 (by decide +kernel) rfl
theorem m_989 : Cond.constant RX8 88 1000000 ∈ g_tb := g_in 989 (by decide +kernel) rfl
theorem m_1002 : Cond.methodLink RX11 263 yX1_plainLoss ∈ g_tb := g_in 1002 (by decide +kernel) rfl
theorem m_1007 : Cond.methodLink RX11 267 yX8_forget ∈ g_tb := g_in 1007 (by decide +kernel) rfl
theorem m_1012 : Cond.methodLink RX11 271 yX11_heldBehindAsk ∈ g_tb := g_in 1012 (by decide +kernel) rfl
theorem m_1014 : Cond.instanceMethod yX11_heldBehindAsk ∈ g_tb := g_in 1014 (by decide +kernel) rfl
theorem m_1015 : Cond.code yX11_heldBehindAsk cX11_heldBehindAsk 2 (some .int) ∈ g_tb := g_in 1015 (by decide +kernel) rfl
theorem m_1020 : Cond.methodLink RX11 274 yX8_strengthAs ∈ g_tb := g_in 1020 (by decide +kernel) rfl
theorem m_1021 : Cond.instanceMethod yX8_strengthAs ∈ g_tb := g_in 1021 (by decide +kernel) rfl
theorem m_1022 : Cond.selects RX8 yX8_strengthAs yX8_strengthAs ∈ g_tb := g_in 1022 (by decide +kernel) rfl
theorem m_1023 : Cond.code yX8_strengthAs cX8_strengthAs 7 (some .int) ∈ g_tb := g_in 1023 (by decide +kernel) rfl
theorem m_1028 : Cond.methodLink RX11 278 yX11_fillUnlike ∈ g_tb := g_in 1028 (by decide +kernel) rfl
theorem m_1030 : Cond.instanceMethod yX11_fillUnlike ∈ g_tb := g_in 1030 (by decide +kernel) rfl
theorem m_1031 : Cond.code yX11_fillUnlike cX11_fillUnlike 5 (some .int) ∈ g_tb := g_in 1031 (by decide +kernel) rfl
theorem m_1032 : Cond.methodLink RX11 289 yX8_knownUnlike ∈ g_tb := g_in 1032 (by decide +kernel) rfl
theorem m_1033 : Cond.instanceMethod yX8_knownUnlike ∈ g_tb := g_in 1033 (by decide +kernel) rfl
theorem m_1034 : Cond.selects RX8 yX8_knownUnlike yX8_knownUnlike ∈ g_tb := g_in 1034 (by decide +kernel) rfl
theorem m_1035 : Cond.code yX8_knownUnlike cX8_knownUnlike 10 (some .int) ∈ g_tb := g_in 1035 (by decide +kernel) rfl
theorem m_1036 : Cond.methodLink RX11 281 yJ6_bitCount_0f7a4 ∈ g_tb := g_in 1036 (by decide +kernel) rfl
theorem m_1037 : Cond.methodLink RX11 286 yX11_partsAll ∈ g_tb := g_in 1037 (by decide +kernel) rfl
theorem m_1039 : Cond.instanceMethod yX11_partsAll ∈ g_tb := g_in 1039 (by decide +kernel) rfl
theorem m_1040 : Cond.code yX11_partsAll cX11_partsAll 4 (some .boolean) ∈ g_tb := g_in 1040 (by decide +kernel) rfl
theorem m_1045 : Cond.methodLink RX11 292 yX0_clear ∈ g_tb := g_in 1045 (by decide +kernel) rfl
theorem m_1046 : Cond.instanceMethod yX0_clear ∈ g_tb := g_in 1046 (by decide +kernel) rfl
theorem m_1047 : Cond.selects RX0 yX0_clear yX0_clear ∈ g_tb := g_in 1047 (by decide +kernel) rfl
theorem m_1048 : Cond.code yX0_clear cX0_clear 3 none ∈ g_tb := g_in 1048 (by decide +kernel) rfl
theorem m_1049 : Cond.methodLink RX0 19 Lib.Math.min.name ∈ g_tb := g_in 1049 (by decide +kernel) rfl
theorem m_1050 : Cond.methodLink RX11 294 yX11_sharers ∈ g_tb := g_in 1050 (by decide +kernel) rfl
theorem m_1052 : Cond.instanceMethod yX11_sharers ∈ g_tb := g_in 1052 (by decide +kernel) rfl
theorem m_1053 : Cond.code yX11_sharers cX11_sharers 3 (some .int) ∈ g_tb := g_in 1053 (by decide +kernel) rfl
theorem m_1054 : Cond.methodLink RX11 304 yX8_errs ∈ g_tb := g_in 1054 (by decide +kernel) rfl
theorem m_1055 : Cond.methodLink RX11 308 yX8_knowersAs ∈ g_tb := g_in 1055 (by decide +kernel) rfl
theorem m_1056 : Cond.methodLink RX11 297 yX0_join ∈ g_tb := g_in 1056 (by decide +kernel) rfl
theorem m_1057 : Cond.instanceMethod yX0_join ∈ g_tb := g_in 1057 (by decide +kernel) rfl
theorem m_1058 : Cond.selects RX0 yX0_join yX0_join ∈ g_tb := g_in 1058 (by decide +kernel) rfl
theorem m_1059 : Cond.code yX0_join cX0_join 3 none ∈ g_tb := g_in 1059 (by decide +kernel) rfl
theorem m_1060 : Cond.methodLink RX11 300 yX0_howMany ∈ g_tb := g_in 1060 (by decide +kernel) rfl
theorem m_1061 : Cond.instanceMethod yX0_howMany ∈ g_tb := g_in 1061 (by decide +kernel) rfl
theorem m_1062 : Cond.selects RX0 yX0_howMany yX0_howMany ∈ g_tb := g_in 1062 (by decide +kernel) rfl
theorem m_1063 : Cond.code yX0_howMany cX0_howMany 10 (some .int) ∈ g_tb := g_in 1063 (by decide +kernel) rfl
theorem m_1076 : Cond.methodLink RX11 311 yX11_drinkLater ∈ g_tb := g_in 1076 (by decide +kernel) rfl
theorem m_1078 : Cond.instanceMethod yX11_drinkLater ∈ g_tb := g_in 1078 (by decide +kernel) rfl
theorem m_1079 : Cond.code yX11_drinkLater cX11_drinkLater 3 none ∈ g_tb := g_in 1079 (by decide +kernel) rfl
theorem m_1080 : Cond.methodLink RX11 314 yX11_draw ∈ g_tb := g_in 1080 (by decide +kernel) rfl
theorem m_1082 : Cond.instanceMethod yX11_draw ∈ g_tb := g_in 1082 (by decide +kernel) rfl
theorem m_1083 : Cond.code yX11_draw cX11_draw 1 (some .int) ∈ g_tb := g_in 1083 (by decide +kernel) rfl
theorem m_1084 : Cond.constantLong RX11 317 1103515245 ∈ g_tb := g_in 1084 (by decide +kernel) rfl
theorem m_1085 : Cond.constantLong RX11 319 12345 ∈ g_tb := g_in 1085 (by decide +kernel) rfl
theorem m_1086 : Cond.constantLong RX11 321 2147483648 ∈ g_tb := g_in 1086 (by decide +kernel) rfl
theorem m_1087 : Cond.constant RX11 323 65536 ∈ g_tb := g_in 1087 (by decide +kernel) rfl
theorem m_1101 : Cond.methodLink RX12 1 Lib.objectInit ∈ g_tb := g_in 1101 (by decide +kernel) rfl
theorem m_1219 : Cond.methodLink RX12 83 yX12_four ∈ g_tb := g_in 1219 (by decide +kernel) rfl
theorem m_1221 : Cond.instanceMethod yX12_four ∈ g_tb := g_in 1221 (by decide +kernel) rfl
theorem m_1222 : Cond.code yX12_four cX12_four 3 none ∈ g_tb := g_in 1222 (by decide +kernel) rfl
theorem m_1231 : Cond.methodLink RX12 276 yX12_readsAll ∈ g_tb := g_in 1231 (by decide +kernel) rfl
theorem m_1233 : Cond.instanceMethod yX12_readsAll ∈ g_tb := g_in 1233 (by decide +kernel) rfl
theorem m_1234 : Cond.code yX12_readsAll cX12_readsAll 2 (some .boolean) ∈ g_tb := g_in 1234 (by decide +kernel) rfl
theorem m_1235 : Cond.methodLink RX12 270 yX12_clauseHere ∈ g_tb := g_in 1235 (by decide +kernel) rfl
theorem m_1237 : Cond.instanceMethod yX12_clauseHere ∈ g_tb := g_in 1237 (by decide +kernel) rfl
theorem m_1238 : Cond.code yX12_clauseHere cX12_clauseHere 3 (some .boolean) ∈ g_tb := g_in 1238 (by decide +kernel) rfl
theorem m_1239 : Cond.methodLink RX12 93 yX12_see ∈ g_tb := g_in 1239 (by decide +kernel) rfl
theorem m_1241 : Cond.instanceMethod yX12_see ∈ g_tb := g_in 1241 (by decide +kernel) rfl
theorem m_1242 : Cond.code yX12_see cX12_see 1 (some .int) ∈ g_tb := g_in 1242 (by decide +kernel) rfl
theorem m_1243 : Cond.methodLink RX12 256 yX12_isHouseWord ∈ g_tb := g_in 1243 (by decide +kernel) rfl
theorem m_1245 : Cond.instanceMethod yX12_isHouseWord ∈ g_tb := g_in 1245 (by decide +kernel) rfl
theorem m_1246 : Cond.code yX12_isHouseWord cX12_isHouseWord 2 (some .boolean) ∈ g_tb := g_in 1246 (by decide +kernel) rfl
theorem m_1247 : Cond.constantLong RX12 229 448546567013 ∈ g_tb := g_in 1247 (by decide +kernel) rfl
theorem m_1248 : Cond.methodLink RX12 101 yX12_isWord ∈ g_tb := g_in 1248 (by decide +kernel) rfl
theorem m_1250 : Cond.instanceMethod yX12_isWord ∈ g_tb := g_in 1250 (by decide +kernel) rfl
theorem m_1251 : Cond.code yX12_isWord cX12_isWord 6 (some .boolean) ∈ g_tb := g_in 1251 (by decide +kernel) rfl
theorem m_1252 : Cond.methodLink RX12 97 yX12_isLetter ∈ g_tb := g_in 1252 (by decide +kernel) rfl
theorem m_1254 : Cond.instanceMethod yX12_isLetter ∈ g_tb := g_in 1254 (by decide +kernel) rfl
theorem m_1255 : Cond.code yX12_isLetter cX12_isLetter 2 (some .boolean) ∈ g_tb := g_in 1255 (by decide +kernel) rfl
theorem m_1256 : Cond.constantLong RX12 124 499967946343 ∈ g_tb := g_in 1256 (by decide +kernel) rfl
theorem m_1257 : Cond.constantLong RX12 136 1936682599 ∈ g_tb := g_in 1257 (by decide +kernel) rfl
theorem m_1258 : Cond.constantLong RX12 122 1751476594 ∈ g_tb := g_in 1258 (by decide +kernel) rfl
theorem m_1259 : Cond.constantLong RX12 134 448311616883 ∈ g_tb := g_in 1259 (by decide +kernel) rfl
theorem m_1260 : Cond.constantLong RX12 246 27988572932501107 ∈ g_tb := g_in 1260 (by decide +kernel) rfl
theorem m_1261 : Cond.constantLong RX12 254 461414299507 ∈ g_tb := g_in 1261 (by decide +kernel) rfl
theorem m_1262 : Cond.constantLong RX12 259 1717658725 ∈ g_tb := g_in 1262 (by decide +kernel) rfl
theorem m_1263 : Cond.methodLink RX12 111 yX12_fails ∈ g_tb := g_in 1263 (by decide +kernel) rfl
theorem m_1265 : Cond.instanceMethod yX12_fails ∈ g_tb := g_in 1265 (by decide +kernel) rfl
theorem m_1266 : Cond.code yX12_fails cX12_fails 3 (some .boolean) ∈ g_tb := g_in 1266 (by decide +kernel) rfl
theorem m_1267 : Cond.methodLink RX12 264 yX12_houseLineHere ∈ g_tb := g_in 1267 (by decide +kernel) rfl
theorem m_1269 : Cond.instanceMethod yX12_houseLineHere ∈ g_tb := g_in 1269 (by decide +kernel) rfl
theorem m_1270 : Cond.code yX12_houseLineHere cX12_houseLineHere 2 (some .boolean) ∈ g_tb := g_in 1270 (by decide +kernel) rfl
theorem m_1271 : Cond.methodLink RX12 231 yX12_isHouseHere ∈ g_tb := g_in 1271 (by decide +kernel) rfl
theorem m_1273 : Cond.instanceMethod yX12_isHouseHere ∈ g_tb := g_in 1273 (by decide +kernel) rfl
theorem m_1274 : Cond.code yX12_isHouseHere cX12_isHouseHere 2 (some .boolean) ∈ g_tb := g_in 1274 (by decide +kernel) rfl
theorem m_1275 : Cond.methodLink RX12 105 yX12_passWord ∈ g_tb := g_in 1275 (by decide +kernel) rfl
theorem m_1277 : Cond.instanceMethod yX12_passWord ∈ g_tb := g_in 1277 (by decide +kernel) rfl
theorem m_1278 : Cond.code yX12_passWord cX12_passWord 1 none ∈ g_tb := g_in 1278 (by decide +kernel) rfl
theorem m_1279 : Cond.methodLink RX12 222 yX12_cellHere ∈ g_tb := g_in 1279 (by decide +kernel) rfl
theorem m_1281 : Cond.instanceMethod yX12_cellHere ∈ g_tb := g_in 1281 (by decide +kernel) rfl
theorem m_1282 : Cond.code yX12_cellHere cX12_cellHere 4 (some .boolean) ∈ g_tb := g_in 1282 (by decide +kernel) rfl
theorem m_1283 : Cond.methodLink RX12 171 yX12_numberHere ∈ g_tb := g_in 1283 (by decide +kernel) rfl
theorem m_1285 : Cond.instanceMethod yX12_numberHere ∈ g_tb := g_in 1285 (by decide +kernel) rfl
theorem m_1286 : Cond.code yX12_numberHere cX12_numberHere 5 (some .boolean) ∈ g_tb := g_in 1286 (by decide +kernel) rfl
theorem m_1287 : Cond.methodLink RX12 108 yX12_isDigit ∈ g_tb := g_in 1287 (by decide +kernel) rfl
theorem m_1289 : Cond.instanceMethod yX12_isDigit ∈ g_tb := g_in 1289 (by decide +kernel) rfl
theorem m_1290 : Cond.code yX12_isDigit cX12_isDigit 2 (some .boolean) ∈ g_tb := g_in 1290 (by decide +kernel) rfl
theorem m_1291 : Cond.methodLink RX12 118 yX12_in ∈ g_tb := g_in 1291 (by decide +kernel) rfl
theorem m_1292 : Cond.static yX12_in ∈ g_tb := g_in 1292 (by decide +kernel) rfl
theorem m_1293 : Cond.code yX12_in cX12_in 6 (some .boolean) ∈ g_tb := g_in 1293 (by decide +kernel) rfl
theorem m_1294 : Cond.methodLink RX12 234 yX12_isThingHere ∈ g_tb := g_in 1294 (by decide +kernel) rfl
theorem m_1296 : Cond.instanceMethod yX12_isThingHere ∈ g_tb := g_in 1296 (by decide +kernel) rfl
theorem m_1297 : Cond.code yX12_isThingHere cX12_isThingHere 3 (some .boolean) ∈ g_tb := g_in 1297 (by decide +kernel) rfl
theorem m_1298 : Cond.methodLink RX12 237 yX12_isHeirHere ∈ g_tb := g_in 1298 (by decide +kernel) rfl
theorem m_1300 : Cond.instanceMethod yX12_isHeirHere ∈ g_tb := g_in 1300 (by decide +kernel) rfl
theorem m_1301 : Cond.code yX12_isHeirHere cX12_isHeirHere 4 (some .boolean) ∈ g_tb := g_in 1301 (by decide +kernel) rfl
theorem m_1302 : Cond.methodLink RX12 240 yX12_isSongHere ∈ g_tb := g_in 1302 (by decide +kernel) rfl
theorem m_1304 : Cond.instanceMethod yX12_isSongHere ∈ g_tb := g_in 1304 (by decide +kernel) rfl
theorem m_1305 : Cond.code yX12_isSongHere cX12_isSongHere 1 (some .boolean) ∈ g_tb := g_in 1305 (by decide +kernel) rfl
theorem m_1306 : Cond.methodLink RX12 243 yX12_isHateHere ∈ g_tb := g_in 1306 (by decide +kernel) rfl
theorem m_1308 : Cond.instanceMethod yX12_isHateHere ∈ g_tb := g_in 1308 (by decide +kernel) rfl
theorem m_1309 : Cond.code yX12_isHateHere cX12_isHateHere 1 (some .boolean) ∈ g_tb := g_in 1309 (by decide +kernel) rfl
theorem m_1310 : Cond.methodLink RX12 248 yX12_areCousinsHere ∈ g_tb := g_in 1310 (by decide +kernel) rfl
theorem m_1312 : Cond.instanceMethod yX12_areCousinsHere ∈ g_tb := g_in 1312 (by decide +kernel) rfl
theorem m_1313 : Cond.code yX12_areCousinsHere cX12_areCousinsHere 4 (some .boolean) ∈ g_tb := g_in 1313 (by decide +kernel) rfl
theorem m_1314 : Cond.methodLink RX12 226 yX12_isOf ∈ g_tb := g_in 1314 (by decide +kernel) rfl
theorem m_1315 : Cond.static yX12_isOf ∈ g_tb := g_in 1315 (by decide +kernel) rfl
theorem m_1316 : Cond.code yX12_isOf cX12_isOf 2 (some .boolean) ∈ g_tb := g_in 1316 (by decide +kernel) rfl
theorem m_1317 : Cond.methodLink RX12 251 yX12_isKnownHere ∈ g_tb := g_in 1317 (by decide +kernel) rfl
theorem m_1319 : Cond.instanceMethod yX12_isKnownHere ∈ g_tb := g_in 1319 (by decide +kernel) rfl
theorem m_1320 : Cond.code yX12_isKnownHere cX12_isKnownHere 2 (some .boolean) ∈ g_tb := g_in 1320 (by decide +kernel) rfl
theorem m_1321 : Cond.methodLink RX12 267 yX12_isFadeHere ∈ g_tb := g_in 1321 (by decide +kernel) rfl
theorem m_1323 : Cond.instanceMethod yX12_isFadeHere ∈ g_tb := g_in 1323 (by decide +kernel) rfl
theorem m_1324 : Cond.code yX12_isFadeHere cX12_isFadeHere 2 (some .boolean) ∈ g_tb := g_in 1324 (by decide +kernel) rfl
theorem m_1325 : Cond.methodLink RX12 187 yX12_sum ∈ g_tb := g_in 1325 (by decide +kernel) rfl
theorem m_1327 : Cond.instanceMethod yX12_sum ∈ g_tb := g_in 1327 (by decide +kernel) rfl
theorem m_1328 : Cond.code yX12_sum cX12_sum 2 (some .boolean) ∈ g_tb := g_in 1328 (by decide +kernel) rfl
theorem m_1329 : Cond.methodLink RX12 184 yX12_term ∈ g_tb := g_in 1329 (by decide +kernel) rfl
theorem m_1331 : Cond.instanceMethod yX12_term ∈ g_tb := g_in 1331 (by decide +kernel) rfl
theorem m_1332 : Cond.code yX12_term cX12_term 2 (some .boolean) ∈ g_tb := g_in 1332 (by decide +kernel) rfl
theorem m_1333 : Cond.methodLink RX12 180 yX12_value ∈ g_tb := g_in 1333 (by decide +kernel) rfl
theorem m_1335 : Cond.instanceMethod yX12_value ∈ g_tb := g_in 1335 (by decide +kernel) rfl
theorem m_1336 : Cond.code yX12_value cX12_value 3 (some .boolean) ∈ g_tb := g_in 1336 (by decide +kernel) rfl
theorem m_1337 : Cond.constant RX12 170 99999 ∈ g_tb := g_in 1337 (by decide +kernel) rfl
theorem m_1338 : Cond.methodLink RX12 174 yX12_makes ∈ g_tb := g_in 1338 (by decide +kernel) rfl
theorem m_1340 : Cond.instanceMethod yX12_makes ∈ g_tb := g_in 1340 (by decide +kernel) rfl
theorem m_1341 : Cond.code yX12_makes cX12_makes 2 (some .boolean) ∈ g_tb := g_in 1341 (by decide +kernel) rfl
theorem m_1342 : Cond.methodLink RX12 166 yX12_puts ∈ g_tb := g_in 1342 (by decide +kernel) rfl
theorem m_1344 : Cond.instanceMethod yX12_puts ∈ g_tb := g_in 1344 (by decide +kernel) rfl
theorem m_1345 : Cond.code yX12_puts cX12_puts 3 none ∈ g_tb := g_in 1345 (by decide +kernel) rfl
theorem m_1346 : Cond.methodLink RX12 177 yX12_wordHere ∈ g_tb := g_in 1346 (by decide +kernel) rfl
theorem m_1348 : Cond.instanceMethod yX12_wordHere ∈ g_tb := g_in 1348 (by decide +kernel) rfl
theorem m_1349 : Cond.code yX12_wordHere cX12_wordHere 1 (some .int) ∈ g_tb := g_in 1349 (by decide +kernel) rfl
theorem m_1350 : Cond.constantLong RX12 126 24947 ∈ g_tb := g_in 1350 (by decide +kernel) rfl
theorem m_1351 : Cond.constantLong RX12 128 491394656372 ∈ g_tb := g_in 1351 (by decide +kernel) rfl
theorem m_1352 : Cond.constantLong RX12 130 8319400191629685864 ∈ g_tb := g_in 1352 (by decide +kernel) rfl
theorem m_1353 : Cond.constantLong RX12 132 6383461 ∈ g_tb := g_in 1353 (by decide +kernel) rfl
theorem m_1354 : Cond.constantLong RX12 138 422877228660 ∈ g_tb := g_in 1354 (by decide +kernel) rfl
theorem m_1355 : Cond.constantLong RX12 140 1819243379 ∈ g_tb := g_in 1355 (by decide +kernel) rfl
theorem m_1356 : Cond.constantLong RX12 142 439854918756 ∈ g_tb := g_in 1356 (by decide +kernel) rfl
theorem m_1357 : Cond.constantLong RX12 144 2036687218 ∈ g_tb := g_in 1357 (by decide +kernel) rfl
theorem m_1358 : Cond.constantLong RX12 146 1935764837 ∈ g_tb := g_in 1358 (by decide +kernel) rfl
theorem m_1359 : Cond.constantLong RX12 148 461414299502 ∈ g_tb := g_in 1359 (by decide +kernel) rfl
theorem m_1360 : Cond.constantLong RX12 214 26982 ∈ g_tb := g_in 1360 (by decide +kernel) rfl
theorem m_1361 : Cond.methodLink RX12 216 yX12_takesWord ∈ g_tb := g_in 1361 (by decide +kernel) rfl
theorem m_1363 : Cond.instanceMethod yX12_takesWord ∈ g_tb := g_in 1363 (by decide +kernel) rfl
theorem m_1364 : Cond.code yX12_takesWord cX12_takesWord 3 (some .boolean) ∈ g_tb := g_in 1364 (by decide +kernel) rfl
theorem m_1365 : Cond.methodLink RX12 219 yX12_tested ∈ g_tb := g_in 1365 (by decide +kernel) rfl
theorem m_1367 : Cond.instanceMethod yX12_tested ∈ g_tb := g_in 1367 (by decide +kernel) rfl
theorem m_1368 : Cond.code yX12_tested cX12_tested 3 (some .boolean) ∈ g_tb := g_in 1368 (by decide +kernel) rfl
theorem m_1369 : Cond.methodLink RX12 204 yX12_fact ∈ g_tb := g_in 1369 (by decide +kernel) rfl
theorem m_1371 : Cond.instanceMethod yX12_fact ∈ g_tb := g_in 1371 (by decide +kernel) rfl
theorem m_1372 : Cond.code yX12_fact cX12_fact 3 (some .boolean) ∈ g_tb := g_in 1372 (by decide +kernel) rfl
theorem m_1373 : Cond.constantLong RX12 190 7237492 ∈ g_tb := g_in 1373 (by decide +kernel) rfl
theorem m_1374 : Cond.methodLink RX12 192 yX12_opens ∈ g_tb := g_in 1374 (by decide +kernel) rfl
theorem m_1376 : Cond.instanceMethod yX12_opens ∈ g_tb := g_in 1376 (by decide +kernel) rfl
theorem m_1377 : Cond.code yX12_opens cX12_opens 2 (some .boolean) ∈ g_tb := g_in 1377 (by decide +kernel) rfl
theorem m_1378 : Cond.methodLink RX12 195 yX12_compare ∈ g_tb := g_in 1378 (by decide +kernel) rfl
theorem m_1380 : Cond.instanceMethod yX12_compare ∈ g_tb := g_in 1380 (by decide +kernel) rfl
theorem m_1381 : Cond.code yX12_compare cX12_compare 5 (some .boolean) ∈ g_tb := g_in 1381 (by decide +kernel) rfl
theorem m_1382 : Cond.methodLink RX12 207 yX12_closes ∈ g_tb := g_in 1382 (by decide +kernel) rfl
theorem m_1384 : Cond.instanceMethod yX12_closes ∈ g_tb := g_in 1384 (by decide +kernel) rfl
theorem m_1385 : Cond.code yX12_closes cX12_closes 1 none ∈ g_tb := g_in 1385 (by decide +kernel) rfl
theorem m_1386 : Cond.methodLink RX12 198 yX12_settles ∈ g_tb := g_in 1386 (by decide +kernel) rfl
theorem m_1388 : Cond.instanceMethod yX12_settles ∈ g_tb := g_in 1388 (by decide +kernel) rfl
theorem m_1389 : Cond.code yX12_settles cX12_settles 2 none ∈ g_tb := g_in 1389 (by decide +kernel) rfl
theorem m_1390 : Cond.methodLink RX12 162 yX12_strength ∈ g_tb := g_in 1390 (by decide +kernel) rfl
theorem m_1391 : Cond.static yX12_strength ∈ g_tb := g_in 1391 (by decide +kernel) rfl
theorem m_1392 : Cond.code yX12_strength cX12_strength 1 (some .int) ∈ g_tb := g_in 1392 (by decide +kernel) rfl
theorem m_1393 : Cond.methodLink RX12 201 yX12_isInside ∈ g_tb := g_in 1393 (by decide +kernel) rfl
theorem m_1395 : Cond.instanceMethod yX12_isInside ∈ g_tb := g_in 1395 (by decide +kernel) rfl
theorem m_1396 : Cond.code yX12_isInside cX12_isInside 2 (some .boolean) ∈ g_tb := g_in 1396 (by decide +kernel) rfl
theorem m_1397 : Cond.constantLong RX12 210 6385252 ∈ g_tb := g_in 1397 (by decide +kernel) rfl
theorem m_1398 : Cond.constantLong RX12 212 28530 ∈ g_tb := g_in 1398 (by decide +kernel) rfl
theorem m_1407 : Cond.methodLink RX12 319 yX12_isRule ∈ g_tb := g_in 1407 (by decide +kernel) rfl
theorem m_1409 : Cond.instanceMethod yX12_isRule ∈ g_tb := g_in 1409 (by decide +kernel) rfl
theorem m_1410 : Cond.code yX12_isRule cX12_isRule 2 (some .boolean) ∈ g_tb := g_in 1410 (by decide +kernel) rfl
theorem m_1415 : Cond.methodLink RX12 322 yX12_isHeir ∈ g_tb := g_in 1415 (by decide +kernel) rfl
theorem m_1417 : Cond.instanceMethod yX12_isHeir ∈ g_tb := g_in 1417 (by decide +kernel) rfl
theorem m_1418 : Cond.code yX12_isHeir cX12_isHeir 2 (some .boolean) ∈ g_tb := g_in 1418 (by decide +kernel) rfl
theorem m_1419 : Cond.constantLong RX12 325 5 ∈ g_tb := g_in 1419 (by decide +kernel) rfl
theorem m_1420 : Cond.methodLink RX12 313 yX12_holdsOf ∈ g_tb := g_in 1420 (by decide +kernel) rfl
theorem m_1422 : Cond.instanceMethod yX12_holdsOf ∈ g_tb := g_in 1422 (by decide +kernel) rfl
theorem m_1423 : Cond.code yX12_holdsOf cX12_holdsOf 4 (some .int) ∈ g_tb := g_in 1423 (by decide +kernel) rfl
theorem m_1424 : Cond.methodLink RX12 310 yX12_holds ∈ g_tb := g_in 1424 (by decide +kernel) rfl
theorem m_1426 : Cond.instanceMethod yX12_holds ∈ g_tb := g_in 1426 (by decide +kernel) rfl
theorem m_1427 : Cond.code yX12_holds cX12_holds 3 (some .boolean) ∈ g_tb := g_in 1427 (by decide +kernel) rfl
theorem m_1428 : Cond.methodLink RX12 301 yX12_thingOf ∈ g_tb := g_in 1428 (by decide +kernel) rfl
theorem m_1430 : Cond.instanceMethod yX12_thingOf ∈ g_tb := g_in 1430 (by decide +kernel) rfl
theorem m_1431 : Cond.code yX12_thingOf cX12_thingOf 3 (some .int) ∈ g_tb := g_in 1431 (by decide +kernel) rfl
theorem m_1432 : Cond.methodLink RX12 304 yX12_knowsOf ∈ g_tb := g_in 1432 (by decide +kernel) rfl
theorem m_1434 : Cond.instanceMethod yX12_knowsOf ∈ g_tb := g_in 1434 (by decide +kernel) rfl
theorem m_1435 : Cond.code yX12_knowsOf cX12_knowsOf 3 (some .boolean) ∈ g_tb := g_in 1435 (by decide +kernel) rfl
theorem m_1436 : Cond.methodLink RX12 297 yX12_valueOf ∈ g_tb := g_in 1436 (by decide +kernel) rfl
theorem m_1438 : Cond.instanceMethod yX12_valueOf ∈ g_tb := g_in 1438 (by decide +kernel) rfl
theorem m_1439 : Cond.code yX12_valueOf cX12_valueOf 3 (some .int) ∈ g_tb := g_in 1439 (by decide +kernel) rfl
theorem m_1440 : Cond.methodLink RX12 307 yX12_sameAs ∈ g_tb := g_in 1440 (by decide +kernel) rfl
theorem m_1442 : Cond.instanceMethod yX12_sameAs ∈ g_tb := g_in 1442 (by decide +kernel) rfl
theorem m_1443 : Cond.code yX12_sameAs cX12_sameAs 5 (some .int) ∈ g_tb := g_in 1443 (by decide +kernel) rfl
theorem m_1448 : Cond.methodLink RX12 327 yX12_isThing ∈ g_tb := g_in 1448 (by decide +kernel) rfl
theorem m_1450 : Cond.instanceMethod yX12_isThing ∈ g_tb := g_in 1450 (by decide +kernel) rfl
theorem m_1451 : Cond.code yX12_isThing cX12_isThing 2 (some .boolean) ∈ g_tb := g_in 1451 (by decide +kernel) rfl
theorem m_1452 : Cond.constantLong RX12 330 6 ∈ g_tb := g_in 1452 (by decide +kernel) rfl
theorem m_1453 : Cond.methodLink RX12 332 yX12_holdersOf ∈ g_tb := g_in 1453 (by decide +kernel) rfl
theorem m_1455 : Cond.instanceMethod yX12_holdersOf ∈ g_tb := g_in 1455 (by decide +kernel) rfl
theorem m_1456 : Cond.code yX12_holdersOf cX12_holdersOf 4 (some .int) ∈ g_tb := g_in 1456 (by decide +kernel) rfl
theorem m_1469 : Cond.methodLink RX12 362 yX12_isHouse ∈ g_tb := g_in 1469 (by decide +kernel) rfl
theorem m_1471 : Cond.instanceMethod yX12_isHouse ∈ g_tb := g_in 1471 (by decide +kernel) rfl
theorem m_1472 : Cond.code yX12_isHouse cX12_isHouse 1 (some .boolean) ∈ g_tb := g_in 1472 (by decide +kernel) rfl
theorem m_1473 : Cond.methodLink RX12 365 yX12_keepsAct ∈ g_tb := g_in 1473 (by decide +kernel) rfl
theorem m_1475 : Cond.instanceMethod yX12_keepsAct ∈ g_tb := g_in 1475 (by decide +kernel) rfl
theorem m_1476 : Cond.code yX12_keepsAct cX12_keepsAct 2 none ∈ g_tb := g_in 1476 (by decide +kernel) rfl
theorem m_1477 : Cond.methodLink RX12 368 yX12_passes ∈ g_tb := g_in 1477 (by decide +kernel) rfl
theorem m_1479 : Cond.instanceMethod yX12_passes ∈ g_tb := g_in 1479 (by decide +kernel) rfl
theorem m_1480 : Cond.code yX12_passes cX12_passes 4 (some .int) ∈ g_tb := g_in 1480 (by decide +kernel) rfl
theorem m_1481 : Cond.methodLink RX12 355 yX12_lossOf ∈ g_tb := g_in 1481 (by decide +kernel) rfl
theorem m_1483 : Cond.instanceMethod yX12_lossOf ∈ g_tb := g_in 1483 (by decide +kernel) rfl
theorem m_1484 : Cond.code yX12_lossOf cX12_lossOf 5 (some .int) ∈ g_tb := g_in 1484 (by decide +kernel) rfl
theorem m_1485 : Cond.methodLink RX12 342 yX12_fades ∈ g_tb := g_in 1485 (by decide +kernel) rfl
theorem m_1487 : Cond.instanceMethod yX12_fades ∈ g_tb := g_in 1487 (by decide +kernel) rfl
theorem m_1488 : Cond.code yX12_fades cX12_fades 5 (some .int) ∈ g_tb := g_in 1488 (by decide +kernel) rfl
theorem m_1489 : Cond.methodLink RX12 346 yX12_words ∈ g_tb := g_in 1489 (by decide +kernel) rfl
theorem m_1491 : Cond.instanceMethod yX12_words ∈ g_tb := g_in 1491 (by decide +kernel) rfl
theorem m_1492 : Cond.code yX12_words cX12_words 5 none ∈ g_tb := g_in 1492 (by decide +kernel) rfl
theorem m_1493 : Cond.methodLink RX12 335 yX12_strengthOf ∈ g_tb := g_in 1493 (by decide +kernel) rfl
theorem m_1495 : Cond.instanceMethod yX12_strengthOf ∈ g_tb := g_in 1495 (by decide +kernel) rfl
theorem m_1496 : Cond.code yX12_strengthOf cX12_strengthOf 3 (some .int) ∈ g_tb := g_in 1496 (by decide +kernel) rfl
theorem m_1497 : Cond.methodLink RX12 349 yX12_summedBy ∈ g_tb := g_in 1497 (by decide +kernel) rfl
theorem m_1499 : Cond.instanceMethod yX12_summedBy ∈ g_tb := g_in 1499 (by decide +kernel) rfl
theorem m_1500 : Cond.code yX12_summedBy cX12_summedBy 4 (some .long) ∈ g_tb := g_in 1500 (by decide +kernel) rfl
theorem m_1501 : Cond.methodLink RX12 338 yX12_reckons ∈ g_tb := g_in 1501 (by decide +kernel) rfl
theorem m_1503 : Cond.instanceMethod yX12_reckons ∈ g_tb := g_in 1503 (by decide +kernel) rfl
theorem m_1504 : Cond.code yX12_reckons cX12_reckons 11 (some .long) ∈ g_tb := g_in 1504 (by decide +kernel) rfl
theorem m_1505 : Cond.methodLink RX12 285 yX12_push ∈ g_tb := g_in 1505 (by decide +kernel) rfl
theorem m_1507 : Cond.instanceMethod yX12_push ∈ g_tb := g_in 1507 (by decide +kernel) rfl
theorem m_1508 : Cond.code yX12_push cX12_push 3 none ∈ g_tb := g_in 1508 (by decide +kernel) rfl
theorem m_1509 : Cond.methodLink RX12 289 yX12_pop ∈ g_tb := g_in 1509 (by decide +kernel) rfl
theorem m_1511 : Cond.instanceMethod yX12_pop ∈ g_tb := g_in 1511 (by decide +kernel) rfl
theorem m_1512 : Cond.code yX12_pop cX12_pop 1 (some .long) ∈ g_tb := g_in 1512 (by decide +kernel) rfl
theorem m_1513 : Cond.methodLink RX12 293 yX12_one ∈ g_tb := g_in 1513 (by decide +kernel) rfl
theorem m_1514 : Cond.static yX12_one ∈ g_tb := g_in 1514 (by decide +kernel) rfl
theorem m_1515 : Cond.code yX12_one cX12_one 5 (some .long) ∈ g_tb := g_in 1515 (by decide +kernel) rfl
theorem m_1516 : Cond.constantLong RX12 353 99 ∈ g_tb := g_in 1516 (by decide +kernel) rfl
theorem m_1517 : Cond.methodLink RX12 358 yX12_knowsNow ∈ g_tb := g_in 1517 (by decide +kernel) rfl
theorem m_1519 : Cond.instanceMethod yX12_knowsNow ∈ g_tb := g_in 1519 (by decide +kernel) rfl
theorem m_1520 : Cond.code yX12_knowsNow cX12_knowsNow 5 none ∈ g_tb := g_in 1520 (by decide +kernel) rfl
theorem m_1525 : Cond.methodLink RX12 371 yX12_takes ∈ g_tb := g_in 1525 (by decide +kernel) rfl
theorem m_1527 : Cond.instanceMethod yX12_takes ∈ g_tb := g_in 1527 (by decide +kernel) rfl
theorem m_1528 : Cond.code yX12_takes cX12_takes 5 (some .boolean) ∈ g_tb := g_in 1528 (by decide +kernel) rfl
theorem m_1529 : Cond.methodLink RX12 375 yX12_goesOn ∈ g_tb := g_in 1529 (by decide +kernel) rfl
theorem m_1531 : Cond.instanceMethod yX12_goesOn ∈ g_tb := g_in 1531 (by decide +kernel) rfl
theorem m_1532 : Cond.code yX12_goesOn cX12_goesOn 7 (some .int) ∈ g_tb := g_in 1532 (by decide +kernel) rfl
theorem m_1541 : Cond.methodLink RX12 378 yX12_asks ∈ g_tb := g_in 1541 (by decide +kernel) rfl
theorem m_1543 : Cond.instanceMethod yX12_asks ∈ g_tb := g_in 1543 (by decide +kernel) rfl
theorem m_1544 : Cond.code yX12_asks cX12_asks 4 (some .int) ∈ g_tb := g_in 1544 (by decide +kernel) rfl
theorem m_1553 : Cond.constantLong RX12 381 200 ∈ g_tb := g_in 1553 (by decide +kernel) rfl
theorem m_1554 : Cond.methodLink RX12 383 yX12_keeps ∈ g_tb := g_in 1554 (by decide +kernel) rfl
theorem m_1556 : Cond.instanceMethod yX12_keeps ∈ g_tb := g_in 1556 (by decide +kernel) rfl
theorem m_1557 : Cond.code yX12_keeps cX12_keeps 2 none ∈ g_tb := g_in 1557 (by decide +kernel) rfl
theorem m_1558 : Cond.methodLink RX12 386 yX12_laysBack ∈ g_tb := g_in 1558 (by decide +kernel) rfl
theorem m_1560 : Cond.instanceMethod yX12_laysBack ∈ g_tb := g_in 1560 (by decide +kernel) rfl
theorem m_1561 : Cond.code yX12_laysBack cX12_laysBack 2 none ∈ g_tb := g_in 1561 (by decide +kernel) rfl
theorem m_1566 : Cond.methodLink RX12 389 yX12_strikeOf ∈ g_tb := g_in 1566 (by decide +kernel) rfl
theorem m_1568 : Cond.instanceMethod yX12_strikeOf ∈ g_tb := g_in 1568 (by decide +kernel) rfl
theorem m_1569 : Cond.code yX12_strikeOf cX12_strikeOf 3 (some .int) ∈ g_tb := g_in 1569 (by decide +kernel) rfl
theorem m_1574 : Cond.methodLink RX12 392 yX12_most ∈ g_tb := g_in 1574 (by decide +kernel) rfl
theorem m_1576 : Cond.instanceMethod yX12_most ∈ g_tb := g_in 1576 (by decide +kernel) rfl
theorem m_1577 : Cond.code yX12_most cX12_most 3 (some .int) ∈ g_tb := g_in 1577 (by decide +kernel) rfl
theorem m_1578 : Cond.methodLink RX12 316 yX12_bits ∈ g_tb := g_in 1578 (by decide +kernel) rfl
theorem m_1579 : Cond.static yX12_bits ∈ g_tb := g_in 1579 (by decide +kernel) rfl
theorem m_1580 : Cond.code yX12_bits cX12_bits 3 (some .int) ∈ g_tb := g_in 1580 (by decide +kernel) rfl
theorem m_1585 : Cond.constant RX12 395 100000 ∈ g_tb := g_in 1585 (by decide +kernel) rfl
theorem m_1598 : Cond.constantLong RX12 396 2 ∈ g_tb := g_in 1598 (by decide +kernel) rfl
theorem m_1599 : Cond.methodLink RX12 398 yX12_allHolds ∈ g_tb := g_in 1599 (by decide +kernel) rfl
theorem m_1601 : Cond.instanceMethod yX12_allHolds ∈ g_tb := g_in 1601 (by decide +kernel) rfl
theorem m_1602 : Cond.code yX12_allHolds cX12_allHolds 3 (some .int) ∈ g_tb := g_in 1602 (by decide +kernel) rfl
theorem m_1611 : Cond.methodLink RX12 401 yX12_areParted ∈ g_tb := g_in 1611 (by decide +kernel) rfl
theorem m_1613 : Cond.instanceMethod yX12_areParted ∈ g_tb := g_in 1613 (by decide +kernel) rfl
theorem m_1614 : Cond.code yX12_areParted cX12_areParted 7 (some .boolean) ∈ g_tb := g_in 1614 (by decide +kernel) rfl
theorem m_1619 : Cond.methodLink RX12 419 yX12_gathersWays ∈ g_tb := g_in 1619 (by decide +kernel) rfl
theorem m_1621 : Cond.instanceMethod yX12_gathersWays ∈ g_tb := g_in 1621 (by decide +kernel) rfl
theorem m_1622 : Cond.code yX12_gathersWays cX12_gathersWays 5 none ∈ g_tb := g_in 1622 (by decide +kernel) rfl
theorem m_1623 : Cond.methodLink RX12 407 yX12_countsWay ∈ g_tb := g_in 1623 (by decide +kernel) rfl
theorem m_1625 : Cond.instanceMethod yX12_countsWay ∈ g_tb := g_in 1625 (by decide +kernel) rfl
theorem m_1626 : Cond.code yX12_countsWay cX12_countsWay 2 none ∈ g_tb := g_in 1626 (by decide +kernel) rfl
theorem m_1627 : Cond.methodLink RX12 410 yX12_isWrong ∈ g_tb := g_in 1627 (by decide +kernel) rfl
theorem m_1629 : Cond.instanceMethod yX12_isWrong ∈ g_tb := g_in 1629 (by decide +kernel) rfl
theorem m_1630 : Cond.code yX12_isWrong cX12_isWrong 3 (some .boolean) ∈ g_tb := g_in 1630 (by decide +kernel) rfl
theorem m_1631 : Cond.methodLink RX12 413 yX12_canHave ∈ g_tb := g_in 1631 (by decide +kernel) rfl
theorem m_1633 : Cond.instanceMethod yX12_canHave ∈ g_tb := g_in 1633 (by decide +kernel) rfl
theorem m_1634 : Cond.code yX12_canHave cX12_canHave 4 (some .boolean) ∈ g_tb := g_in 1634 (by decide +kernel) rfl
theorem m_1635 : Cond.methodLink RX12 416 yX12_isRound ∈ g_tb := g_in 1635 (by decide +kernel) rfl
theorem m_1637 : Cond.instanceMethod yX12_isRound ∈ g_tb := g_in 1637 (by decide +kernel) rfl
theorem m_1638 : Cond.code yX12_isRound cX12_isRound 5 (some .boolean) ∈ g_tb := g_in 1638 (by decide +kernel) rfl
theorem m_1647 : Cond.constantLong RX12 422 40 ∈ g_tb := g_in 1647 (by decide +kernel) rfl
theorem m_1648 : Cond.methodLink RX12 424 yX12_promptsYear ∈ g_tb := g_in 1648 (by decide +kernel) rfl
theorem m_1650 : Cond.instanceMethod yX12_promptsYear ∈ g_tb := g_in 1650 (by decide +kernel) rfl
theorem m_1651 : Cond.code yX12_promptsYear cX12_promptsYear 5 none ∈ g_tb := g_in 1651 (by decide +kernel) rfl
theorem m_1664 : Cond.constantLong RX12 445 10 ∈ g_tb := g_in 1664 (by decide +kernel) rfl
theorem m_1665 : Cond.constantLong RX12 447 60 ∈ g_tb := g_in 1665 (by decide +kernel) rfl
theorem m_1666 : Cond.methodLink RX12 449 yX12_drinks ∈ g_tb := g_in 1666 (by decide +kernel) rfl
theorem m_1668 : Cond.instanceMethod yX12_drinks ∈ g_tb := g_in 1668 (by decide +kernel) rfl
theorem m_1669 : Cond.code yX12_drinks cX12_drinks 3 none ∈ g_tb := g_in 1669 (by decide +kernel) rfl
theorem m_1670 : Cond.methodLink RX12 442 yX12_draw ∈ g_tb := g_in 1670 (by decide +kernel) rfl
theorem m_1672 : Cond.instanceMethod yX12_draw ∈ g_tb := g_in 1672 (by decide +kernel) rfl
theorem m_1673 : Cond.code yX12_draw cX12_draw 2 (some .int) ∈ g_tb := g_in 1673 (by decide +kernel) rfl
theorem m_1674 : Cond.constantLong RX12 434 1103515245 ∈ g_tb := g_in 1674 (by decide +kernel) rfl
theorem m_1675 : Cond.constantLong RX12 436 12345 ∈ g_tb := g_in 1675 (by decide +kernel) rfl
theorem m_1676 : Cond.constantLong RX12 438 2147483648 ∈ g_tb := g_in 1676 (by decide +kernel) rfl
theorem m_1677 : Cond.constantLong RX12 440 65536 ∈ g_tb := g_in 1677 (by decide +kernel) rfl
theorem m_1678 : Cond.methodLink RX12 452 yX12_standing ∈ g_tb := g_in 1678 (by decide +kernel) rfl
theorem m_1680 : Cond.instanceMethod yX12_standing ∈ g_tb := g_in 1680 (by decide +kernel) rfl
theorem m_1681 : Cond.code yX12_standing cX12_standing 3 (some .int) ∈ g_tb := g_in 1681 (by decide +kernel) rfl
theorem m_1690 : Cond.constantLong RX12 455 3 ∈ g_tb := g_in 1690 (by decide +kernel) rfl
theorem fi_0_0 : (g_T 0 0).1 = RX0 ∧ (g_T 0 0).2.2.2 = true := ⟨rfl, rfl⟩
theorem fi_0_1 : (g_T 0 1).2.2.2 = false := rfl
theorem fi_10_0 : (g_T 10 0).1 = RX10 ∧ (g_T 10 0).2.2.2 = true := ⟨rfl, rfl⟩
theorem fi_10_1 : (g_T 10 1).1 = RX10 ∧ (g_T 10 1).2.2.2 = true := ⟨rfl, rfl⟩
theorem fi_11_0 : (g_T 11 0).1 = RX11 ∧ (g_T 11 0).2.2.2 = true := ⟨rfl, rfl⟩
theorem fi_11_1 : (g_T 11 1).1 = RX11 ∧ (g_T 11 1).2.2.2 = true := ⟨rfl, rfl⟩
theorem fi_11_10 : (g_T 11 10).1 = RX11 ∧ (g_T 11 10).2.2.2 = true := ⟨rfl, rfl⟩
theorem fi_11_11 : (g_T 11 11).2.2.2 = false := rfl
theorem fi_11_12 : (g_T 11 12).2.2.2 = false := rfl
theorem fi_11_13 : (g_T 11 13).2.2.2 = false := rfl
theorem fi_11_14 : (g_T 11 14).2.2.2 = false := rfl
theorem fi_11_2 : (g_T 11 2).1 = RX11 ∧ (g_T 11 2).2.2.2 = true := ⟨rfl, rfl⟩
theorem fi_11_3 : (g_T 11 3).1 = RX11 ∧ (g_T 11 3).2.2.2 = true := ⟨rfl, rfl⟩
theorem fi_11_4 : (g_T 11 4).1 = RX11 ∧ (g_T 11 4).2.2.2 = true := ⟨rfl, rfl⟩
theorem fi_11_5 : (g_T 11 5).1 = RX11 ∧ (g_T 11 5).2.2.2 = true := ⟨rfl, rfl⟩
theorem fi_11_6 : (g_T 11 6).1 = RX11 ∧ (g_T 11 6).2.2.2 = true := ⟨rfl, rfl⟩
theorem fi_11_7 : (g_T 11 7).1 = RX11 ∧ (g_T 11 7).2.2.2 = true := ⟨rfl, rfl⟩
theorem fi_11_8 : (g_T 11 8).1 = RX11 ∧ (g_T 11 8).2.2.2 = true := ⟨rfl, rfl⟩
theorem fi_11_9 : (g_T 11 9).1 = RX11 ∧ (g_T 11 9).2.2.2 = true := ⟨rfl, rfl⟩
theorem fi_12_0 : (g_T 12 0).1 = RX12 ∧ (g_T 12 0).2.2.2 = true := ⟨rfl, rfl⟩
theorem fi_12_1 : (g_T 12 1).2.2.2 = false := rfl
theorem fi_12_10 : (g_T 12 10).2.2.2 = false := rfl
theorem fi_12_11 : (g_T 12 11).2.2.2 = false := rfl
theorem fi_12_12 : (g_T 12 12).2.2.2 = false := rfl
theorem fi_12_13 : (g_T 12 13).2.2.2 = false := rfl
theorem fi_12_14 : (g_T 12 14).2.2.2 = false := rfl
theorem fi_12_15 : (g_T 12 15).1 = RX12 ∧ (g_T 12 15).2.2.2 = true := ⟨rfl, rfl⟩
theorem fi_12_16 : (g_T 12 16).2.2.2 = false := rfl
theorem fi_12_17 : (g_T 12 17).1 = RX12 ∧ (g_T 12 17).2.2.2 = true := ⟨rfl, rfl⟩
theorem fi_12_18 : (g_T 12 18).2.2.2 = false := rfl
theorem fi_12_19 : (g_T 12 19).1 = RX12 ∧ (g_T 12 19).2.2.2 = true := ⟨rfl, rfl⟩
theorem fi_12_2 : (g_T 12 2).2.2.2 = false := rfl
theorem fi_12_20 : (g_T 12 20).1 = RX12 ∧ (g_T 12 20).2.2.2 = true := ⟨rfl, rfl⟩
theorem fi_12_21 : (g_T 12 21).2.2.2 = false := rfl
theorem fi_12_22 : (g_T 12 22).2.2.2 = false := rfl
theorem fi_12_23 : (g_T 12 23).1 = RX12 ∧ (g_T 12 23).2.2.2 = true := ⟨rfl, rfl⟩
theorem fi_12_24 : (g_T 12 24).1 = RX12 ∧ (g_T 12 24).2.2.2 = true := ⟨rfl, rfl⟩
theorem fi_12_25 : (g_T 12 25).2.2.2 = false := rfl
theorem fi_12_26 : (g_T 12 26).1 = RX12 ∧ (g_T 12 26).2.2.2 = true := ⟨rfl, rfl⟩
theorem fi_12_27 : (g_T 12 27).1 = RX12 ∧ (g_T 12 27).2.2.2 = true := ⟨rfl, rfl⟩
theorem fi_12_28 : (g_T 12 28).1 = RX12 ∧ (g_T 12 28).2.2.2 = true := ⟨rfl, rfl⟩
theorem fi_12_29 : (g_T 12 29).2.2.2 = false := rfl
theorem fi_12_3 : (g_T 12 3).1 = RX12 ∧ (g_T 12 3).2.2.2 = true := ⟨rfl, rfl⟩
theorem fi_12_30 : (g_T 12 30).1 = RX12 ∧ (g_T 12 30).2.2.2 = true := ⟨rfl, rfl⟩
theorem fi_12_31 : (g_T 12 31).1 = RX12 ∧ (g_T 12 31).2.2.2 = true := ⟨rfl, rfl⟩
theorem fi_12_32 : (g_T 12 32).2.2.2 = false := rfl
theorem fi_12_33 : (g_T 12 33).1 = RX12 ∧ (g_T 12 33).2.2.2 = true := ⟨rfl, rfl⟩
theorem fi_12_34 : (g_T 12 34).1 = RX12 ∧ (g_T 12 34).2.2.2 = true := ⟨rfl, rfl⟩
theorem fi_12_35 : (g_T 12 35).1 = RX12 ∧ (g_T 12 35).2.2.2 = true := ⟨rfl, rfl⟩
theorem fi_12_36 : (g_T 12 36).1 = RX12 ∧ (g_T 12 36).2.2.2 = true := ⟨rfl, rfl⟩
theorem fi_12_4 : (g_T 12 4).1 = RX12 ∧ (g_T 12 4).2.2.2 = true := ⟨rfl, rfl⟩
theorem fi_12_5 : (g_T 12 5).1 = RX12 ∧ (g_T 12 5).2.2.2 = true := ⟨rfl, rfl⟩
theorem fi_12_6 : (g_T 12 6).1 = RX12 ∧ (g_T 12 6).2.2.2 = true := ⟨rfl, rfl⟩
theorem fi_12_7 : (g_T 12 7).1 = RX12 ∧ (g_T 12 7).2.2.2 = true := ⟨rfl, rfl⟩
theorem fi_12_8 : (g_T 12 8).2.2.2 = false := rfl
theorem fi_12_9 : (g_T 12 9).2.2.2 = false := rfl
theorem fi_1_0 : (g_T 1 0).1 = RX1 ∧ (g_T 1 0).2.2.2 = true := ⟨rfl, rfl⟩
theorem fi_1_1 : (g_T 1 1).1 = RX1 ∧ (g_T 1 1).2.2.2 = true := ⟨rfl, rfl⟩
theorem fi_1_10 : (g_T 1 10).2.2.2 = false := rfl
theorem fi_1_2 : (g_T 1 2).1 = RX1 ∧ (g_T 1 2).2.2.2 = true := ⟨rfl, rfl⟩
theorem fi_1_3 : (g_T 1 3).1 = RX1 ∧ (g_T 1 3).2.2.2 = true := ⟨rfl, rfl⟩
theorem fi_1_4 : (g_T 1 4).1 = RX1 ∧ (g_T 1 4).2.2.2 = true := ⟨rfl, rfl⟩
theorem fi_1_5 : (g_T 1 5).2.2.2 = false := rfl
theorem fi_1_6 : (g_T 1 6).2.2.2 = false := rfl
theorem fi_1_7 : (g_T 1 7).2.2.2 = false := rfl
theorem fi_1_8 : (g_T 1 8).2.2.2 = false := rfl
theorem fi_1_9 : (g_T 1 9).2.2.2 = false := rfl
theorem fi_2_0 : (g_T 2 0).1 = RX2 ∧ (g_T 2 0).2.2.2 = true := ⟨rfl, rfl⟩
theorem fi_2_1 : (g_T 2 1).2.2.2 = false := rfl
theorem fi_2_2 : (g_T 2 2).1 = RX2 ∧ (g_T 2 2).2.2.2 = true := ⟨rfl, rfl⟩
theorem fi_3_0 : (g_T 3 0).1 = RX3 ∧ (g_T 3 0).2.2.2 = true := ⟨rfl, rfl⟩
theorem fi_3_1 : (g_T 3 1).2.2.2 = false := rfl
theorem fi_3_2 : (g_T 3 2).2.2.2 = false := rfl
theorem fi_3_3 : (g_T 3 3).2.2.2 = false := rfl
theorem fi_4_0 : (g_T 4 0).1 = RX4 ∧ (g_T 4 0).2.2.2 = true := ⟨rfl, rfl⟩
theorem fi_4_1 : (g_T 4 1).2.2.2 = false := rfl
theorem fi_4_2 : (g_T 4 2).2.2.2 = false := rfl
theorem fi_5_0 : (g_T 5 0).1 = RX5 ∧ (g_T 5 0).2.2.2 = true := ⟨rfl, rfl⟩
theorem fi_5_1 : (g_T 5 1).1 = RX5 ∧ (g_T 5 1).2.2.2 = true := ⟨rfl, rfl⟩
theorem fi_5_2 : (g_T 5 2).2.2.2 = false := rfl
theorem fi_6_0 : (g_T 6 0).1 = RX6 ∧ (g_T 6 0).2.2.2 = true := ⟨rfl, rfl⟩
theorem fi_6_1 : (g_T 6 1).1 = RX6 ∧ (g_T 6 1).2.2.2 = true := ⟨rfl, rfl⟩
theorem fi_7_0 : (g_T 7 0).1 = RX7 ∧ (g_T 7 0).2.2.2 = true := ⟨rfl, rfl⟩
theorem fi_7_1 : (g_T 7 1).1 = RX7 ∧ (g_T 7 1).2.2.2 = true := ⟨rfl, rfl⟩
theorem fi_7_2 : (g_T 7 2).1 = RX7 ∧ (g_T 7 2).2.2.2 = true := ⟨rfl, rfl⟩
theorem fi_7_3 : (g_T 7 3).2.2.2 = false := rfl
theorem fi_7_4 : (g_T 7 4).2.2.2 = false := rfl
theorem fi_7_5 : (g_T 7 5).2.2.2 = false := rfl
theorem fi_8_0 : (g_T 8 0).1 = RX8 ∧ (g_T 8 0).2.2.2 = true := ⟨rfl, rfl⟩
theorem fi_8_1 : (g_T 8 1).1 = RX8 ∧ (g_T 8 1).2.2.2 = true := ⟨rfl, rfl⟩
theorem fi_8_2 : (g_T 8 2).1 = RX8 ∧ (g_T 8 2).2.2.2 = true := ⟨rfl, rfl⟩
theorem fi_8_3 : (g_T 8 3).1 = RX8 ∧ (g_T 8 3).2.2.2 = true := ⟨rfl, rfl⟩
theorem fi_8_4 : (g_T 8 4).2.2.2 = false := rfl
theorem fi_8_5 : (g_T 8 5).2.2.2 = false := rfl
theorem fi_8_6 : (g_T 8 6).2.2.2 = false := rfl
theorem fi_9_0 : (g_T 9 0).1 = RX9 ∧ (g_T 9 0).2.2.2 = true := ⟨rfl, rfl⟩
theorem fi_9_1 : (g_T 9 1).1 = RX9 ∧ (g_T 9 1).2.2.2 = true := ⟨rfl, rfl⟩
theorem fi_9_2 : (g_T 9 2).1 = RX9 ∧ (g_T 9 2).2.2.2 = true := ⟨rfl, rfl⟩
theorem fi_9_3 : (g_T 9 3).1 = RX9 ∧ (g_T 9 3).2.2.2 = true := ⟨rfl, rfl⟩
theorem fi_9_4 : (g_T 9 4).2.2.2 = false := rfl
theorem fi_9_5 : (g_T 9 5).2.2.2 = false := rfl
theorem fi_9_6 : (g_T 9 6).2.2.2 = false := rfl
theorem fi_9_7 : (g_T 9 7).2.2.2 = false := rfl
theorem ty_0_0 : g_ty 0 0 = .array .long := rfl
theorem ty_0_1 : g_ty 0 1 = .int := rfl
theorem ty_10_0 : g_ty 10 0 = .array .int := rfl
theorem ty_10_1 : g_ty 10 1 = .object "ForgetHeirs$Reckoner" := rfl
theorem ty_11_0 : g_ty 11 0 = .object "ForgetHeirs$Tape" := rfl
theorem ty_11_1 : g_ty 11 1 = .object "ForgetHeirs$HouseReader" := rfl
theorem ty_11_10 : g_ty 11 10 = .object "ForgetHeirs$Forests" := rfl
theorem ty_11_11 : g_ty 11 11 = .object "ForgetHeirs$House" := rfl
theorem ty_11_12 : g_ty 11 12 = .int := rfl
theorem ty_11_13 : g_ty 11 13 = .int := rfl
theorem ty_11_14 : g_ty 11 14 = .int := rfl
theorem ty_11_2 : g_ty 11 2 = .object "ForgetHeirs$RuleReader" := rfl
theorem ty_11_3 : g_ty 11 3 = .array (.object "ForgetHeirs$Rule") := rfl
theorem ty_11_4 : g_ty 11 4 = .object "ForgetHeirs$Years" := rfl
theorem ty_11_5 : g_ty 11 5 = .object "ForgetHeirs$State" := rfl
theorem ty_11_6 : g_ty 11 6 = .object "ForgetHeirs$State" := rfl
theorem ty_11_7 : g_ty 11 7 = .object "ForgetHeirs$Past" := rfl
theorem ty_11_8 : g_ty 11 8 = .array (.object "ForgetHeirs$Image") := rfl
theorem ty_11_9 : g_ty 11 9 = .array .int := rfl
theorem ty_12_0 : g_ty 12 0 = .array .byte := rfl
theorem ty_12_1 : g_ty 12 1 = .int := rfl
theorem ty_12_10 : g_ty 12 10 = .int := rfl
theorem ty_12_11 : g_ty 12 11 = .int := rfl
theorem ty_12_12 : g_ty 12 12 = .int := rfl
theorem ty_12_13 : g_ty 12 13 = .int := rfl
theorem ty_12_14 : g_ty 12 14 = .int := rfl
theorem ty_12_15 : g_ty 12 15 = .array .int := rfl
theorem ty_12_16 : g_ty 12 16 = .int := rfl
theorem ty_12_17 : g_ty 12 17 = .array .long := rfl
theorem ty_12_18 : g_ty 12 18 = .int := rfl
theorem ty_12_19 : g_ty 12 19 = .array .long := rfl
theorem ty_12_2 : g_ty 12 2 = .int := rfl
theorem ty_12_20 : g_ty 12 20 = .array .int := rfl
theorem ty_12_21 : g_ty 12 21 = .int := rfl
theorem ty_12_22 : g_ty 12 22 = .int := rfl
theorem ty_12_23 : g_ty 12 23 = .array .int := rfl
theorem ty_12_24 : g_ty 12 24 = .array .int := rfl
theorem ty_12_25 : g_ty 12 25 = .int := rfl
theorem ty_12_26 : g_ty 12 26 = .array .int := rfl
theorem ty_12_27 : g_ty 12 27 = .array .int := rfl
theorem ty_12_28 : g_ty 12 28 = .array .int := rfl
theorem ty_12_29 : g_ty 12 29 = .int := rfl
theorem ty_12_3 : g_ty 12 3 = .array .int := rfl
theorem ty_12_30 : g_ty 12 30 = .array .int := rfl
theorem ty_12_31 : g_ty 12 31 = .array .int := rfl
theorem ty_12_32 : g_ty 12 32 = .long := rfl
theorem ty_12_33 : g_ty 12 33 = .array .int := rfl
theorem ty_12_34 : g_ty 12 34 = .array .int := rfl
theorem ty_12_35 : g_ty 12 35 = .array .int := rfl
theorem ty_12_36 : g_ty 12 36 = .array .boolean := rfl
theorem ty_12_4 : g_ty 12 4 = .array .int := rfl
theorem ty_12_5 : g_ty 12 5 = .array .int := rfl
theorem ty_12_6 : g_ty 12 6 = .array .int := rfl
theorem ty_12_7 : g_ty 12 7 = .array .int := rfl
theorem ty_12_8 : g_ty 12 8 = .int := rfl
theorem ty_12_9 : g_ty 12 9 = .int := rfl
theorem ty_1_0 : g_ty 1 0 = .array .int := rfl
theorem ty_1_1 : g_ty 1 1 = .array .int := rfl
theorem ty_1_10 : g_ty 1 10 = .int := rfl
theorem ty_1_2 : g_ty 1 2 = .array .int := rfl
theorem ty_1_3 : g_ty 1 3 = .array .int := rfl
theorem ty_1_4 : g_ty 1 4 = .array .int := rfl
theorem ty_1_5 : g_ty 1 5 = .boolean := rfl
theorem ty_1_6 : g_ty 1 6 = .int := rfl
theorem ty_1_7 : g_ty 1 7 = .int := rfl
theorem ty_1_8 : g_ty 1 8 = .int := rfl
theorem ty_1_9 : g_ty 1 9 = .int := rfl
theorem ty_2_0 : g_ty 2 0 = .object "ForgetHeirs$Tape" := rfl
theorem ty_2_1 : g_ty 2 1 = .object "ForgetHeirs$House" := rfl
theorem ty_2_2 : g_ty 2 2 = .object "ForgetHeirs$State" := rfl
theorem ty_3_0 : g_ty 3 0 = .object "ForgetHeirs$State" := rfl
theorem ty_3_1 : g_ty 3 1 = .object "ForgetHeirs$House" := rfl
theorem ty_3_2 : g_ty 3 2 = .int := rfl
theorem ty_3_3 : g_ty 3 3 = .int := rfl
theorem ty_4_0 : g_ty 4 0 = .array (.object "ForgetHeirs$State") := rfl
theorem ty_4_1 : g_ty 4 1 = .int := rfl
theorem ty_4_2 : g_ty 4 2 = .int := rfl
theorem ty_5_0 : g_ty 5 0 = .array .long := rfl
theorem ty_5_1 : g_ty 5 1 = .array .long := rfl
theorem ty_5_2 : g_ty 5 2 = .int := rfl
theorem ty_6_0 : g_ty 6 0 = .array .int := rfl
theorem ty_6_1 : g_ty 6 1 = .array .int := rfl
theorem ty_7_0 : g_ty 7 0 = .object "ForgetHeirs$Tape" := rfl
theorem ty_7_1 : g_ty 7 1 = .array .int := rfl
theorem ty_7_2 : g_ty 7 2 = .array .int := rfl
theorem ty_7_3 : g_ty 7 3 = .int := rfl
theorem ty_7_4 : g_ty 7 4 = .int := rfl
theorem ty_7_5 : g_ty 7 5 = .int := rfl
theorem ty_8_0 : g_ty 8 0 = .array .int := rfl
theorem ty_8_1 : g_ty 8 1 = .array .int := rfl
theorem ty_8_2 : g_ty 8 2 = .array .int := rfl
theorem ty_8_3 : g_ty 8 3 = .array .int := rfl
theorem ty_8_4 : g_ty 8 4 = .int := rfl
theorem ty_8_5 : g_ty 8 5 = .int := rfl
theorem ty_8_6 : g_ty 8 6 = .int := rfl
theorem ty_9_0 : g_ty 9 0 = .array .byte := rfl
theorem ty_9_1 : g_ty 9 1 = .array .int := rfl
theorem ty_9_2 : g_ty 9 2 = .array .int := rfl
theorem ty_9_3 : g_ty 9 3 = .array .int := rfl
theorem ty_9_4 : g_ty 9 4 = .int := rfl
theorem ty_9_5 : g_ty 9 5 = .int := rfl
theorem ty_9_6 : g_ty 9 6 = .int := rfl
theorem ty_9_7 : g_ty 9 7 = .int := rfl
theorem f_X0_15 : g_Fld RX0 15 0 1 := ⟨g_cok0, by decide, g_in 254 (by decide +kernel) rfl⟩
theorem f_X0_9 : g_Fld RX0 9 0 0 := ⟨g_cok0, by decide, g_in 253 (by decide +kernel) rfl⟩
theorem f_X10_18 : g_Fld RX10 18 10 1 := ⟨g_cok10, by decide, g_in 172 (by decide +kernel) rfl⟩
theorem f_X10_30 : g_Fld RX10 30 1 7 := ⟨g_cok1, by decide, g_in 294 (by decide +kernel) rfl⟩
theorem f_X10_36 : g_Fld RX10 36 8 2 := ⟨g_cok8, by decide, g_in 192 (by decide +kernel) rfl⟩
theorem f_X10_51 : g_Fld RX10 51 8 5 := ⟨g_cok8, by decide, g_in 204 (by decide +kernel) rfl⟩
theorem f_X10_54 : g_Fld RX10 54 1 6 := ⟨g_cok1, by decide, g_in 289 (by decide +kernel) rfl⟩
theorem f_X10_57 : g_Fld RX10 57 8 1 := ⟨g_cok8, by decide, g_in 189 (by decide +kernel) rfl⟩
theorem f_X10_60 : g_Fld RX10 60 8 4 := ⟨g_cok8, by decide, g_in 201 (by decide +kernel) rfl⟩
theorem f_X10_87 : g_Fld RX10 87 8 3 := ⟨g_cok8, by decide, g_in 197 (by decide +kernel) rfl⟩
theorem f_X10_9 : g_Fld RX10 9 10 0 := ⟨g_cok10, by decide, g_in 171 (by decide +kernel) rfl⟩
theorem f_X11_108 : g_Fld RX11 108 9 7 := ⟨g_cok9, by decide, g_in 347 (by decide +kernel) rfl⟩
theorem f_X11_11 : g_Fld RX11 11 11 3 := ⟨g_cok11, by decide, g_in 439 (by decide +kernel) rfl⟩
theorem f_X11_111 : g_Fld RX11 111 2 2 := ⟨g_cok2, by decide, g_in 379 (by decide +kernel) rfl⟩
theorem f_X11_121 : g_Fld RX11 121 1 7 := ⟨g_cok1, by decide, g_in 295 (by decide +kernel) rfl⟩
theorem f_X11_131 : g_Fld RX11 131 8 2 := ⟨g_cok8, by decide, g_in 194 (by decide +kernel) rfl⟩
theorem f_X11_134 : g_Fld RX11 134 1 3 := ⟨g_cok1, by decide, g_in 280 (by decide +kernel) rfl⟩
theorem f_X11_137 : g_Fld RX11 137 1 10 := ⟨g_cok1, by decide, g_in 308 (by decide +kernel) rfl⟩
theorem f_X11_144 : g_Fld RX11 144 1 4 := ⟨g_cok1, by decide, g_in 283 (by decide +kernel) rfl⟩
theorem f_X11_157 : g_Fld RX11 157 1 0 := ⟨g_cok1, by decide, g_in 270 (by decide +kernel) rfl⟩
theorem f_X11_160 : g_Fld RX11 160 1 1 := ⟨g_cok1, by decide, g_in 273 (by decide +kernel) rfl⟩
theorem f_X11_163 : g_Fld RX11 163 1 2 := ⟨g_cok1, by decide, g_in 277 (by decide +kernel) rfl⟩
theorem f_X11_166 : g_Fld RX11 166 1 9 := ⟨g_cok1, by decide, g_in 304 (by decide +kernel) rfl⟩
theorem f_X11_169 : g_Fld RX11 169 8 4 := ⟨g_cok8, by decide, g_in 202 (by decide +kernel) rfl⟩
theorem f_X11_172 : g_Fld RX11 172 8 3 := ⟨g_cok8, by decide, g_in 198 (by decide +kernel) rfl⟩
theorem f_X11_178 : g_Fld RX11 178 8 1 := ⟨g_cok8, by decide, g_in 190 (by decide +kernel) rfl⟩
theorem f_X11_18 : g_Fld RX11 18 11 4 := ⟨g_cok11, by decide, g_in 440 (by decide +kernel) rfl⟩
theorem f_X11_181 : g_Fld RX11 181 8 0 := ⟨g_cok8, by decide, g_in 186 (by decide +kernel) rfl⟩
theorem f_X11_184 : g_Fld RX11 184 1 6 := ⟨g_cok1, by decide, g_in 292 (by decide +kernel) rfl⟩
theorem f_X11_187 : g_Fld RX11 187 1 8 := ⟨g_cok1, by decide, g_in 300 (by decide +kernel) rfl⟩
theorem f_X11_190 : g_Fld RX11 190 8 5 := ⟨g_cok8, by decide, g_in 206 (by decide +kernel) rfl⟩
theorem f_X11_193 : g_Fld RX11 193 8 6 := ⟨g_cok8, by decide, g_in 209 (by decide +kernel) rfl⟩
theorem f_X11_203 : g_Fld RX11 203 4 2 := ⟨g_cok4, by decide, g_in 237 (by decide +kernel) rfl⟩
theorem f_X11_204 : g_Fld RX11 204 1 5 := ⟨g_cok1, by decide, g_in 287 (by decide +kernel) rfl⟩
theorem f_X11_25 : g_Fld RX11 25 11 5 := ⟨g_cok11, by decide, g_in 441 (by decide +kernel) rfl⟩
theorem f_X11_29 : g_Fld RX11 29 11 6 := ⟨g_cok11, by decide, g_in 442 (by decide +kernel) rfl⟩
theorem f_X11_324 : g_Fld RX11 324 3 1 := ⟨g_cok3, by decide, g_in 422 (by decide +kernel) rfl⟩
theorem f_X11_325 : g_Fld RX11 325 3 0 := ⟨g_cok3, by decide, g_in 420 (by decide +kernel) rfl⟩
theorem f_X11_326 : g_Fld RX11 326 3 2 := ⟨g_cok3, by decide, g_in 424 (by decide +kernel) rfl⟩
theorem f_X11_327 : g_Fld RX11 327 3 3 := ⟨g_cok3, by decide, g_in 426 (by decide +kernel) rfl⟩
theorem f_X11_35 : g_Fld RX11 35 11 7 := ⟨g_cok11, by decide, g_in 443 (by decide +kernel) rfl⟩
theorem f_X11_41 : g_Fld RX11 41 11 8 := ⟨g_cok11, by decide, g_in 444 (by decide +kernel) rfl⟩
theorem f_X11_45 : g_Fld RX11 45 11 9 := ⟨g_cok11, by decide, g_in 445 (by decide +kernel) rfl⟩
theorem f_X11_52 : g_Fld RX11 52 11 10 := ⟨g_cok11, by decide, g_in 446 (by decide +kernel) rfl⟩
theorem f_X11_59 : g_Fld RX11 59 11 11 := ⟨g_cok11, by decide, g_in 447 (by decide +kernel) rfl⟩
theorem f_X11_63 : g_Fld RX11 63 11 12 := ⟨g_cok11, by decide, g_in 448 (by decide +kernel) rfl⟩
theorem f_X11_67 : g_Fld RX11 67 11 13 := ⟨g_cok11, by decide, g_in 449 (by decide +kernel) rfl⟩
theorem f_X11_70 : g_Fld RX11 70 11 14 := ⟨g_cok11, by decide, g_in 450 (by decide +kernel) rfl⟩
theorem f_X11_76 : g_Fld RX11 76 11 0 := ⟨g_cok11, by decide, g_in 436 (by decide +kernel) rfl⟩
theorem f_X11_85 : g_Fld RX11 85 11 1 := ⟨g_cok11, by decide, g_in 437 (by decide +kernel) rfl⟩
theorem f_X11_92 : g_Fld RX11 92 11 2 := ⟨g_cok11, by decide, g_in 438 (by decide +kernel) rfl⟩
theorem f_X11_97 : g_Fld RX11 97 9 6 := ⟨g_cok9, by decide, g_in 345 (by decide +kernel) rfl⟩
theorem f_X12_115 : g_Fld RX12 115 12 10 := ⟨g_cok12, by decide, g_in 1112 (by decide +kernel) rfl⟩
theorem f_X12_13 : g_Fld RX12 13 12 3 := ⟨g_cok12, by decide, g_in 1105 (by decide +kernel) rfl⟩
theorem f_X12_150 : g_Fld RX12 150 12 11 := ⟨g_cok12, by decide, g_in 1113 (by decide +kernel) rfl⟩
theorem f_X12_153 : g_Fld RX12 153 12 12 := ⟨g_cok12, by decide, g_in 1114 (by decide +kernel) rfl⟩
theorem f_X12_156 : g_Fld RX12 156 12 13 := ⟨g_cok12, by decide, g_in 1115 (by decide +kernel) rfl⟩
theorem f_X12_159 : g_Fld RX12 159 12 16 := ⟨g_cok12, by decide, g_in 1118 (by decide +kernel) rfl⟩
theorem f_X12_17 : g_Fld RX12 17 12 4 := ⟨g_cok12, by decide, g_in 1106 (by decide +kernel) rfl⟩
theorem f_X12_20 : g_Fld RX12 20 12 5 := ⟨g_cok12, by decide, g_in 1107 (by decide +kernel) rfl⟩
theorem f_X12_23 : g_Fld RX12 23 12 6 := ⟨g_cok12, by decide, g_in 1108 (by decide +kernel) rfl⟩
theorem f_X12_26 : g_Fld RX12 26 12 7 := ⟨g_cok12, by decide, g_in 1109 (by decide +kernel) rfl⟩
theorem f_X12_261 : g_Fld RX12 261 12 14 := ⟨g_cok12, by decide, g_in 1116 (by decide +kernel) rfl⟩
theorem f_X12_273 : g_Fld RX12 273 12 2 := ⟨g_cok12, by decide, g_in 1104 (by decide +kernel) rfl⟩
theorem f_X12_279 : g_Fld RX12 279 12 25 := ⟨g_cok12, by decide, g_in 1127 (by decide +kernel) rfl⟩
theorem f_X12_282 : g_Fld RX12 282 12 18 := ⟨g_cok12, by decide, g_in 1120 (by decide +kernel) rfl⟩
theorem f_X12_29 : g_Fld RX12 29 12 15 := ⟨g_cok12, by decide, g_in 1117 (by decide +kernel) rfl⟩
theorem f_X12_32 : g_Fld RX12 32 12 17 := ⟨g_cok12, by decide, g_in 1119 (by decide +kernel) rfl⟩
theorem f_X12_36 : g_Fld RX12 36 12 19 := ⟨g_cok12, by decide, g_in 1121 (by decide +kernel) rfl⟩
theorem f_X12_39 : g_Fld RX12 39 12 20 := ⟨g_cok12, by decide, g_in 1122 (by decide +kernel) rfl⟩
theorem f_X12_404 : g_Fld RX12 404 12 29 := ⟨g_cok12, by decide, g_in 1131 (by decide +kernel) rfl⟩
theorem f_X12_42 : g_Fld RX12 42 12 21 := ⟨g_cok12, by decide, g_in 1123 (by decide +kernel) rfl⟩
theorem f_X12_427 : g_Fld RX12 427 12 22 := ⟨g_cok12, by decide, g_in 1124 (by decide +kernel) rfl⟩
theorem f_X12_430 : g_Fld RX12 430 12 32 := ⟨g_cok12, by decide, g_in 1134 (by decide +kernel) rfl⟩
theorem f_X12_46 : g_Fld RX12 46 12 23 := ⟨g_cok12, by decide, g_in 1125 (by decide +kernel) rfl⟩
theorem f_X12_49 : g_Fld RX12 49 12 24 := ⟨g_cok12, by decide, g_in 1126 (by decide +kernel) rfl⟩
theorem f_X12_52 : g_Fld RX12 52 12 26 := ⟨g_cok12, by decide, g_in 1128 (by decide +kernel) rfl⟩
theorem f_X12_55 : g_Fld RX12 55 12 27 := ⟨g_cok12, by decide, g_in 1129 (by decide +kernel) rfl⟩
theorem f_X12_58 : g_Fld RX12 58 12 28 := ⟨g_cok12, by decide, g_in 1130 (by decide +kernel) rfl⟩
theorem f_X12_61 : g_Fld RX12 61 12 30 := ⟨g_cok12, by decide, g_in 1132 (by decide +kernel) rfl⟩
theorem f_X12_64 : g_Fld RX12 64 12 31 := ⟨g_cok12, by decide, g_in 1133 (by decide +kernel) rfl⟩
theorem f_X12_67 : g_Fld RX12 67 12 33 := ⟨g_cok12, by decide, g_in 1135 (by decide +kernel) rfl⟩
theorem f_X12_7 : g_Fld RX12 7 12 0 := ⟨g_cok12, by decide, g_in 1102 (by decide +kernel) rfl⟩
theorem f_X12_70 : g_Fld RX12 70 12 34 := ⟨g_cok12, by decide, g_in 1136 (by decide +kernel) rfl⟩
theorem f_X12_73 : g_Fld RX12 73 12 35 := ⟨g_cok12, by decide, g_in 1137 (by decide +kernel) rfl⟩
theorem f_X12_76 : g_Fld RX12 76 12 36 := ⟨g_cok12, by decide, g_in 1138 (by decide +kernel) rfl⟩
theorem f_X12_80 : g_Fld RX12 80 12 1 := ⟨g_cok12, by decide, g_in 1103 (by decide +kernel) rfl⟩
theorem f_X12_87 : g_Fld RX12 87 12 9 := ⟨g_cok12, by decide, g_in 1111 (by decide +kernel) rfl⟩
theorem f_X12_90 : g_Fld RX12 90 12 8 := ⟨g_cok12, by decide, g_in 1110 (by decide +kernel) rfl⟩
theorem f_X1_15 : g_Fld RX1 15 1 1 := ⟨g_cok1, by decide, g_in 271 (by decide +kernel) rfl⟩
theorem f_X1_18 : g_Fld RX1 18 1 2 := ⟨g_cok1, by decide, g_in 275 (by decide +kernel) rfl⟩
theorem f_X1_21 : g_Fld RX1 21 1 3 := ⟨g_cok1, by decide, g_in 279 (by decide +kernel) rfl⟩
theorem f_X1_24 : g_Fld RX1 24 1 4 := ⟨g_cok1, by decide, g_in 282 (by decide +kernel) rfl⟩
theorem f_X1_27 : g_Fld RX1 27 1 5 := ⟨g_cok1, by decide, g_in 285 (by decide +kernel) rfl⟩
theorem f_X1_31 : g_Fld RX1 31 1 6 := ⟨g_cok1, by decide, g_in 288 (by decide +kernel) rfl⟩
theorem f_X1_35 : g_Fld RX1 35 1 7 := ⟨g_cok1, by decide, g_in 293 (by decide +kernel) rfl⟩
theorem f_X1_38 : g_Fld RX1 38 1 8 := ⟨g_cok1, by decide, g_in 298 (by decide +kernel) rfl⟩
theorem f_X1_41 : g_Fld RX1 41 1 9 := ⟨g_cok1, by decide, g_in 301 (by decide +kernel) rfl⟩
theorem f_X1_44 : g_Fld RX1 44 1 10 := ⟨g_cok1, by decide, g_in 305 (by decide +kernel) rfl⟩
theorem f_X1_9 : g_Fld RX1 9 1 0 := ⟨g_cok1, by decide, g_in 266 (by decide +kernel) rfl⟩
theorem f_X2_106 : g_Fld RX2 106 1 10 := ⟨g_cok1, by decide, g_in 307 (by decide +kernel) rfl⟩
theorem f_X2_115 : g_Fld RX2 115 1 0 := ⟨g_cok1, by decide, g_in 269 (by decide +kernel) rfl⟩
theorem f_X2_119 : g_Fld RX2 119 1 1 := ⟨g_cok1, by decide, g_in 274 (by decide +kernel) rfl⟩
theorem f_X2_12 : g_Fld RX2 12 2 1 := ⟨g_cok2, by decide, g_in 377 (by decide +kernel) rfl⟩
theorem f_X2_122 : g_Fld RX2 122 1 2 := ⟨g_cok1, by decide, g_in 278 (by decide +kernel) rfl⟩
theorem f_X2_125 : g_Fld RX2 125 8 2 := ⟨g_cok8, by decide, g_in 195 (by decide +kernel) rfl⟩
theorem f_X2_128 : g_Fld RX2 128 1 3 := ⟨g_cok1, by decide, g_in 281 (by decide +kernel) rfl⟩
theorem f_X2_131 : g_Fld RX2 131 1 4 := ⟨g_cok1, by decide, g_in 284 (by decide +kernel) rfl⟩
theorem f_X2_21 : g_Fld RX2 21 2 2 := ⟨g_cok2, by decide, g_in 378 (by decide +kernel) rfl⟩
theorem f_X2_25 : g_Fld RX2 25 2 0 := ⟨g_cok2, by decide, g_in 376 (by decide +kernel) rfl⟩
theorem f_X2_48 : g_Fld RX2 48 1 5 := ⟨g_cok1, by decide, g_in 286 (by decide +kernel) rfl⟩
theorem f_X2_76 : g_Fld RX2 76 1 6 := ⟨g_cok1, by decide, g_in 290 (by decide +kernel) rfl⟩
theorem f_X2_80 : g_Fld RX2 80 1 7 := ⟨g_cok1, by decide, g_in 296 (by decide +kernel) rfl⟩
theorem f_X2_83 : g_Fld RX2 83 1 8 := ⟨g_cok1, by decide, g_in 299 (by decide +kernel) rfl⟩
theorem f_X2_90 : g_Fld RX2 90 8 6 := ⟨g_cok8, by decide, g_in 208 (by decide +kernel) rfl⟩
theorem f_X2_96 : g_Fld RX2 96 1 9 := ⟨g_cok1, by decide, g_in 303 (by decide +kernel) rfl⟩
theorem f_X3_12 : g_Fld RX3 12 3 0 := ⟨g_cok3, by decide, g_in 419 (by decide +kernel) rfl⟩
theorem f_X3_18 : g_Fld RX3 18 3 1 := ⟨g_cok3, by decide, g_in 421 (by decide +kernel) rfl⟩
theorem f_X3_22 : g_Fld RX3 22 3 2 := ⟨g_cok3, by decide, g_in 423 (by decide +kernel) rfl⟩
theorem f_X3_26 : g_Fld RX3 26 3 3 := ⟨g_cok3, by decide, g_in 425 (by decide +kernel) rfl⟩
theorem f_X4_11 : g_Fld RX4 11 4 0 := ⟨g_cok4, by decide, g_in 234 (by decide +kernel) rfl⟩
theorem f_X4_15 : g_Fld RX4 15 4 1 := ⟨g_cok4, by decide, g_in 235 (by decide +kernel) rfl⟩
theorem f_X4_19 : g_Fld RX4 19 4 2 := ⟨g_cok4, by decide, g_in 236 (by decide +kernel) rfl⟩
theorem f_X5_11 : g_Fld RX5 11 5 0 := ⟨g_cok5, by decide, g_in 159 (by decide +kernel) rfl⟩
theorem f_X5_17 : g_Fld RX5 17 5 1 := ⟨g_cok5, by decide, g_in 160 (by decide +kernel) rfl⟩
theorem f_X5_20 : g_Fld RX5 20 5 2 := ⟨g_cok5, by decide, g_in 161 (by decide +kernel) rfl⟩
theorem f_X5_24 : g_Fld RX5 24 8 0 := ⟨g_cok8, by decide, g_in 185 (by decide +kernel) rfl⟩
theorem f_X5_30 : g_Fld RX5 30 1 0 := ⟨g_cok1, by decide, g_in 267 (by decide +kernel) rfl⟩
theorem f_X5_35 : g_Fld RX5 35 8 1 := ⟨g_cok8, by decide, g_in 188 (by decide +kernel) rfl⟩
theorem f_X5_38 : g_Fld RX5 38 8 2 := ⟨g_cok8, by decide, g_in 193 (by decide +kernel) rfl⟩
theorem f_X5_41 : g_Fld RX5 41 1 10 := ⟨g_cok1, by decide, g_in 306 (by decide +kernel) rfl⟩
theorem f_X5_48 : g_Fld RX5 48 1 9 := ⟨g_cok1, by decide, g_in 302 (by decide +kernel) rfl⟩
theorem f_X5_51 : g_Fld RX5 51 8 4 := ⟨g_cok8, by decide, g_in 200 (by decide +kernel) rfl⟩
theorem f_X5_54 : g_Fld RX5 54 1 1 := ⟨g_cok1, by decide, g_in 272 (by decide +kernel) rfl⟩
theorem f_X5_57 : g_Fld RX5 57 1 2 := ⟨g_cok1, by decide, g_in 276 (by decide +kernel) rfl⟩
theorem f_X5_60 : g_Fld RX5 60 8 5 := ⟨g_cok8, by decide, g_in 205 (by decide +kernel) rfl⟩
theorem f_X5_77 : g_Fld RX5 77 6 1 := ⟨g_cok6, by decide, g_in 754 (by decide +kernel) rfl⟩
theorem f_X5_82 : g_Fld RX5 82 6 0 := ⟨g_cok6, by decide, g_in 752 (by decide +kernel) rfl⟩
theorem f_X6_13 : g_Fld RX6 13 6 1 := ⟨g_cok6, by decide, g_in 753 (by decide +kernel) rfl⟩
theorem f_X6_7 : g_Fld RX6 7 6 0 := ⟨g_cok6, by decide, g_in 751 (by decide +kernel) rfl⟩
theorem f_X7_11 : g_Fld RX7 11 7 1 := ⟨g_cok7, by decide, g_in 394 (by decide +kernel) rfl⟩
theorem f_X7_17 : g_Fld RX7 17 7 2 := ⟨g_cok7, by decide, g_in 395 (by decide +kernel) rfl⟩
theorem f_X7_20 : g_Fld RX7 20 7 3 := ⟨g_cok7, by decide, g_in 396 (by decide +kernel) rfl⟩
theorem f_X7_24 : g_Fld RX7 24 7 4 := ⟨g_cok7, by decide, g_in 397 (by decide +kernel) rfl⟩
theorem f_X7_27 : g_Fld RX7 27 7 5 := ⟨g_cok7, by decide, g_in 398 (by decide +kernel) rfl⟩
theorem f_X7_30 : g_Fld RX7 30 7 0 := ⟨g_cok7, by decide, g_in 393 (by decide +kernel) rfl⟩
theorem f_X8_15 : g_Fld RX8 15 8 1 := ⟨g_cok8, by decide, g_in 187 (by decide +kernel) rfl⟩
theorem f_X8_18 : g_Fld RX8 18 8 2 := ⟨g_cok8, by decide, g_in 191 (by decide +kernel) rfl⟩
theorem f_X8_21 : g_Fld RX8 21 8 3 := ⟨g_cok8, by decide, g_in 196 (by decide +kernel) rfl⟩
theorem f_X8_24 : g_Fld RX8 24 8 4 := ⟨g_cok8, by decide, g_in 199 (by decide +kernel) rfl⟩
theorem f_X8_28 : g_Fld RX8 28 8 5 := ⟨g_cok8, by decide, g_in 203 (by decide +kernel) rfl⟩
theorem f_X8_31 : g_Fld RX8 31 8 6 := ⟨g_cok8, by decide, g_in 207 (by decide +kernel) rfl⟩
theorem f_X8_58 : g_Fld RX8 58 1 0 := ⟨g_cok1, by decide, g_in 268 (by decide +kernel) rfl⟩
theorem f_X8_63 : g_Fld RX8 63 1 6 := ⟨g_cok1, by decide, g_in 291 (by decide +kernel) rfl⟩
theorem f_X8_66 : g_Fld RX8 66 1 7 := ⟨g_cok1, by decide, g_in 297 (by decide +kernel) rfl⟩
theorem f_X8_9 : g_Fld RX8 9 8 0 := ⟨g_cok8, by decide, g_in 184 (by decide +kernel) rfl⟩
theorem f_X9_11 : g_Fld RX9 11 9 0 := ⟨g_cok9, by decide, g_in 338 (by decide +kernel) rfl⟩
theorem f_X9_15 : g_Fld RX9 15 9 1 := ⟨g_cok9, by decide, g_in 339 (by decide +kernel) rfl⟩
theorem f_X9_19 : g_Fld RX9 19 9 2 := ⟨g_cok9, by decide, g_in 340 (by decide +kernel) rfl⟩
theorem f_X9_22 : g_Fld RX9 22 9 3 := ⟨g_cok9, by decide, g_in 341 (by decide +kernel) rfl⟩
theorem f_X9_25 : g_Fld RX9 25 9 4 := ⟨g_cok9, by decide, g_in 342 (by decide +kernel) rfl⟩
theorem f_X9_29 : g_Fld RX9 29 9 5 := ⟨g_cok9, by decide, g_in 343 (by decide +kernel) rfl⟩
theorem f_X9_32 : g_Fld RX9 32 9 6 := ⟨g_cok9, by decide, g_in 344 (by decide +kernel) rfl⟩
theorem f_X9_35 : g_Fld RX9 35 9 7 := ⟨g_cok9, by decide, g_in 346 (by decide +kernel) rfl⟩
theorem yc_J6_bitCount_0f7a4 : g_ycl yJ6_bitCount_0f7a4 1 := ⟨by decide +kernel, by decide +kernel, by decide +kernel⟩
theorem yc_J7_copyOf_59c91 : g_ycl yJ7_copyOf_59c91 2 := ⟨by decide +kernel, by decide +kernel, by decide +kernel⟩
theorem yc_X0_clear : g_ycl yX0_clear 1 := ⟨by decide +kernel, by decide +kernel, by decide +kernel⟩
theorem yc_X0_howMany : g_ycl yX0_howMany 0 := ⟨by decide +kernel, by decide +kernel, by decide +kernel⟩
theorem yc_X0_init : g_ycl yX0_init 0 := ⟨by decide +kernel, by decide +kernel, by decide +kernel⟩
theorem yc_X0_join : g_ycl yX0_join 2 := ⟨by decide +kernel, by decide +kernel, by decide +kernel⟩
theorem yc_X10_fadeAll : g_ycl yX10_fadeAll 2 := ⟨by decide +kernel, by decide +kernel, by decide +kernel⟩
theorem yc_X10_init : g_ycl yX10_init 0 := ⟨by decide +kernel, by decide +kernel, by decide +kernel⟩
theorem yc_X10_pass : g_ycl yX10_pass 3 := ⟨by decide +kernel, by decide +kernel, by decide +kernel⟩
theorem yc_X10_strikeForgotten : g_ycl yX10_strikeForgotten 2 := ⟨by decide +kernel, by decide +kernel, by decide +kernel⟩
theorem yc_X10_weigh : g_ycl yX10_weigh 3 := ⟨by decide +kernel, by decide +kernel, by decide +kernel⟩
theorem yc_X11_bit : g_ycl yX11_bit 2 := ⟨by decide +kernel, by decide +kernel, by decide +kernel⟩
theorem yc_X11_draw : g_ycl yX11_draw 0 := ⟨by decide +kernel, by decide +kernel, by decide +kernel⟩
theorem yc_X11_drinkLater : g_ycl yX11_drinkLater 0 := ⟨by decide +kernel, by decide +kernel, by decide +kernel⟩
theorem yc_X11_fillUnlike : g_ycl yX11_fillUnlike 1 := ⟨by decide +kernel, by decide +kernel, by decide +kernel⟩
theorem yc_X11_heldBehindAsk : g_ycl yX11_heldBehindAsk 1 := ⟨by decide +kernel, by decide +kernel, by decide +kernel⟩
theorem yc_X11_isHeir : g_ycl yX11_isHeir 1 := ⟨by decide +kernel, by decide +kernel, by decide +kernel⟩
theorem yc_X11_isKnown : g_ycl yX11_isKnown 2 := ⟨by decide +kernel, by decide +kernel, by decide +kernel⟩
theorem yc_X11_isThing : g_ycl yX11_isThing 1 := ⟨by decide +kernel, by decide +kernel, by decide +kernel⟩
theorem yc_X11_lookAhead : g_ycl yX11_lookAhead 1 := ⟨by decide +kernel, by decide +kernel, by decide +kernel⟩
theorem yc_X11_partsAll : g_ycl yX11_partsAll 2 := ⟨by decide +kernel, by decide +kernel, by decide +kernel⟩
theorem yc_X11_prompted : g_ycl yX11_prompted 1 := ⟨by decide +kernel, by decide +kernel, by decide +kernel⟩
theorem yc_X11_ruleInForce : g_ycl yX11_ruleInForce 0 := ⟨by decide +kernel, by decide +kernel, by decide +kernel⟩
theorem yc_X11_sharers : g_ycl yX11_sharers 2 := ⟨by decide +kernel, by decide +kernel, by decide +kernel⟩
theorem yc_X11_spread : g_ycl yX11_spread 3 := ⟨by decide +kernel, by decide +kernel, by decide +kernel⟩
theorem yc_X11_strikeLater : g_ycl yX11_strikeLater 1 := ⟨by decide +kernel, by decide +kernel, by decide +kernel⟩
theorem yc_X12_allHolds : g_ycl yX12_allHolds 0 := ⟨by decide +kernel, by decide +kernel, by decide +kernel⟩
theorem yc_X12_areCousinsHere : g_ycl yX12_areCousinsHere 1 := ⟨by decide +kernel, by decide +kernel, by decide +kernel⟩
theorem yc_X12_areParted : g_ycl yX12_areParted 2 := ⟨by decide +kernel, by decide +kernel, by decide +kernel⟩
theorem yc_X12_asks : g_ycl yX12_asks 2 := ⟨by decide +kernel, by decide +kernel, by decide +kernel⟩
theorem yc_X12_bits : g_ycl yX12_bits 1 := ⟨by decide +kernel, by decide +kernel, by decide +kernel⟩
theorem yc_X12_canHave : g_ycl yX12_canHave 3 := ⟨by decide +kernel, by decide +kernel, by decide +kernel⟩
theorem yc_X12_cellHere : g_ycl yX12_cellHere 3 := ⟨by decide +kernel, by decide +kernel, by decide +kernel⟩
theorem yc_X12_clauseHere : g_ycl yX12_clauseHere 0 := ⟨by decide +kernel, by decide +kernel, by decide +kernel⟩
theorem yc_X12_closes : g_ycl yX12_closes 0 := ⟨by decide +kernel, by decide +kernel, by decide +kernel⟩
theorem yc_X12_compare : g_ycl yX12_compare 0 := ⟨by decide +kernel, by decide +kernel, by decide +kernel⟩
theorem yc_X12_countsWay : g_ycl yX12_countsWay 0 := ⟨by decide +kernel, by decide +kernel, by decide +kernel⟩
theorem yc_X12_draw : g_ycl yX12_draw 1 := ⟨by decide +kernel, by decide +kernel, by decide +kernel⟩
theorem yc_X12_drinks : g_ycl yX12_drinks 0 := ⟨by decide +kernel, by decide +kernel, by decide +kernel⟩
theorem yc_X12_fact : g_ycl yX12_fact 0 := ⟨by decide +kernel, by decide +kernel, by decide +kernel⟩
theorem yc_X12_fades : g_ycl yX12_fades 3 := ⟨by decide +kernel, by decide +kernel, by decide +kernel⟩
theorem yc_X12_fails : g_ycl yX12_fails 2 := ⟨by decide +kernel, by decide +kernel, by decide +kernel⟩
theorem yc_X12_four : g_ycl yX12_four 1 := ⟨by decide +kernel, by decide +kernel, by decide +kernel⟩
theorem yc_X12_gathersWays : g_ycl yX12_gathersWays 1 := ⟨by decide +kernel, by decide +kernel, by decide +kernel⟩
theorem yc_X12_goesOn : g_ycl yX12_goesOn 3 := ⟨by decide +kernel, by decide +kernel, by decide +kernel⟩
theorem yc_X12_holdersOf : g_ycl yX12_holdersOf 1 := ⟨by decide +kernel, by decide +kernel, by decide +kernel⟩
theorem yc_X12_holds : g_ycl yX12_holds 2 := ⟨by decide +kernel, by decide +kernel, by decide +kernel⟩
theorem yc_X12_holdsOf : g_ycl yX12_holdsOf 1 := ⟨by decide +kernel, by decide +kernel, by decide +kernel⟩
theorem yc_X12_houseLineHere : g_ycl yX12_houseLineHere 1 := ⟨by decide +kernel, by decide +kernel, by decide +kernel⟩
theorem yc_X12_in : g_ycl yX12_in 3 := ⟨by decide +kernel, by decide +kernel, by decide +kernel⟩
theorem yc_X12_isDigit : g_ycl yX12_isDigit 1 := ⟨by decide +kernel, by decide +kernel, by decide +kernel⟩
theorem yc_X12_isFadeHere : g_ycl yX12_isFadeHere 0 := ⟨by decide +kernel, by decide +kernel, by decide +kernel⟩
theorem yc_X12_isHateHere : g_ycl yX12_isHateHere 0 := ⟨by decide +kernel, by decide +kernel, by decide +kernel⟩
theorem yc_X12_isHeir : g_ycl yX12_isHeir 1 := ⟨by decide +kernel, by decide +kernel, by decide +kernel⟩
theorem yc_X12_isHeirHere : g_ycl yX12_isHeirHere 1 := ⟨by decide +kernel, by decide +kernel, by decide +kernel⟩
theorem yc_X12_isHouse : g_ycl yX12_isHouse 0 := ⟨by decide +kernel, by decide +kernel, by decide +kernel⟩
theorem yc_X12_isHouseHere : g_ycl yX12_isHouseHere 1 := ⟨by decide +kernel, by decide +kernel, by decide +kernel⟩
theorem yc_X12_isHouseWord : g_ycl yX12_isHouseWord 0 := ⟨by decide +kernel, by decide +kernel, by decide +kernel⟩
theorem yc_X12_isInside : g_ycl yX12_isInside 0 := ⟨by decide +kernel, by decide +kernel, by decide +kernel⟩
theorem yc_X12_isKnownHere : g_ycl yX12_isKnownHere 0 := ⟨by decide +kernel, by decide +kernel, by decide +kernel⟩
theorem yc_X12_isLetter : g_ycl yX12_isLetter 1 := ⟨by decide +kernel, by decide +kernel, by decide +kernel⟩
theorem yc_X12_isOf : g_ycl yX12_isOf 2 := ⟨by decide +kernel, by decide +kernel, by decide +kernel⟩
theorem yc_X12_isRound : g_ycl yX12_isRound 2 := ⟨by decide +kernel, by decide +kernel, by decide +kernel⟩
theorem yc_X12_isRule : g_ycl yX12_isRule 1 := ⟨by decide +kernel, by decide +kernel, by decide +kernel⟩
theorem yc_X12_isSongHere : g_ycl yX12_isSongHere 0 := ⟨by decide +kernel, by decide +kernel, by decide +kernel⟩
theorem yc_X12_isThing : g_ycl yX12_isThing 1 := ⟨by decide +kernel, by decide +kernel, by decide +kernel⟩
theorem yc_X12_isThingHere : g_ycl yX12_isThingHere 1 := ⟨by decide +kernel, by decide +kernel, by decide +kernel⟩
theorem yc_X12_isWord : g_ycl yX12_isWord 1 := ⟨by decide +kernel, by decide +kernel, by decide +kernel⟩
theorem yc_X12_isWrong : g_ycl yX12_isWrong 2 := ⟨by decide +kernel, by decide +kernel, by decide +kernel⟩
theorem yc_X12_keeps : g_ycl yX12_keeps 0 := ⟨by decide +kernel, by decide +kernel, by decide +kernel⟩
theorem yc_X12_keepsAct : g_ycl yX12_keepsAct 0 := ⟨by decide +kernel, by decide +kernel, by decide +kernel⟩
theorem yc_X12_knowsNow : g_ycl yX12_knowsNow 4 := ⟨by decide +kernel, by decide +kernel, by decide +kernel⟩
theorem yc_X12_knowsOf : g_ycl yX12_knowsOf 2 := ⟨by decide +kernel, by decide +kernel, by decide +kernel⟩
theorem yc_X12_laysBack : g_ycl yX12_laysBack 0 := ⟨by decide +kernel, by decide +kernel, by decide +kernel⟩
theorem yc_X12_lossOf : g_ycl yX12_lossOf 2 := ⟨by decide +kernel, by decide +kernel, by decide +kernel⟩
theorem yc_X12_makes : g_ycl yX12_makes 1 := ⟨by decide +kernel, by decide +kernel, by decide +kernel⟩
theorem yc_X12_most : g_ycl yX12_most 0 := ⟨by decide +kernel, by decide +kernel, by decide +kernel⟩
theorem yc_X12_numberHere : g_ycl yX12_numberHere 2 := ⟨by decide +kernel, by decide +kernel, by decide +kernel⟩
theorem yc_X12_one : g_ycl yX12_one 3 := ⟨by decide +kernel, by decide +kernel, by decide +kernel⟩
theorem yc_X12_opens : g_ycl yX12_opens 1 := ⟨by decide +kernel, by decide +kernel, by decide +kernel⟩
theorem yc_X12_passWord : g_ycl yX12_passWord 0 := ⟨by decide +kernel, by decide +kernel, by decide +kernel⟩
theorem yc_X12_passes : g_ycl yX12_passes 0 := ⟨by decide +kernel, by decide +kernel, by decide +kernel⟩
theorem yc_X12_pop : g_ycl yX12_pop 0 := ⟨by decide +kernel, by decide +kernel, by decide +kernel⟩
theorem yc_X12_promptsYear : g_ycl yX12_promptsYear 1 := ⟨by decide +kernel, by decide +kernel, by decide +kernel⟩
theorem yc_X12_push : g_ycl yX12_push 1 := ⟨by decide +kernel, by decide +kernel, by decide +kernel⟩
theorem yc_X12_puts : g_ycl yX12_puts 2 := ⟨by decide +kernel, by decide +kernel, by decide +kernel⟩
theorem yc_X12_readsAll : g_ycl yX12_readsAll 0 := ⟨by decide +kernel, by decide +kernel, by decide +kernel⟩
theorem yc_X12_reckons : g_ycl yX12_reckons 3 := ⟨by decide +kernel, by decide +kernel, by decide +kernel⟩
theorem yc_X12_sameAs : g_ycl yX12_sameAs 2 := ⟨by decide +kernel, by decide +kernel, by decide +kernel⟩
theorem yc_X12_see : g_ycl yX12_see 0 := ⟨by decide +kernel, by decide +kernel, by decide +kernel⟩
theorem yc_X12_settles : g_ycl yX12_settles 1 := ⟨by decide +kernel, by decide +kernel, by decide +kernel⟩
theorem yc_X12_standing : g_ycl yX12_standing 0 := ⟨by decide +kernel, by decide +kernel, by decide +kernel⟩
theorem yc_X12_strength : g_ycl yX12_strength 1 := ⟨by decide +kernel, by decide +kernel, by decide +kernel⟩
theorem yc_X12_strengthOf : g_ycl yX12_strengthOf 2 := ⟨by decide +kernel, by decide +kernel, by decide +kernel⟩
theorem yc_X12_strikeOf : g_ycl yX12_strikeOf 1 := ⟨by decide +kernel, by decide +kernel, by decide +kernel⟩
theorem yc_X12_sum : g_ycl yX12_sum 0 := ⟨by decide +kernel, by decide +kernel, by decide +kernel⟩
theorem yc_X12_summedBy : g_ycl yX12_summedBy 1 := ⟨by decide +kernel, by decide +kernel, by decide +kernel⟩
theorem yc_X12_takes : g_ycl yX12_takes 4 := ⟨by decide +kernel, by decide +kernel, by decide +kernel⟩
theorem yc_X12_takesWord : g_ycl yX12_takesWord 1 := ⟨by decide +kernel, by decide +kernel, by decide +kernel⟩
theorem yc_X12_term : g_ycl yX12_term 0 := ⟨by decide +kernel, by decide +kernel, by decide +kernel⟩
theorem yc_X12_tested : g_ycl yX12_tested 0 := ⟨by decide +kernel, by decide +kernel, by decide +kernel⟩
theorem yc_X12_thingOf : g_ycl yX12_thingOf 2 := ⟨by decide +kernel, by decide +kernel, by decide +kernel⟩
theorem yc_X12_value : g_ycl yX12_value 0 := ⟨by decide +kernel, by decide +kernel, by decide +kernel⟩
theorem yc_X12_valueOf : g_ycl yX12_valueOf 2 := ⟨by decide +kernel, by decide +kernel, by decide +kernel⟩
theorem yc_X12_wordHere : g_ycl yX12_wordHere 0 := ⟨by decide +kernel, by decide +kernel, by decide +kernel⟩
theorem yc_X12_words : g_ycl yX12_words 2 := ⟨by decide +kernel, by decide +kernel, by decide +kernel⟩
theorem yc_X1_init : g_ycl yX1_init 0 := ⟨by decide +kernel, by decide +kernel, by decide +kernel⟩
theorem yc_X1_plainLoss : g_ycl yX1_plainLoss 4 := ⟨by decide +kernel, by decide +kernel, by decide +kernel⟩
theorem yc_X2_bitOf : g_ycl yX2_bitOf 1 := ⟨by decide +kernel, by decide +kernel, by decide +kernel⟩
theorem yc_X2_init : g_ycl yX2_init 1 := ⟨by decide +kernel, by decide +kernel, by decide +kernel⟩
theorem yc_X2_isClause : g_ycl yX2_isClause 1 := ⟨by decide +kernel, by decide +kernel, by decide +kernel⟩
theorem yc_X2_isFull : g_ycl yX2_isFull 1 := ⟨by decide +kernel, by decide +kernel, by decide +kernel⟩
theorem yc_X2_read : g_ycl yX2_read 0 := ⟨by decide +kernel, by decide +kernel, by decide +kernel⟩
theorem yc_X2_readClause : g_ycl yX2_readClause 1 := ⟨by decide +kernel, by decide +kernel, by decide +kernel⟩
theorem yc_X2_readCousins : g_ycl yX2_readCousins 0 := ⟨by decide +kernel, by decide +kernel, by decide +kernel⟩
theorem yc_X2_readHeir : g_ycl yX2_readHeir 0 := ⟨by decide +kernel, by decide +kernel, by decide +kernel⟩
theorem yc_X2_readKnows : g_ycl yX2_readKnows 0 := ⟨by decide +kernel, by decide +kernel, by decide +kernel⟩
theorem yc_X2_readNumbers : g_ycl yX2_readNumbers 1 := ⟨by decide +kernel, by decide +kernel, by decide +kernel⟩
theorem yc_X2_readThing : g_ycl yX2_readThing 0 := ⟨by decide +kernel, by decide +kernel, by decide +kernel⟩
theorem yc_X3_init : g_ycl yX3_init 0 := ⟨by decide +kernel, by decide +kernel, by decide +kernel⟩
theorem yc_X4_clear : g_ycl yX4_clear 0 := ⟨by decide +kernel, by decide +kernel, by decide +kernel⟩
theorem yc_X4_giveBack : g_ycl yX4_giveBack 1 := ⟨by decide +kernel, by decide +kernel, by decide +kernel⟩
theorem yc_X4_init : g_ycl yX4_init 0 := ⟨by decide +kernel, by decide +kernel, by decide +kernel⟩
theorem yc_X4_keep : g_ycl yX4_keep 1 := ⟨by decide +kernel, by decide +kernel, by decide +kernel⟩
theorem yc_X5_init : g_ycl yX5_init 0 := ⟨by decide +kernel, by decide +kernel, by decide +kernel⟩
theorem yc_X5_joined : g_ycl yX5_joined 3 := ⟨by decide +kernel, by decide +kernel, by decide +kernel⟩
theorem yc_X5_look : g_ycl yX5_look 4 := ⟨by decide +kernel, by decide +kernel, by decide +kernel⟩
theorem yc_X5_loss : g_ycl yX5_loss 1 := ⟨by decide +kernel, by decide +kernel, by decide +kernel⟩
theorem yc_X5_pop : g_ycl yX5_pop 0 := ⟨by decide +kernel, by decide +kernel, by decide +kernel⟩
theorem yc_X5_push : g_ycl yX5_push 1 := ⟨by decide +kernel, by decide +kernel, by decide +kernel⟩
theorem yc_X5_run : g_ycl yX5_run 3 := ⟨by decide +kernel, by decide +kernel, by decide +kernel⟩
theorem yc_X6_init : g_ycl yX6_init 2 := ⟨by decide +kernel, by decide +kernel, by decide +kernel⟩
theorem yc_X7_comparingOf : g_ycl yX7_comparingOf 1 := ⟨by decide +kernel, by decide +kernel, by decide +kernel⟩
theorem yc_X7_countValue : g_ycl yX7_countValue 1 := ⟨by decide +kernel, by decide +kernel, by decide +kernel⟩
theorem yc_X7_init : g_ycl yX7_init 1 := ⟨by decide +kernel, by decide +kernel, by decide +kernel⟩
theorem yc_X7_joinerOf : g_ycl yX7_joinerOf 2 := ⟨by decide +kernel, by decide +kernel, by decide +kernel⟩
theorem yc_X7_mark : g_ycl yX7_mark 0 := ⟨by decide +kernel, by decide +kernel, by decide +kernel⟩
theorem yc_X7_put : g_ycl yX7_put 1 := ⟨by decide +kernel, by decide +kernel, by decide +kernel⟩
theorem yc_X7_read : g_ycl yX7_read 0 := ⟨by decide +kernel, by decide +kernel, by decide +kernel⟩
theorem yc_X7_readClause : g_ycl yX7_readClause 1 := ⟨by decide +kernel, by decide +kernel, by decide +kernel⟩
theorem yc_X7_readComparing : g_ycl yX7_readComparing 0 := ⟨by decide +kernel, by decide +kernel, by decide +kernel⟩
theorem yc_X7_readFact : g_ycl yX7_readFact 1 := ⟨by decide +kernel, by decide +kernel, by decide +kernel⟩
theorem yc_X7_readJoined : g_ycl yX7_readJoined 2 := ⟨by decide +kernel, by decide +kernel, by decide +kernel⟩
theorem yc_X7_readValue : g_ycl yX7_readValue 0 := ⟨by decide +kernel, by decide +kernel, by decide +kernel⟩
theorem yc_X8_clear : g_ycl yX8_clear 0 := ⟨by decide +kernel, by decide +kernel, by decide +kernel⟩
theorem yc_X8_copy : g_ycl yX8_copy 1 := ⟨by decide +kernel, by decide +kernel, by decide +kernel⟩
theorem yc_X8_errs : g_ycl yX8_errs 3 := ⟨by decide +kernel, by decide +kernel, by decide +kernel⟩
theorem yc_X8_forget : g_ycl yX8_forget 2 := ⟨by decide +kernel, by decide +kernel, by decide +kernel⟩
theorem yc_X8_heldAs : g_ycl yX8_heldAs 2 := ⟨by decide +kernel, by decide +kernel, by decide +kernel⟩
theorem yc_X8_heldBy : g_ycl yX8_heldBy 2 := ⟨by decide +kernel, by decide +kernel, by decide +kernel⟩
theorem yc_X8_heldTogether : g_ycl yX8_heldTogether 1 := ⟨by decide +kernel, by decide +kernel, by decide +kernel⟩
theorem yc_X8_holdersOf : g_ycl yX8_holdersOf 2 := ⟨by decide +kernel, by decide +kernel, by decide +kernel⟩
theorem yc_X8_holdsMost : g_ycl yX8_holdsMost 1 := ⟨by decide +kernel, by decide +kernel, by decide +kernel⟩
theorem yc_X8_init : g_ycl yX8_init 0 := ⟨by decide +kernel, by decide +kernel, by decide +kernel⟩
theorem yc_X8_isAnyHeld : g_ycl yX8_isAnyHeld 1 := ⟨by decide +kernel, by decide +kernel, by decide +kernel⟩
theorem yc_X8_isAsked : g_ycl yX8_isAsked 3 := ⟨by decide +kernel, by decide +kernel, by decide +kernel⟩
theorem yc_X8_knowersAs : g_ycl yX8_knowersAs 3 := ⟨by decide +kernel, by decide +kernel, by decide +kernel⟩
theorem yc_X8_knownBy : g_ycl yX8_knownBy 2 := ⟨by decide +kernel, by decide +kernel, by decide +kernel⟩
theorem yc_X8_knownUnlike : g_ycl yX8_knownUnlike 3 := ⟨by decide +kernel, by decide +kernel, by decide +kernel⟩
theorem yc_X8_lasts : g_ycl yX8_lasts 1 := ⟨by decide +kernel, by decide +kernel, by decide +kernel⟩
theorem yc_X8_learn : g_ycl yX8_learn 4 := ⟨by decide +kernel, by decide +kernel, by decide +kernel⟩
theorem yc_X8_standing : g_ycl yX8_standing 1 := ⟨by decide +kernel, by decide +kernel, by decide +kernel⟩
theorem yc_X8_strengthAs : g_ycl yX8_strengthAs 3 := ⟨by decide +kernel, by decide +kernel, by decide +kernel⟩
theorem yc_X8_takes : g_ycl yX8_takes 4 := ⟨by decide +kernel, by decide +kernel, by decide +kernel⟩
theorem yc_X9_add : g_ycl yX9_add 3 := ⟨by decide +kernel, by decide +kernel, by decide +kernel⟩
theorem yc_X9_append : g_ycl yX9_append 1 := ⟨by decide +kernel, by decide +kernel, by decide +kernel⟩
theorem yc_X9_blame : g_ycl yX9_blame 2 := ⟨by decide +kernel, by decide +kernel, by decide +kernel⟩
theorem yc_X9_byteAt : g_ycl yX9_byteAt 1 := ⟨by decide +kernel, by decide +kernel, by decide +kernel⟩
theorem yc_X9_endOfRun : g_ycl yX9_endOfRun 1 := ⟨by decide +kernel, by decide +kernel, by decide +kernel⟩
theorem yc_X9_expect : g_ycl yX9_expect 1 := ⟨by decide +kernel, by decide +kernel, by decide +kernel⟩
theorem yc_X9_goesOn : g_ycl yX9_goesOn 0 := ⟨by decide +kernel, by decide +kernel, by decide +kernel⟩
theorem yc_X9_init : g_ycl yX9_init 0 := ⟨by decide +kernel, by decide +kernel, by decide +kernel⟩
theorem yc_X9_isDigit : g_ycl yX9_isDigit 1 := ⟨by decide +kernel, by decide +kernel, by decide +kernel⟩
theorem yc_X9_isFaulty : g_ycl yX9_isFaulty 0 := ⟨by decide +kernel, by decide +kernel, by decide +kernel⟩
theorem yc_X9_isLetter : g_ycl yX9_isLetter 1 := ⟨by decide +kernel, by decide +kernel, by decide +kernel⟩
theorem yc_X9_kind : g_ycl yX9_kind 0 := ⟨by decide +kernel, by decide +kernel, by decide +kernel⟩
theorem yc_X9_next : g_ycl yX9_next 0 := ⟨by decide +kernel, by decide +kernel, by decide +kernel⟩
theorem yc_X9_number : g_ycl yX9_number 2 := ⟨by decide +kernel, by decide +kernel, by decide +kernel⟩
theorem yc_X9_place : g_ycl yX9_place 0 := ⟨by decide +kernel, by decide +kernel, by decide +kernel⟩
theorem yc_X9_split : g_ycl yX9_split 0 := ⟨by decide +kernel, by decide +kernel, by decide +kernel⟩
theorem yc_X9_valueOf : g_ycl yX9_valueOf 2 := ⟨by decide +kernel, by decide +kernel, by decide +kernel⟩
theorem yc_X9_wordKind : g_ycl yX9_wordKind 2 := ⟨by decide +kernel, by decide +kernel, by decide +kernel⟩
theorem pn__java_lang_Integer_ : plainName "java/lang/Integer" = true := by decide +kernel
theorem pn__java_util_Arrays_ : plainName "java/util/Arrays" = true := by decide +kernel
theorem pn_RX0 : plainName RX0 = true := by decide +kernel
theorem pn_RX1 : plainName RX1 = true := by decide +kernel
theorem pn_RX10 : plainName RX10 = true := by decide +kernel
theorem pn_RX11 : plainName RX11 = true := by decide +kernel
theorem pn_RX12 : plainName RX12 = true := by decide +kernel
theorem pn_RX2 : plainName RX2 = true := by decide +kernel
theorem pn_RX3 : plainName RX3 = true := by decide +kernel
theorem pn_RX4 : plainName RX4 = true := by decide +kernel
theorem pn_RX5 : plainName RX5 = true := by decide +kernel
theorem pn_RX6 : plainName RX6 = true := by decide +kernel
theorem pn_RX7 : plainName RX7 = true := by decide +kernel
theorem pn_RX8 : plainName RX8 = true := by decide +kernel
theorem pn_RX9 : plainName RX9 = true := by decide +kernel
