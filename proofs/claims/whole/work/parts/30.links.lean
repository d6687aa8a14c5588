/-- the words that may be handed on -/
def tg : List Cond := lw_tbl.filter goodWord
theorem wq {w : Cond} (i : Nat) (h : lw_tbl[i]? = some w) (g : goodWord w = true) : w ∈ tg := List.mem_filter.mpr ⟨List.mem_of_getElem? h, g⟩
def cnL : List String := [RX0, RX1, RX2, RX3, RX4, RX5, RX6, RX7, RX8, RX9, RX10, RJ6, RJ7]
def cn (i : Nat) : String := cnL.getD i ""
def Inf : List pInf := [(yX0_clear, cX0_clear, 1, none), (yX0_copyFrom, cX0_copyFrom, 2, none), (yX0_roomFor, cX0_roomFor, 1, (some .int)), (yX0_has, cX0_has, 3, (some .boolean)), (yX0_setting, cX0_setting, 2, (some .int)), (yX0_allPlaces, cX0_allPlaces, 1, (some .int)), (yX0_weigh, cX0_weigh, 4, none), (yX0_sumGroups, cX0_sumGroups, 5, none), (yX0_weightsOf, cX0_weightsOf, 3, (some .int)), (yX0_traitsOfNotionAt, cX0_traitsOfNotionAt, 2, (some .int)), (yX0_lacksOf, cX0_lacksOf, 3, (some .int)), (yX0_addsOf, cX0_addsOf, 3, (some .int)), (yX0_lostByTraits, cX0_lostByTraits, 4, (some .int)), (yX0_wouldClash, cX0_wouldClash, 5, (some .boolean)), (yX0_otherPlace, cX0_otherPlace, 3, (some .int)), (yX0_boundBy, cX0_boundBy, 7, (some .int)), (yX0_wordForAll, cX0_wordForAll, 4, (some .int)), (yX0_toldBack, cX0_toldBack, 7, (some .int)), (yX0_traitsSaidFor, cX0_traitsSaidFor, 6, (some .int)), (yX1_clear, cX1_clear, 1, none), (yX1_indexOf, cX1_indexOf, 3, (some .int)), (yX1_put, cX1_put, 7, (some .int)), (yX1_agreed, cX1_agreed, 7, (some .int)), (yX1_costOf, cX1_costOf, 7, (some .int)), (yX2_clear, cX2_clear, 1, none), (yX2_mayTell, cX2_mayTell, 3, (some .boolean)), (yX2_isFull, cX2_isFull, 1, (some .boolean)), (yX2_isFullOfRights, cX2_isFullOfRights, 1, (some .boolean)), (yX2_append, cX2_append, 6, (some .int)), (yX2_putRight, cX2_putRight, 4, (some .int)), (yX2_gather, cX2_gather, 6, (some .int)), (yX2_fitsAll, cX2_fitsAll, 6, (some .boolean)), (yX2_setsWith, cX2_setsWith, 4, (some .int)), (yX2_setsWithin, cX2_setsWithin, 4, (some .int)), (yX3_append, cX3_append, 3, none), (yX3_find, cX3_find, 5, (some .int)), (yX3_isSame, cX3_isSame, 5, (some .boolean)), (yX4_read, cX4_read, 4, (some .int)), (yX4_begin, cX4_begin, 2, none), (yX4_advance, cX4_advance, 1, none), (yX4_signOf, cX4_signOf, 1, (some .char)), (yX4_refuse, cX4_refuse, 2, (some .boolean)), (yX4_mayBegin, cX4_mayBegin, 2, (some .boolean)), (yX4_readBody, cX4_readBody, 2, (some .boolean)), (yX4_keyword, cX4_keyword, 1, (some .int)), (yX4_isWord, cX4_isWord, 3, (some .boolean)), (yX4_readSemicolon, cX4_readSemicolon, 1, (some .boolean)), (yX4_readTraits, cX4_readTraits, 4, (some .boolean)), (yX4_readPlace, cX4_readPlace, 3, (some .boolean)), (yX4_readTie, cX4_readTie, 5, (some .boolean)), (yX4_readHearer, cX4_readHearer, 3, (some .boolean)), (yX4_readWeight, cX4_readWeight, 1, (some .boolean)), (yX4_readSetting, cX4_readSetting, 2, (some .boolean)), (yX4_readNewName, cX4_readNewName, 2, (some .boolean)), (yX4_readSet, cX4_readSet, 3, (some .boolean)), (yX4_readNumber, cX4_readNumber, 4, (some .boolean)), (yX5_clear, cX5_clear, 1, none), (yX5_copyFrom, cX5_copyFrom, 2, none), (yX5_put, cX5_put, 6, none), (yX5_isChosen, cX5_isChosen, 2, (some .boolean)), (yX5_isBorrowed, cX5_isBorrowed, 2, (some .boolean)), (yX5_chosen, cX5_chosen, 3, (some .int)), (yX5_noted, cX5_noted, 3, (some .int)), (yX5_traitsAt, cX5_traitsAt, 3, (some .int)), (yX5_traitsOf, cX5_traitsOf, 2, (some .int)), (yX5_lostAt, cX5_lostAt, 4, (some .int)), (yX5_lostOfAll, cX5_lostOfAll, 4, (some .int)), (yX5_clashBits, cX5_clashBits, 4, (some .int)), (yX5_isClashing, cX5_isClashing, 6, (some .boolean)), (yX5_clashesAt, cX5_clashesAt, 6, (some .int)), (yX5_isBorrowedOption, cX5_isBorrowedOption, 2, (some .boolean)), (yX5_traitsOfOption, cX5_traitsOfOption, 2, (some .int)), (yX5_lostWithOption, cX5_lostWithOption, 3, (some .int)), (yX5_putOption, cX5_putOption, 3, none), (yX5_exchangeRound, cX5_exchangeRound, 3, (some .boolean)), (yX5_exchangeAt, cX5_exchangeAt, 6, (some .boolean)), (yX5_lostWithWord, cX5_lostWithWord, 5, (some .int)), (yX5_lostWithLeast, cX5_lostWithLeast, 6, (some .int)), (yX5_oneWord, cX5_oneWord, 6, (some .int)), (yX5_mendOnce, cX5_mendOnce, 7, (some .boolean)), (yX5_untoldLacks, cX5_untoldLacks, 2, (some .int)), (yX5_heardAt, cX5_heardAt, 3, (some .int)), (yX5_rightOf, cX5_rightOf, 4, (some .int)), (yX6_putBest, cX6_putBest, 4, (some .boolean)), (yX6_begin, cX6_begin, 5, none), (yX6_levelOf, cX6_levelOf, 3, (some .int)), (yX6_obeyTie, cX6_obeyTie, 5, none), (yX6_obeyInside, cX6_obeyInside, 10, none), (yX6_obeyOutside, cX6_obeyOutside, 5, none), (yX6_settle, cX6_settle, 5, none), (yX6_narrow, cX6_narrow, 6, (some .int)), (yX6_leastOf, cX6_leastOf, 5, (some .int)), (yX7_hasRoom, cX7_hasRoom, 1, (some .boolean)), (yX7_append, cX7_append, 3, none), (yX8_clear, cX8_clear, 1, none), (yX8_isFull, cX8_isFull, 1, (some .boolean)), (yX8_latestOf, cX8_latestOf, 4, (some .int)), (yX8_append, cX8_append, 4, (some .int)), (yX8_wordsIn, cX8_wordsIn, 3, (some (.array .int))), (yX8_turns, cX8_turns, 7, (some .int)), (yX8_firstAbove, cX8_firstAbove, 6, (some .int)), (yX9_feed, cX9_feed, 6, (some .int)), (yX9_end, cX9_end, 2, (some .int)), (yX9_book, cX9_book, 3, (some .int)), (yX9_fault, cX9_fault, 2, (some .int)), (yX9_told, cX9_told, 2, (some .int)), (yX9_traits, cX9_traits, 3, (some .int)), (yX9_notion, cX9_notion, 2, (some .int)), (yX9_choose, cX9_choose, 6, (some .int)), (yX9_wordsAreFit, cX9_wordsAreFit, 5, (some .boolean)), (yX9_leave, cX9_leave, 2, (some .int)), (yX9_choice, cX9_choice, 3, (some .int)), (yX9_bears, cX9_bears, 4, (some .int)), (yX9_note, cX9_note, 4, (some .int)), (yX9_lost, cX9_lost, 1, (some .int)), (yX9_clashes, cX9_clashes, 1, (some .int)), (yX9_bound, cX9_bound, 2, (some .int)), (yX9_best, cX9_best, 3, (some .int)), (yX9_exchange, cX9_exchange, 3, (some .int)), (yX9_one, cX9_one, 2, (some .int)), (yX9_price, cX9_price, 3, (some .int)), (yX9_swap, cX9_swap, 2, (some .int)), (yX9_mend, cX9_mend, 4, (some .int)), (yX9_whyNotHeard, cX9_whyNotHeard, 3, (some .int)), (yX9_hears, cX9_hears, 4, (some .int)), (yX9_back, cX9_back, 4, (some .int)), (yX9_laughs, cX9_laughs, 5, (some .int)), (yX9_hits, cX9_hits, 2, (some .int)), (yX9_on, cX9_on, 6, (some .int)), (yX9_keep, cX9_keep, 2, (some .int)), (yX9_take, cX9_take, 2, (some .int)), (yX9_nearer, cX9_nearer, 5, (some .int)), (yX9_gives, cX9_gives, 5, (some .int)), (yX9_agree, cX9_agree, 2, (some .int)), (yX9_moves, cX9_moves, 4, (some .int)), (yX9_lostIn, cX9_lostIn, 2, (some .int)), (yX9_turned, cX9_turned, 2, (some .int)), (yX9_until, cX9_until, 2, (some .int)), (yX9_isYear, cX9_isYear, 1, (some .boolean)), (yX9_heard, cX9_heard, 5, (some .int)), (yX9_right, cX9_right, 4, (some .int)), (yX9_fit, cX9_fit, 3, (some .int)), (yX9_surely, cX9_surely, 6, (some .int)), (yX9_next, cX9_next, 8, (some .int)), (yX9_isStep, cX9_isStep, 1, (some .boolean)), (yX9_count, cX9_count, 2, (some .int)), (yX10_in, cX10_in, 3, (some .boolean)), (yX10_feed, cX10_feed, 9, (some .int)), (yX10_end, cX10_end, 2, (some .int)), (yX10_see, cX10_see, 2, (some .int)), (yX10_isSmall, cX10_isSmall, 1, (some .boolean)), (yX10_isDigit, cX10_isDigit, 1, (some .boolean)), (yX10_keyAt, cX10_keyAt, 8, (some .int)), (yX10_scan, cX10_scan, 4, none), (yX10_fails, cX10_fails, 2, (some .boolean)), (yX10_readNumber, cX10_readNumber, 3, (some .boolean)), (yX10_setHere, cX10_setHere, 3, (some .int)), (yX10_readSet, cX10_readSet, 2, (some .boolean)), (yX10_fault, cX10_fault, 2, (some .int)), (yX10_begin, cX10_begin, 2, none), (yX10_comes, cX10_comes, 3, none), (yX10_settle, cX10_settle, 2, none), (yX10_named, cX10_named, 4, (some .int)), (yX10_readName, cX10_readName, 5, (some .boolean)), (yX10_readPlace, cX10_readPlace, 4, (some .boolean)), (yX10_readTie, cX10_readTie, 3, (some .boolean)), (yX10_readHearer, cX10_readHearer, 2, (some .boolean)), (yX10_readWeight, cX10_readWeight, 3, (some .boolean)), (yX10_readTold, cX10_readTold, 3, (some .boolean)), (yX10_readClause, cX10_readClause, 3, (some .boolean)), (yX10_book, cX10_book, 2, (some .int)), (yX10_told, cX10_told, 2, (some .int)), (yX10_isNotion, cX10_isNotion, 2, (some .boolean)), (yX10_isWord, cX10_isWord, 2, (some .boolean)), (yX10_isPlace, cX10_isPlace, 2, (some .boolean)), (yX10_isTie, cX10_isTie, 2, (some .boolean)), (yX10_isHearer, cX10_isHearer, 2, (some .boolean)), (yX10_traits, cX10_traits, 3, (some .int)), (yX10_notion, cX10_notion, 2, (some .int)), (yX10_weigh, cX10_weigh, 4, (some .int)), (yX10_traitsOf, cX10_traitsOf, 5, (some .int)), (yX10_had, cX10_had, 4, (some .int)), (yX10_lackAt, cX10_lackAt, 3, (some .int)), (yX10_addAt, cX10_addAt, 3, (some .int)), (yX10_lostAt, cX10_lostAt, 4, (some .int)), (yX10_lostAll, cX10_lostAll, 4, (some .int)), (yX10_put, cX10_put, 6, none), (yX10_choose, cX10_choose, 6, (some .int)), (yX10_leave, cX10_leave, 3, (some .int)), (yX10_choice, cX10_choice, 3, (some .int)), (yX10_bears, cX10_bears, 3, (some .int)), (yX10_bits, cX10_bits, 3, (some .int)), (yX10_notedAll, cX10_notedAll, 3, (some .int)), (yX10_note, cX10_note, 4, (some .int)), (yX10_lost, cX10_lost, 1, (some .int)), (yX10_isClash, cX10_isClash, 4, (some .boolean)), (yX10_clashes, cX10_clashes, 3, (some .int)), (yX10_bound, cX10_bound, 5, (some .int)), (yX10_putBy, cX10_putBy, 3, none), (yX10_isFree, cX10_isFree, 3, (some .boolean)), (yX10_best, cX10_best, 8, (some .int)), (yX10_layRow, cX10_layRow, 6, (some .int)), (yX10_costs, cX10_costs, 1, (some .int)), (yX10_exchange, cX10_exchange, 12, (some .int)), (yX10_plainAt, cX10_plainAt, 3, (some .int)), (yX10_plainSum, cX10_plainSum, 5, (some .int)), (yX10_oneOf, cX10_oneOf, 4, (some .int)), (yX10_one, cX10_one, 2, (some .int)), (yX10_price, cX10_price, 7, (some .int)), (yX10_swap, cX10_swap, 4, (some .int)), (yX10_mend, cX10_mend, 8, (some .int)), (yX10_heardBy, cX10_heardBy, 3, (some .int)), (yX10_backOf, cX10_backOf, 6, (some .int)), (yX10_isLaugh, cX10_isLaugh, 3, (some .boolean)), (yX10_isAsked, cX10_isAsked, 3, (some .boolean)), (yX10_hears, cX10_hears, 3, (some .int)), (yX10_back, cX10_back, 3, (some .int)), (yX10_laughs, cX10_laughs, 3, (some .int)), (yX10_hitsOf, cX10_hitsOf, 4, (some .int)), (yX10_hits, cX10_hits, 2, (some .int)), (yX10_on, cX10_on, 9, (some .int)), (yX10_store, cX10_store, 4, none), (yX10_load, cX10_load, 4, none), (yX10_isSlot, cX10_isSlot, 1, (some .boolean)), (yX10_keep, cX10_keep, 2, (some .int)), (yX10_take, cX10_take, 2, (some .int)), (yX10_nearer, cX10_nearer, 8, (some .int)), (yX10_cellOf, cX10_cellOf, 3, (some .int)), (yX10_gives, cX10_gives, 6, (some .int)), (yX10_agree, cX10_agree, 9, (some .int)), (yX10_moves, cX10_moves, 5, (some .int)), (yX10_lostIn, cX10_lostIn, 2, (some .int)), (yX10_turned, cX10_turned, 4, (some .int)), (yX10_until, cX10_until, 4, (some .int)), (yX10_heard, cX10_heard, 5, (some .int)), (yX10_right, cX10_right, 6, (some .int)), (yX10_setOf, cX10_setOf, 3, (some .int)), (yX10_makeFits, cX10_makeFits, 9, (some .int)), (yX10_fit, cX10_fit, 3, (some .int)), (yX10_surely, cX10_surely, 7, (some .int)), (yX10_next, cX10_next, 8, (some .int)), (yX10_count, cX10_count, 4, (some .int)), (yJ6_bitCount_0f7a4, cJ6_bitCount_0f7a4, 1, (some .int)), (yJ7_fill_53178, cJ7_fill_53178, 4, none), (yJ7_fill_031fb, cJ7_fill_031fb, 4, none)]
def flT : List (Nat × Nat × Nat × Nat × Nat) := [(0, 11, 0, 0, 142), (0, 15, 0, 1, 148), (0, 18, 0, 2, 151), (0, 21, 0, 3, 154), (0, 24, 0, 4, 155), (0, 27, 0, 5, 158), (0, 30, 0, 6, 163), (0, 33, 0, 7, 167), (0, 36, 0, 8, 170), (0, 39, 0, 9, 174), (0, 42, 0, 10, 177), (0, 45, 0, 11, 180), (0, 48, 0, 12, 184), (1, 11, 1, 0, 368), (2, 11, 2, 0, 407), (2, 15, 2, 1, 408), (2, 18, 2, 2, 409), (2, 21, 2, 3, 410), (2, 24, 2, 4, 411), (2, 27, 2, 5, 412), (2, 30, 2, 6, 413), (2, 33, 2, 7, 414), (2, 36, 2, 8, 415), (2, 39, 2, 9, 416), (2, 42, 2, 12, 419), (2, 46, 2, 13, 421), (2, 49, 2, 11, 418), (2, 58, 2, 10, 417), (3, 9, 3, 0, 229), (3, 15, 3, 1, 230), (3, 18, 3, 2, 231), (4, 12, 4, 0, 240), (4, 21, 4, 1, 242), (4, 25, 4, 2, 243), (4, 28, 4, 3, 244), (4, 31, 4, 4, 245), (4, 35, 4, 5, 247), (4, 38, 4, 6, 249), (4, 51, 4, 10, 253), (4, 73, 3, 2, 232), (4, 76, 7, 0, 115), (4, 79, 7, 1, 118), (4, 82, 4, 7, 250), (4, 83, 4, 9, 252), (4, 86, 4, 13, 256), (4, 89, 4, 8, 251), (4, 99, 0, 0, 146), (4, 107, 0, 4, 157), (4, 114, 0, 5, 161), (4, 173, 4, 11, 254), (4, 180, 0, 6, 165), (4, 183, 0, 7, 169), (4, 190, 4, 12, 255), (4, 193, 0, 8, 173), (4, 196, 0, 9, 176), (4, 199, 0, 10, 179), (4, 202, 0, 11, 182), (4, 205, 0, 12, 186), (4, 212, 0, 1, 150), (5, 9, 5, 1, 298), (5, 15, 5, 2, 300), (5, 18, 5, 3, 302), (5, 21, 5, 4, 304), (5, 24, 5, 5, 306), (5, 27, 5, 0, 297), (5, 75, 0, 0, 147), (5, 81, 0, 8, 172), (5, 84, 0, 5, 162), (5, 122, 0, 6, 166), (5, 136, 0, 2, 153), (5, 142, 0, 11, 183), (6, 9, 6, 1, 331), (6, 17, 6, 2, 332), (6, 20, 6, 3, 333), (6, 23, 6, 4, 334), (6, 26, 6, 5, 335), (6, 29, 6, 6, 336), (6, 32, 6, 0, 330), (6, 40, 0, 0, 143), (6, 52, 6, 9, 339), (6, 57, 6, 7, 337), (6, 65, 6, 8, 338), (6, 78, 0, 8, 171), (6, 85, 0, 9, 175), (7, 9, 7, 0, 114), (7, 13, 7, 1, 116), (8, 11, 8, 1, 379), (8, 15, 8, 2, 380), (8, 18, 8, 3, 381), (8, 21, 8, 4, 382), (8, 24, 8, 5, 383), (8, 27, 8, 0, 378), (8, 31, 8, 6, 384), (8, 35, 0, 5, 159), (8, 50, 0, 0, 145), (9, 12, 9, 0, 452), (9, 19, 9, 1, 453), (9, 26, 9, 2, 454), (9, 35, 9, 3, 455), (9, 39, 9, 4, 456), (9, 43, 9, 5, 457), (9, 50, 9, 6, 458), (9, 57, 9, 7, 459), (9, 64, 9, 8, 460), (9, 71, 9, 9, 461), (9, 83, 7, 1, 117), (9, 91, 4, 0, 241), (9, 103, 4, 4, 246), (9, 106, 4, 5, 248), (9, 109, 0, 0, 144), (9, 113, 0, 1, 149), (9, 116, 0, 2, 152), (9, 123, 0, 4, 156), (9, 126, 0, 5, 160), (9, 129, 0, 7, 168), (9, 132, 0, 10, 178), (9, 135, 0, 11, 181), (9, 138, 0, 12, 185), (9, 141, 0, 6, 164), (9, 160, 5, 1, 299), (9, 163, 5, 2, 301), (9, 166, 5, 3, 303), (9, 169, 5, 4, 305), (9, 172, 5, 5, 307), (9, 295, 2, 12, 420), (9, 322, 8, 6, 385), (9, 323, 2, 13, 422), (10, 7, 10, 0, 1179), (10, 13, 10, 9, 1188), (10, 17, 10, 13, 1192), (10, 21, 10, 14, 1193), (10, 25, 10, 15, 1194), (10, 28, 10, 16, 1195), (10, 31, 10, 17, 1196), (10, 34, 10, 18, 1197), (10, 37, 10, 19, 1198), (10, 40, 10, 20, 1199), (10, 43, 10, 21, 1200), (10, 46, 10, 22, 1201), (10, 49, 10, 23, 1202), (10, 52, 10, 24, 1203), (10, 55, 10, 25, 1204), (10, 58, 10, 27, 1206), (10, 61, 10, 28, 1207), (10, 64, 10, 29, 1208), (10, 67, 10, 30, 1209), (10, 70, 10, 31, 1210), (10, 73, 10, 32, 1211), (10, 76, 10, 33, 1212), (10, 79, 10, 34, 1213), (10, 82, 10, 35, 1214), (10, 85, 10, 36, 1215), (10, 88, 10, 37, 1216), (10, 92, 10, 38, 1217), (10, 95, 10, 39, 1218), (10, 98, 10, 40, 1219), (10, 101, 10, 41, 1220), (10, 104, 10, 42, 1221), (10, 107, 10, 43, 1222), (10, 110, 10, 45, 1224), (10, 113, 10, 46, 1225), (10, 116, 10, 47, 1226), (10, 119, 10, 51, 1230), (10, 122, 10, 52, 1231), (10, 125, 10, 53, 1232), (10, 128, 10, 54, 1233), (10, 131, 10, 55, 1234), (10, 134, 10, 56, 1235), (10, 137, 10, 57, 1236), (10, 140, 10, 58, 1237), (10, 149, 10, 1, 1180), (10, 152, 10, 2, 1181), (10, 171, 10, 6, 1185), (10, 174, 10, 5, 1184), (10, 177, 10, 4, 1183), (10, 180, 10, 3, 1182), (10, 187, 10, 10, 1189), (10, 191, 10, 11, 1190), (10, 205, 10, 7, 1186), (10, 208, 10, 8, 1187), (10, 218, 10, 12, 1191), (10, 227, 10, 26, 1205), (10, 234, 10, 44, 1223), (10, 237, 10, 48, 1227), (10, 240, 10, 49, 1228), (10, 243, 10, 50, 1229)]
def mlT : List (Nat × Nat × Nat × Nat) := [(0, 54, 7, 138), (0, 57, 243, 135), (0, 69, 9, 746), (0, 73, 4, 730), (0, 76, 10, 734), (0, 80, 8, 738), (0, 83, 11, 742), (0, 86, 3, 1003), (1, 15, 244, 668), (1, 21, 20, 1029), (1, 25, 23, 1040), (2, 61, 31, 1133), (3, 22, 36, 613), (4, 42, 38, 507), (4, 48, 39, 512), (4, 55, 44, 519), (4, 59, 42, 586), (4, 63, 43, 597), (4, 66, 46, 652), (4, 70, 0, 511), (4, 92, 40, 516), (4, 96, 41, 590), (4, 103, 2, 594), (4, 110, 47, 601), (4, 117, 48, 624), (4, 120, 49, 628), (4, 123, 50, 636), (4, 126, 51, 640), (4, 129, 52, 648), (4, 134, 45, 524), (4, 166, 53, 605), (4, 170, 54, 620), (4, 176, 35, 609), (4, 186, 55, 632), (4, 208, 6, 644), (4, 215, 34, 616), (5, 34, 243, 296), (5, 46, 59, 715), (5, 50, 242, 780), (5, 56, 64, 723), (5, 60, 63, 719), (5, 63, 12, 726), (5, 69, 4, 750), (5, 72, 60, 751), (5, 78, 65, 796), (5, 87, 68, 805), (5, 91, 14, 809), (5, 95, 13, 813), (5, 98, 70, 850), (5, 101, 71, 846), (5, 104, 58, 898), (5, 108, 75, 907), (5, 111, 69, 911), (5, 115, 72, 915), (5, 118, 73, 916), (5, 130, 76, 925), (5, 133, 80, 956), (5, 139, 10, 960), (5, 145, 81, 993), (5, 148, 17, 994), (6, 36, 84, 837), (6, 45, 86, 855), (6, 48, 89, 881), (6, 60, 73, 894), (6, 68, 72, 842), (6, 72, 243, 854), (6, 81, 85, 859), (6, 96, 87, 869), (6, 100, 88, 876), (6, 104, 71, 873), (6, 107, 70, 874), (6, 111, 13, 875), (6, 115, 68, 880), (6, 124, 90, 886), (6, 127, 91, 890), (8, 46, 98, 1082), (8, 53, 65, 1083), (8, 59, 66, 1092), (9, 75, 92, 487), (9, 79, 93, 491), (9, 87, 37, 503), (9, 94, 1, 656), (9, 97, 56, 663), (9, 100, 19, 664), (9, 101, 94, 671), (9, 102, 24, 675), (9, 119, 3, 691), (9, 144, 109, 703), (9, 148, 58, 707), (9, 152, 65, 711), (9, 156, 59, 759), (9, 175, 63, 768), (9, 178, 10, 769), (9, 182, 11, 770), (9, 185, 9, 775), (9, 189, 62, 776), (9, 193, 242, 786), (9, 198, 4, 787), (9, 201, 66, 792), (9, 205, 67, 801), (9, 208, 15, 821), (9, 211, 5, 829), (9, 214, 83, 833), (9, 218, 74, 903), (9, 221, 78, 921), (9, 224, 76, 933), (9, 227, 77, 934), (9, 230, 16, 943), (9, 238, 79, 952), (9, 241, 123, 965), (9, 244, 81, 969), (9, 247, 17, 977), (9, 250, 82, 989), (9, 253, 18, 999), (9, 256, 57, 1008), (9, 259, 21, 1025), (9, 262, 22, 1036), (9, 265, 96, 1049), (9, 269, 95, 1054), (9, 272, 97, 1058), (9, 275, 138, 1066), (9, 278, 98, 1069), (9, 282, 99, 1078), (9, 286, 100, 1088), (9, 289, 25, 1097), (9, 292, 26, 1101), (9, 293, 28, 1105), (9, 298, 27, 1113), (9, 301, 29, 1117), (9, 304, 144, 1125), (9, 307, 30, 1128), (9, 310, 32, 1141), (9, 313, 33, 1149), (9, 319, 61, 1158), (10, 143, 159, 1168), (10, 146, 161, 1172), (10, 167, 149, 1378), (10, 183, 150, 1382), (10, 198, 152, 1387), (10, 202, 151, 1394), (10, 211, 154, 1405), (10, 214, 146, 1433), (10, 221, 153, 1374), (10, 224, 156, 1417), (10, 230, 160, 1176), (10, 246, 162, 1409), (10, 249, 155, 1429), (10, 253, 157, 1413), (10, 257, 163, 1401), (10, 260, 164, 1421), (10, 263, 165, 1425), (10, 266, 166, 1436), (10, 269, 167, 1440), (10, 272, 168, 1444), (10, 275, 169, 1397), (10, 278, 172, 1456), (10, 281, 173, 1460), (10, 284, 174, 1464), (10, 287, 175, 1468), (10, 290, 176, 1472), (10, 293, 180, 1500), (10, 296, 181, 1496), (10, 299, 182, 1492), (10, 302, 179, 1504), (10, 305, 183, 1508), (10, 308, 184, 1488), (10, 311, 186, 1484), (10, 315, 191, 1532), (10, 318, 192, 1528), (10, 321, 185, 1539), (10, 324, 195, 1547), (10, 327, 201, 1559), (10, 330, 199, 1567), (10, 333, 198, 1563), (10, 337, 196, 1579), (10, 340, 202, 1575), (10, 343, 204, 1592), (10, 346, 205, 1588), (10, 349, 206, 1584), (10, 352, 214, 1612), (10, 355, 211, 1616), (10, 358, 212, 1624), (10, 361, 213, 1632), (10, 364, 218, 1640), (10, 367, 223, 1652), (10, 370, 221, 1655), (10, 374, 222, 1663), (10, 377, 227, 1675), (10, 382, 236, 1715), (10, 385, 237, 1711)]
def kcT : List (Nat × Nat × Int32 × Nat) := [(6, 56, 16777216, 841), (9, 268, (-16777216), 1053), (10, 381, 16777215, 1686), (11, 265, 1431655765, 783), (11, 266, 858993459, 784), (11, 267, 252645135, 785)]
def klT : List (Nat × Nat × Nat × Nat) := [(10, 194, 32, 1385), (10, 196, 97, 1386)]
def cpT : List (Nat × Nat × Nat × Nat) := [(0, 63, 0, 660), (1, 29, 1, 1044), (2, 52, 0, 1132), (5, 40, 0, 1012), (5, 125, 2, 938), (6, 88, 2, 863), (6, 93, 1, 866), (6, 118, 0, 885), (8, 40, 0, 1073), (9, 233, 2, 951), (9, 316, 1, 1153)]
def miT : List (Bool × Nat × Nat × Nat × Nat × Nat) := [(false, 0, 1, 132, 133, 83), (false, 1, 1, 657, 658, 83), (true, 1, 0, 595, 0, 83), (false, 2, 1, 692, 693, 83), (false, 1, 1, 731, 732, 83), (false, 0, 1, 830, 831, 83), (false, 2, 1, 645, 646, 83), (false, 0, 1, 140, 0, 83), (false, 1, 1, 739, 740, 83), (false, 1, 1, 747, 748, 83), (false, 2, 1, 735, 736, 83), (false, 2, 1, 743, 744, 83), (false, 3, 1, 727, 728, 83), (false, 4, 1, 814, 815, 83), (false, 2, 1, 810, 811, 83), (false, 1, 1, 822, 823, 83), (false, 1, 1, 944, 945, 83), (false, 1, 1, 978, 979, 83), (false, 1, 1, 1000, 1001, 83), (false, 0, 2, 665, 666, 89), (true, 3, 0, 1030, 0, 89), (false, 4, 2, 1026, 1027, 89), (false, 2, 2, 1037, 1038, 89), (false, 2, 2, 1042, 31, 89), (false, 0, 3, 676, 677, 91), (false, 2, 3, 1098, 1099, 91), (false, 0, 3, 1102, 1103, 91), (false, 0, 3, 1114, 1115, 91), (false, 4, 3, 1106, 1107, 91), (false, 3, 3, 1118, 1119, 91), (false, 2, 3, 1129, 1130, 91), (false, 3, 3, 1135, 32, 91), (false, 1, 3, 1142, 1143, 91), (false, 1, 3, 1150, 1151, 91), (false, 2, 4, 617, 618, 86), (false, 3, 4, 610, 611, 86), (true, 4, 0, 614, 0, 86), (false, 1, 5, 504, 505, 85), (false, 1, 5, 509, 1, 85), (false, 0, 5, 514, 2, 85), (true, 1, 0, 517, 0, 85), (false, 1, 5, 592, 6, 85), (false, 1, 5, 588, 5, 85), (false, 1, 5, 599, 7, 85), (false, 0, 5, 521, 3, 85), (false, 1, 5, 526, 4, 85), (false, 0, 5, 654, 17, 85), (false, 3, 5, 603, 8, 85), (false, 0, 5, 626, 11, 85), (false, 0, 5, 630, 12, 85), (false, 0, 5, 638, 14, 85), (false, 0, 5, 642, 15, 85), (false, 1, 5, 650, 16, 85), (false, 1, 5, 607, 9, 85), (false, 0, 5, 622, 10, 85), (false, 2, 5, 634, 13, 85), (false, 0, 6, 293, 294, 87), (false, 1, 6, 1009, 1010, 87), (false, 5, 6, 708, 709, 87), (false, 1, 6, 716, 717, 87), (false, 1, 6, 752, 753, 87), (false, 0, 6, 1159, 1160, 87), (false, 0, 6, 777, 778, 87), (false, 2, 6, 720, 721, 87), (true, 2, 0, 724, 0, 87), (false, 2, 6, 712, 713, 87), (false, 1, 6, 793, 794, 87), (false, 0, 6, 802, 803, 87), (false, 4, 6, 806, 807, 87), (false, 3, 6, 913, 28, 87), (false, 1, 6, 851, 852, 87), (false, 1, 6, 847, 848, 87), (false, 2, 6, 843, 844, 87), (false, 2, 6, 895, 896, 87), (false, 0, 6, 904, 905, 87), (false, 1, 6, 909, 27, 87), (false, 2, 6, 926, 927, 87), (false, 1, 6, 935, 936, 87), (false, 1, 6, 922, 923, 87), (false, 0, 6, 953, 954, 87), (false, 1, 6, 958, 29, 87), (false, 2, 6, 970, 971, 87), (false, 1, 6, 990, 991, 87), (false, 2, 7, 834, 835, 88), (false, 2, 7, 839, 19, 88), (false, 1, 7, 861, 21, 88), (false, 2, 7, 857, 20, 88), (false, 4, 7, 871, 22, 88), (false, 3, 7, 878, 23, 88), (false, 2, 7, 883, 24, 88), (false, 2, 7, 888, 25, 88), (false, 2, 7, 892, 26, 88), (false, 0, 8, 488, 489, 82), (false, 1, 8, 492, 493, 82), (false, 0, 9, 672, 673, 90), (false, 0, 9, 1055, 1056, 90), (false, 1, 9, 1050, 1051, 90), (false, 3, 9, 1059, 1060, 90), (false, 1, 9, 1070, 1071, 90), (false, 2, 9, 1079, 1080, 90), (false, 2, 9, 1089, 1090, 90), (false, 5, 10, 484, 485, 81), (false, 1, 10, 496, 497, 81), (false, 0, 10, 500, 501, 81), (false, 1, 10, 680, 681, 81), (false, 1, 10, 684, 685, 81), (false, 2, 10, 688, 689, 81), (false, 1, 10, 696, 697, 81), (false, 5, 10, 700, 701, 81), (false, 4, 10, 705, 18, 81), (false, 1, 10, 756, 757, 81), (false, 2, 10, 761, 762, 81), (false, 2, 10, 765, 766, 81), (false, 2, 10, 772, 773, 81), (false, 0, 10, 789, 790, 81), (false, 0, 10, 798, 799, 81), (false, 1, 10, 818, 819, 81), (false, 1, 10, 826, 827, 81), (false, 0, 10, 900, 901, 81), (false, 1, 10, 918, 919, 81), (false, 1, 10, 930, 931, 81), (false, 1, 10, 940, 941, 81), (false, 1, 10, 948, 949, 81), (false, 2, 10, 967, 30, 81), (false, 2, 10, 962, 963, 81), (false, 2, 10, 974, 975, 81), (false, 2, 10, 982, 983, 81), (false, 1, 10, 986, 987, 81), (false, 3, 10, 996, 997, 81), (false, 1, 10, 1005, 1006, 81), (false, 1, 10, 1014, 1015, 81), (false, 3, 10, 1018, 1019, 81), (false, 4, 10, 1022, 1023, 81), (false, 1, 10, 1033, 1034, 81), (false, 3, 10, 1046, 1047, 81), (false, 1, 10, 1063, 1064, 81), (false, 1, 10, 1075, 1076, 81), (false, 1, 10, 1085, 1086, 81), (true, 1, 0, 1067, 0, 81), (false, 4, 10, 1094, 1095, 81), (false, 3, 10, 1110, 1111, 81), (false, 2, 10, 1122, 1123, 81), (false, 3, 10, 1138, 1139, 81), (false, 1, 10, 1146, 1147, 81), (true, 1, 0, 1126, 0, 81), (false, 1, 10, 1155, 1156, 81), (true, 3, 0, 1434, 0, 92), (false, 5, 11, 1359, 1360, 92), (false, 1, 11, 1363, 1364, 92), (false, 1, 11, 1380, 36, 92), (true, 1, 0, 1383, 0, 92), (true, 1, 0, 1395, 0, 92), (false, 2, 11, 1389, 37, 92), (false, 0, 11, 1376, 35, 92), (false, 1, 11, 1407, 40, 92), (false, 2, 11, 1431, 46, 92), (false, 0, 11, 1419, 43, 92), (false, 0, 11, 1415, 42, 92), (false, 1, 11, 1367, 1368, 92), (false, 0, 11, 1170, 33, 92), (true, 2, 0, 1177, 0, 92), (false, 0, 11, 1174, 34, 92), (false, 2, 11, 1411, 41, 92), (false, 3, 11, 1403, 39, 92), (false, 0, 11, 1423, 44, 92), (false, 0, 11, 1427, 45, 92), (false, 0, 11, 1438, 47, 92), (false, 0, 11, 1442, 48, 92), (false, 1, 11, 1446, 49, 92), (false, 0, 11, 1399, 38, 92), (false, 0, 11, 1371, 1372, 92), (false, 1, 11, 1449, 1450, 92), (false, 1, 11, 1458, 50, 92), (false, 1, 11, 1462, 51, 92), (false, 1, 11, 1466, 52, 92), (false, 1, 11, 1470, 53, 92), (false, 1, 11, 1474, 54, 92), (false, 2, 11, 1453, 1454, 92), (false, 1, 11, 1477, 1478, 92), (false, 1, 11, 1506, 60, 92), (false, 2, 11, 1502, 59, 92), (false, 2, 11, 1498, 58, 92), (false, 2, 11, 1494, 57, 92), (false, 2, 11, 1510, 61, 92), (false, 2, 11, 1490, 56, 92), (false, 1, 11, 1541, 63, 92), (false, 5, 11, 1486, 55, 92), (false, 5, 11, 1481, 1482, 92), (false, 1, 11, 1513, 1514, 92), (false, 2, 11, 1517, 1518, 92), (false, 2, 11, 1521, 1522, 92), (true, 1, 0, 1533, 0, 92), (false, 0, 11, 1530, 62, 92), (false, 2, 11, 1525, 1526, 92), (false, 0, 11, 1536, 1537, 92), (false, 1, 11, 1549, 64, 92), (false, 0, 11, 1544, 1545, 92), (false, 1, 11, 1552, 1553, 92), (false, 2, 11, 1565, 66, 92), (false, 1, 11, 1569, 67, 92), (false, 1, 11, 1556, 1557, 92), (false, 2, 11, 1561, 65, 92), (false, 0, 11, 1577, 68, 92), (false, 0, 11, 1572, 1573, 92), (false, 2, 11, 1594, 71, 92), (false, 2, 11, 1590, 70, 92), (false, 1, 11, 1586, 69, 92), (false, 1, 11, 1581, 1582, 92), (false, 1, 11, 1597, 1598, 92), (false, 1, 11, 1601, 1602, 92), (false, 1, 11, 1605, 1606, 92), (false, 2, 11, 1618, 73, 92), (false, 1, 11, 1626, 74, 92), (false, 2, 11, 1634, 75, 92), (false, 2, 11, 1614, 72, 92), (false, 2, 11, 1609, 1610, 92), (false, 2, 11, 1621, 1622, 92), (false, 2, 11, 1629, 1630, 92), (false, 1, 11, 1642, 76, 92), (false, 1, 11, 1637, 1638, 92), (false, 3, 11, 1645, 1646, 92), (false, 1, 11, 1657, 77, 92), (false, 1, 11, 1665, 78, 92), (true, 1, 0, 1653, 0, 92), (false, 1, 11, 1649, 1650, 92), (false, 1, 11, 1660, 1661, 92), (false, 3, 11, 1668, 1669, 92), (true, 3, 0, 1676, 0, 92), (false, 4, 11, 1672, 1673, 92), (false, 1, 11, 1679, 1680, 92), (false, 3, 11, 1683, 1684, 92), (false, 1, 11, 1688, 1689, 92), (false, 1, 11, 1692, 1693, 92), (false, 1, 11, 1696, 1697, 92), (false, 4, 11, 1700, 1701, 92), (false, 3, 11, 1704, 1705, 92), (true, 1, 0, 1716, 0, 92), (false, 2, 11, 1713, 79, 92), (false, 2, 11, 1708, 1709, 92), (false, 3, 11, 1719, 1720, 92), (false, 1, 11, 1723, 1724, 92), (false, 1, 11, 1727, 1728, 92), (true, 1, 0, 781, 0, 98), (true, 2, 0, 136, 0, 84), (true, 2, 0, 669, 0, 84)]
def hasW (i : Nat) (w : Cond) : Bool := decide (lw_tbl[i]? = some w) && goodWord w
theorem hasW_in {i : Nat} {w : Cond} (h : hasW i w = true) : w ∈ tg := by
  unfold hasW at h
  rw [Bool.and_eq_true] at h
  exact wq i (of_decide_eq_true h.1) h.2
def flC (q : Nat × Nat × Nat × Nat × Nat) : Bool := match vwCl[q.2.2.1]? with
  | some (_, T, N) => decide (q.2.2.2.1 < N) && hasW q.2.2.2.2 (Cond.fieldLink (cn q.1) q.2.1 (T q.2.2.2.1).1 (T q.2.2.2.1).2.1 (T q.2.2.2.1).2.2.1)
  | none => false
def mlC (q : Nat × Nat × Nat × Nat) : Bool := match Inf[q.2.2.1]? with
  | some (y, _) => hasW q.2.2.2 (Cond.methodLink (cn q.1) q.2.1 y)
  | none => false
def kcC (q : Nat × Nat × Int32 × Nat) : Bool := hasW q.2.2.2 (Cond.constant (cn q.1) q.2.1 q.2.2.1)
def klC (q : Nat × Nat × Nat × Nat) : Bool := hasW q.2.2.2 (Cond.constantLong (cn q.1) q.2.1 (lN q.2.2.1))
def cpC (q : Nat × Nat × Nat × Nat) : Bool := hasW q.2.2.2 (Cond.methodLink (cn q.1) q.2.1 (pPn q.2.2.1))
def miC (q : Nat × Bool × Nat × Nat × Nat × Nat × Nat) : Bool := match Inf[q.1]? with
  | some (y, _, maxL, _) => decide (y.cls ≠ "java/lang/invoke/MethodHandle") && decide (y.cls ≠ "java/lang/invoke/VarHandle") && decide ((parseMethodDescriptor y.desc).map (fun d => d.parameters.length) = some q.2.2.1) && hasW q.2.2.2.2.2.2 (Cond.initialized y.cls) && plainName y.cls && decide (maxL ≤ 40) &&
    (if q.2.1 then hasW q.2.2.2.2.1 (Cond.static y) && decide (q.2.2.1 ≤ maxL) else hasW q.2.2.2.2.1 (Cond.instanceMethod y) && hasW q.2.2.2.2.2.1 (Cond.selects y.cls y y) && decide (q.2.2.1 + 1 ≤ maxL) && decide (q.2.2.2.1 ≠ 0) && (match vwCl[q.2.2.2.1 - 1]? with | some c => decide (c.1 = y.cls) | none => false))
  | none => false
theorem flOk : flT.all flC = true := by decide +kernel
theorem mlOk : mlT.all mlC = true := by decide +kernel
theorem kcOk : kcT.all kcC = true := by decide +kernel
theorem klOk : klT.all klC = true := by decide +kernel
theorem cpOk : cpT.all cpC = true := by decide +kernel
theorem coOk : hasW 662 (Cond.native arraycopyName) = true ∧ hasW 661 (Cond.static arraycopyName) = true ∧ hasW 97 (Cond.initialized "java/lang/System") = true := by decide +kernel
theorem inT {w : Cond} (h : w ∈ tables_1) (g : goodWord w = true) : w ∈ tg := List.mem_filter.mpr ⟨List.mem_append_right _ h, g⟩
theorem inT1 {w : Cond} (h : w ∈ tables_1_1) (g : goodWord w = true) : w ∈ tg := inT (List.mem_append_left _ h) g
theorem inT2 {w : Cond} (h : w ∈ tables_1_2) (g : goodWord w = true) : w ∈ tg := inT (List.mem_append_right _ (List.mem_append_left _ h)) g
theorem inT3 {w : Cond} (h : w ∈ tables_1_3) (g : goodWord w = true) : w ∈ tg := inT (List.mem_append_right _ (List.mem_append_right _ (List.mem_append_left _ h))) g
theorem inT4 {w : Cond} (h : w ∈ tables_1_4) (g : goodWord w = true) : w ∈ tg := inT (List.mem_append_right _ (List.mem_append_right _ (List.mem_append_right _ (List.mem_append_left _ h)))) g
theorem inT5 {w : Cond} (h : w ∈ tables_1_5) (g : goodWord w = true) : w ∈ tg := inT (List.mem_append_right _ (List.mem_append_right _ (List.mem_append_right _ (List.mem_append_right _ (List.mem_append_left _ h))))) g
theorem inT6 {w : Cond} (h : w ∈ tables_1_6) (g : goodWord w = true) : w ∈ tg := inT (List.mem_append_right _ (List.mem_append_right _ (List.mem_append_right _ (List.mem_append_right _ (List.mem_append_right _ (List.mem_append_left _ h)))))) g
theorem inT7 {w : Cond} (h : w ∈ tables_1_7) (g : goodWord w = true) : w ∈ tg := inT (List.mem_append_right _ (List.mem_append_right _ (List.mem_append_right _ (List.mem_append_right _ (List.mem_append_right _ (List.mem_append_right _ (h))))))) g
set_option maxRecDepth 20000 in
theorem cd0 : Cond.code yX0_clear cX0_clear 1 none ∈ tg := inT1 (List.mem_of_getElem? (i := 54) rfl) rfl
set_option maxRecDepth 20000 in
theorem cd1 : Cond.code yX0_copyFrom cX0_copyFrom 2 none ∈ tg := inT3 (List.mem_of_getElem? (i := 99) rfl) rfl
set_option maxRecDepth 20000 in
theorem cd2 : Cond.code yX0_roomFor cX0_roomFor 1 (some .int) ∈ tg := inT3 (List.mem_of_getElem? (i := 36) rfl) rfl
set_option maxRecDepth 20000 in
theorem cd3 : Cond.code yX0_has cX0_has 3 (some .boolean) ∈ tg := inT3 (List.mem_of_getElem? (i := 134) rfl) rfl
set_option maxRecDepth 20000 in
theorem cd4 : Cond.code yX0_setting cX0_setting 2 (some .int) ∈ tg := inT3 (List.mem_of_getElem? (i := 173) rfl) rfl
set_option maxRecDepth 20000 in
theorem cd5 : Cond.code yX0_allPlaces cX0_allPlaces 1 (some .int) ∈ tg := inT4 (List.mem_of_getElem? (i := 32) rfl) rfl
set_option maxRecDepth 20000 in
theorem cd6 : Cond.code yX0_weigh cX0_weigh 4 none ∈ tg := inT3 (List.mem_of_getElem? (i := 87) rfl) rfl
set_option maxRecDepth 20000 in
theorem cd7 : Cond.code yX0_sumGroups cX0_sumGroups 5 none ∈ tg := inT1 (List.mem_of_getElem? (i := 61) rfl) rfl
set_option maxRecDepth 20000 in
theorem cd8 : Cond.code yX0_weightsOf cX0_weightsOf 3 (some .int) ∈ tg := inT3 (List.mem_of_getElem? (i := 181) rfl) rfl
set_option maxRecDepth 20000 in
theorem cd9 : Cond.code yX0_traitsOfNotionAt cX0_traitsOfNotionAt 2 (some .int) ∈ tg := inT3 (List.mem_of_getElem? (i := 189) rfl) rfl
set_option maxRecDepth 20000 in
theorem cd10 : Cond.code yX0_lacksOf cX0_lacksOf 3 (some .int) ∈ tg := inT3 (List.mem_of_getElem? (i := 177) rfl) rfl
set_option maxRecDepth 20000 in
theorem cd11 : Cond.code yX0_addsOf cX0_addsOf 3 (some .int) ∈ tg := inT3 (List.mem_of_getElem? (i := 185) rfl) rfl
set_option maxRecDepth 20000 in
theorem cd12 : Cond.code yX0_lostByTraits cX0_lostByTraits 4 (some .int) ∈ tg := inT3 (List.mem_of_getElem? (i := 169) rfl) rfl
set_option maxRecDepth 20000 in
theorem cd13 : Cond.code yX0_wouldClash cX0_wouldClash 5 (some .boolean) ∈ tg := inT4 (List.mem_of_getElem? (i := 16) rfl) rfl
set_option maxRecDepth 20000 in
theorem cd14 : Cond.code yX0_otherPlace cX0_otherPlace 3 (some .int) ∈ tg := inT4 (List.mem_of_getElem? (i := 12) rfl) rfl
set_option maxRecDepth 20000 in
theorem cd15 : Cond.code yX0_boundBy cX0_boundBy 7 (some .int) ∈ tg := inT4 (List.mem_of_getElem? (i := 24) rfl) rfl
set_option maxRecDepth 20000 in
theorem cd16 : Cond.code yX0_wordForAll cX0_wordForAll 4 (some .int) ∈ tg := inT4 (List.mem_of_getElem? (i := 146) rfl) rfl
set_option maxRecDepth 20000 in
theorem cd17 : Cond.code yX0_toldBack cX0_toldBack 7 (some .int) ∈ tg := inT4 (List.mem_of_getElem? (i := 180) rfl) rfl
set_option maxRecDepth 20000 in
theorem cd18 : Cond.code yX0_traitsSaidFor cX0_traitsSaidFor 6 (some .int) ∈ tg := inT4 (List.mem_of_getElem? (i := 202) rfl) rfl
set_option maxRecDepth 20000 in
theorem cd19 : Cond.code yX1_clear cX1_clear 1 none ∈ tg := inT3 (List.mem_of_getElem? (i := 107) rfl) rfl
set_option maxRecDepth 20000 in
theorem cd20 : Cond.code yX1_indexOf cX1_indexOf 3 (some .int) ∈ tg := inT4 (List.mem_of_getElem? (i := 231) rfl) rfl
set_option maxRecDepth 20000 in
theorem cd21 : Cond.code yX1_put cX1_put 7 (some .int) ∈ tg := inT4 (List.mem_of_getElem? (i := 228) rfl) rfl
set_option maxRecDepth 20000 in
theorem cd22 : Cond.code yX1_agreed cX1_agreed 7 (some .int) ∈ tg := inT4 (List.mem_of_getElem? (i := 239) rfl) rfl
set_option maxRecDepth 20000 in
theorem cd23 : Cond.code yX1_costOf cX1_costOf 7 (some .int) ∈ tg := inT5 (List.mem_of_getElem? (i := 3) rfl) rfl
set_option maxRecDepth 20000 in
theorem cd24 : Cond.code yX2_clear cX2_clear 1 none ∈ tg := inT3 (List.mem_of_getElem? (i := 118) rfl) rfl
set_option maxRecDepth 20000 in
theorem cd25 : Cond.code yX2_mayTell cX2_mayTell 3 (some .boolean) ∈ tg := inT5 (List.mem_of_getElem? (i := 60) rfl) rfl
set_option maxRecDepth 20000 in
theorem cd26 : Cond.code yX2_isFull cX2_isFull 1 (some .boolean) ∈ tg := inT5 (List.mem_of_getElem? (i := 64) rfl) rfl
set_option maxRecDepth 20000 in
theorem cd27 : Cond.code yX2_isFullOfRights cX2_isFullOfRights 1 (some .boolean) ∈ tg := inT5 (List.mem_of_getElem? (i := 76) rfl) rfl
set_option maxRecDepth 20000 in
theorem cd28 : Cond.code yX2_append cX2_append 6 (some .int) ∈ tg := inT5 (List.mem_of_getElem? (i := 68) rfl) rfl
set_option maxRecDepth 20000 in
theorem cd29 : Cond.code yX2_putRight cX2_putRight 4 (some .int) ∈ tg := inT5 (List.mem_of_getElem? (i := 80) rfl) rfl
set_option maxRecDepth 20000 in
theorem cd30 : Cond.code yX2_gather cX2_gather 6 (some .int) ∈ tg := inT5 (List.mem_of_getElem? (i := 91) rfl) rfl
set_option maxRecDepth 20000 in
theorem cd31 : Cond.code yX2_fitsAll cX2_fitsAll 6 (some .boolean) ∈ tg := inT5 (List.mem_of_getElem? (i := 96) rfl) rfl
set_option maxRecDepth 20000 in
theorem cd32 : Cond.code yX2_setsWith cX2_setsWith 4 (some .int) ∈ tg := inT5 (List.mem_of_getElem? (i := 104) rfl) rfl
set_option maxRecDepth 20000 in
theorem cd33 : Cond.code yX2_setsWithin cX2_setsWithin 4 (some .int) ∈ tg := inT5 (List.mem_of_getElem? (i := 112) rfl) rfl
set_option maxRecDepth 20000 in
theorem cd34 : Cond.code yX3_append cX3_append 3 none ∈ tg := inT3 (List.mem_of_getElem? (i := 59) rfl) rfl
set_option maxRecDepth 20000 in
theorem cd35 : Cond.code yX3_find cX3_find 5 (some .int) ∈ tg := inT3 (List.mem_of_getElem? (i := 52) rfl) rfl
set_option maxRecDepth 20000 in
theorem cd36 : Cond.code yX3_isSame cX3_isSame 5 (some .boolean) ∈ tg := inT3 (List.mem_of_getElem? (i := 55) rfl) rfl
set_option maxRecDepth 20000 in
theorem cd37 : Cond.code yX4_read cX4_read 4 (some .int) ∈ tg := inT2 (List.mem_of_getElem? (i := 186) rfl) rfl
set_option maxRecDepth 20000 in
theorem cd38 : Cond.code yX4_begin cX4_begin 2 none ∈ tg := inT2 (List.mem_of_getElem? (i := 190) rfl) rfl
set_option maxRecDepth 20000 in
theorem cd39 : Cond.code yX4_advance cX4_advance 1 none ∈ tg := inT2 (List.mem_of_getElem? (i := 195) rfl) rfl
set_option maxRecDepth 20000 in
theorem cd40 : Cond.code yX4_signOf cX4_signOf 1 (some .char) ∈ tg := inT2 (List.mem_of_getElem? (i := 198) rfl) rfl
set_option maxRecDepth 20000 in
theorem cd41 : Cond.code yX4_refuse cX4_refuse 2 (some .boolean) ∈ tg := inT3 (List.mem_of_getElem? (i := 33) rfl) rfl
set_option maxRecDepth 20000 in
theorem cd42 : Cond.code yX4_mayBegin cX4_mayBegin 2 (some .boolean) ∈ tg := inT3 (List.mem_of_getElem? (i := 29) rfl) rfl
set_option maxRecDepth 20000 in
theorem cd43 : Cond.code yX4_readBody cX4_readBody 2 (some .boolean) ∈ tg := inT3 (List.mem_of_getElem? (i := 40) rfl) rfl
set_option maxRecDepth 20000 in
theorem cd44 : Cond.code yX4_keyword cX4_keyword 1 (some .int) ∈ tg := inT2 (List.mem_of_getElem? (i := 202) rfl) rfl
set_option maxRecDepth 20000 in
theorem cd45 : Cond.code yX4_isWord cX4_isWord 3 (some .boolean) ∈ tg := inT2 (List.mem_of_getElem? (i := 207) rfl) rfl
set_option maxRecDepth 20000 in
theorem cd46 : Cond.code yX4_readSemicolon cX4_readSemicolon 1 (some .boolean) ∈ tg := inT3 (List.mem_of_getElem? (i := 95) rfl) rfl
set_option maxRecDepth 20000 in
theorem cd47 : Cond.code yX4_readTraits cX4_readTraits 4 (some .boolean) ∈ tg := inT3 (List.mem_of_getElem? (i := 44) rfl) rfl
set_option maxRecDepth 20000 in
theorem cd48 : Cond.code yX4_readPlace cX4_readPlace 3 (some .boolean) ∈ tg := inT3 (List.mem_of_getElem? (i := 67) rfl) rfl
set_option maxRecDepth 20000 in
theorem cd49 : Cond.code yX4_readTie cX4_readTie 5 (some .boolean) ∈ tg := inT3 (List.mem_of_getElem? (i := 71) rfl) rfl
set_option maxRecDepth 20000 in
theorem cd50 : Cond.code yX4_readHearer cX4_readHearer 3 (some .boolean) ∈ tg := inT3 (List.mem_of_getElem? (i := 79) rfl) rfl
set_option maxRecDepth 20000 in
theorem cd51 : Cond.code yX4_readWeight cX4_readWeight 1 (some .boolean) ∈ tg := inT3 (List.mem_of_getElem? (i := 83) rfl) rfl
set_option maxRecDepth 20000 in
theorem cd52 : Cond.code yX4_readSetting cX4_readSetting 2 (some .boolean) ∈ tg := inT3 (List.mem_of_getElem? (i := 91) rfl) rfl
set_option maxRecDepth 20000 in
theorem cd53 : Cond.code yX4_readNewName cX4_readNewName 2 (some .boolean) ∈ tg := inT3 (List.mem_of_getElem? (i := 48) rfl) rfl
set_option maxRecDepth 20000 in
theorem cd54 : Cond.code yX4_readSet cX4_readSet 3 (some .boolean) ∈ tg := inT3 (List.mem_of_getElem? (i := 63) rfl) rfl
set_option maxRecDepth 20000 in
theorem cd55 : Cond.code yX4_readNumber cX4_readNumber 4 (some .boolean) ∈ tg := inT3 (List.mem_of_getElem? (i := 75) rfl) rfl
set_option maxRecDepth 20000 in
theorem cd56 : Cond.code yX5_clear cX5_clear 1 none ∈ tg := inT1 (List.mem_of_getElem? (i := 215) rfl) rfl
set_option maxRecDepth 20000 in
theorem cd57 : Cond.code yX5_copyFrom cX5_copyFrom 2 none ∈ tg := inT4 (List.mem_of_getElem? (i := 211) rfl) rfl
set_option maxRecDepth 20000 in
theorem cd58 : Cond.code yX5_put cX5_put 6 none ∈ tg := inT3 (List.mem_of_getElem? (i := 150) rfl) rfl
set_option maxRecDepth 20000 in
theorem cd59 : Cond.code yX5_isChosen cX5_isChosen 2 (some .boolean) ∈ tg := inT3 (List.mem_of_getElem? (i := 158) rfl) rfl
set_option maxRecDepth 20000 in
theorem cd60 : Cond.code yX5_isBorrowed cX5_isBorrowed 2 (some .boolean) ∈ tg := inT3 (List.mem_of_getElem? (i := 194) rfl) rfl
set_option maxRecDepth 20000 in
theorem cd61 : Cond.code yX5_chosen cX5_chosen 3 (some .int) ∈ tg := inT5 (List.mem_of_getElem? (i := 121) rfl) rfl
set_option maxRecDepth 20000 in
theorem cd62 : Cond.code yX5_noted cX5_noted 3 (some .int) ∈ tg := inT3 (List.mem_of_getElem? (i := 219) rfl) rfl
set_option maxRecDepth 20000 in
theorem cd63 : Cond.code yX5_traitsAt cX5_traitsAt 3 (some .int) ∈ tg := inT3 (List.mem_of_getElem? (i := 162) rfl) rfl
set_option maxRecDepth 20000 in
theorem cd64 : Cond.code yX5_traitsOf cX5_traitsOf 2 (some .int) ∈ tg := inT3 (List.mem_of_getElem? (i := 165) rfl) rfl
set_option maxRecDepth 20000 in
theorem cd65 : Cond.code yX5_lostAt cX5_lostAt 4 (some .int) ∈ tg := inT3 (List.mem_of_getElem? (i := 154) rfl) rfl
set_option maxRecDepth 20000 in
theorem cd66 : Cond.code yX5_lostOfAll cX5_lostOfAll 4 (some .int) ∈ tg := inT3 (List.mem_of_getElem? (i := 235) rfl) rfl
set_option maxRecDepth 20000 in
theorem cd67 : Cond.code yX5_clashBits cX5_clashBits 4 (some .int) ∈ tg := inT4 (List.mem_of_getElem? (i := 4) rfl) rfl
set_option maxRecDepth 20000 in
theorem cd68 : Cond.code yX5_isClashing cX5_isClashing 6 (some .boolean) ∈ tg := inT4 (List.mem_of_getElem? (i := 8) rfl) rfl
set_option maxRecDepth 20000 in
theorem cd69 : Cond.code yX5_clashesAt cX5_clashesAt 6 (some .int) ∈ tg := inT4 (List.mem_of_getElem? (i := 114) rfl) rfl
set_option maxRecDepth 20000 in
theorem cd70 : Cond.code yX5_isBorrowedOption cX5_isBorrowedOption 2 (some .boolean) ∈ tg := inT4 (List.mem_of_getElem? (i := 53) rfl) rfl
set_option maxRecDepth 20000 in
theorem cd71 : Cond.code yX5_traitsOfOption cX5_traitsOfOption 2 (some .int) ∈ tg := inT4 (List.mem_of_getElem? (i := 49) rfl) rfl
set_option maxRecDepth 20000 in
theorem cd72 : Cond.code yX5_lostWithOption cX5_lostWithOption 3 (some .int) ∈ tg := inT4 (List.mem_of_getElem? (i := 45) rfl) rfl
set_option maxRecDepth 20000 in
theorem cd73 : Cond.code yX5_putOption cX5_putOption 3 none ∈ tg := inT4 (List.mem_of_getElem? (i := 97) rfl) rfl
set_option maxRecDepth 20000 in
theorem cd74 : Cond.code yX5_exchangeRound cX5_exchangeRound 3 (some .boolean) ∈ tg := inT4 (List.mem_of_getElem? (i := 106) rfl) rfl
set_option maxRecDepth 20000 in
theorem cd75 : Cond.code yX5_exchangeAt cX5_exchangeAt 6 (some .boolean) ∈ tg := inT4 (List.mem_of_getElem? (i := 110) rfl) rfl
set_option maxRecDepth 20000 in
theorem cd76 : Cond.code yX5_lostWithWord cX5_lostWithWord 5 (some .int) ∈ tg := inT4 (List.mem_of_getElem? (i := 128) rfl) rfl
set_option maxRecDepth 20000 in
theorem cd77 : Cond.code yX5_lostWithLeast cX5_lostWithLeast 6 (some .int) ∈ tg := inT4 (List.mem_of_getElem? (i := 137) rfl) rfl
set_option maxRecDepth 20000 in
theorem cd78 : Cond.code yX5_oneWord cX5_oneWord 6 (some .int) ∈ tg := inT4 (List.mem_of_getElem? (i := 124) rfl) rfl
set_option maxRecDepth 20000 in
theorem cd79 : Cond.code yX5_mendOnce cX5_mendOnce 7 (some .boolean) ∈ tg := inT4 (List.mem_of_getElem? (i := 155) rfl) rfl
set_option maxRecDepth 20000 in
theorem cd80 : Cond.code yX5_untoldLacks cX5_untoldLacks 2 (some .int) ∈ tg := inT4 (List.mem_of_getElem? (i := 159) rfl) rfl
set_option maxRecDepth 20000 in
theorem cd81 : Cond.code yX5_heardAt cX5_heardAt 3 (some .int) ∈ tg := inT4 (List.mem_of_getElem? (i := 172) rfl) rfl
set_option maxRecDepth 20000 in
theorem cd82 : Cond.code yX5_rightOf cX5_rightOf 4 (some .int) ∈ tg := inT4 (List.mem_of_getElem? (i := 192) rfl) rfl
set_option maxRecDepth 20000 in
theorem cd83 : Cond.code yX6_putBest cX6_putBest 4 (some .boolean) ∈ tg := inT4 (List.mem_of_getElem? (i := 36) rfl) rfl
set_option maxRecDepth 20000 in
theorem cd84 : Cond.code yX6_begin cX6_begin 5 none ∈ tg := inT4 (List.mem_of_getElem? (i := 40) rfl) rfl
set_option maxRecDepth 20000 in
theorem cd85 : Cond.code yX6_levelOf cX6_levelOf 3 (some .int) ∈ tg := inT4 (List.mem_of_getElem? (i := 62) rfl) rfl
set_option maxRecDepth 20000 in
theorem cd86 : Cond.code yX6_obeyTie cX6_obeyTie 5 none ∈ tg := inT4 (List.mem_of_getElem? (i := 58) rfl) rfl
set_option maxRecDepth 20000 in
theorem cd87 : Cond.code yX6_obeyInside cX6_obeyInside 10 none ∈ tg := inT4 (List.mem_of_getElem? (i := 72) rfl) rfl
set_option maxRecDepth 20000 in
theorem cd88 : Cond.code yX6_obeyOutside cX6_obeyOutside 5 none ∈ tg := inT4 (List.mem_of_getElem? (i := 79) rfl) rfl
set_option maxRecDepth 20000 in
theorem cd89 : Cond.code yX6_settle cX6_settle 5 none ∈ tg := inT4 (List.mem_of_getElem? (i := 84) rfl) rfl
set_option maxRecDepth 20000 in
theorem cd90 : Cond.code yX6_narrow cX6_narrow 6 (some .int) ∈ tg := inT4 (List.mem_of_getElem? (i := 89) rfl) rfl
set_option maxRecDepth 20000 in
theorem cd91 : Cond.code yX6_leastOf cX6_leastOf 5 (some .int) ∈ tg := inT4 (List.mem_of_getElem? (i := 93) rfl) rfl
set_option maxRecDepth 20000 in
theorem cd92 : Cond.code yX7_hasRoom cX7_hasRoom 1 (some .boolean) ∈ tg := inT2 (List.mem_of_getElem? (i := 170) rfl) rfl
set_option maxRecDepth 20000 in
theorem cd93 : Cond.code yX7_append cX7_append 3 none ∈ tg := inT2 (List.mem_of_getElem? (i := 174) rfl) rfl
set_option maxRecDepth 20000 in
theorem cd94 : Cond.code yX8_clear cX8_clear 1 none ∈ tg := inT3 (List.mem_of_getElem? (i := 114) rfl) rfl
set_option maxRecDepth 20000 in
theorem cd95 : Cond.code yX8_isFull cX8_isFull 1 (some .boolean) ∈ tg := inT5 (List.mem_of_getElem? (i := 17) rfl) rfl
set_option maxRecDepth 20000 in
theorem cd96 : Cond.code yX8_latestOf cX8_latestOf 4 (some .int) ∈ tg := inT5 (List.mem_of_getElem? (i := 12) rfl) rfl
set_option maxRecDepth 20000 in
theorem cd97 : Cond.code yX8_append cX8_append 4 (some .int) ∈ tg := inT5 (List.mem_of_getElem? (i := 21) rfl) rfl
set_option maxRecDepth 20000 in
theorem cd98 : Cond.code yX8_wordsIn cX8_wordsIn 3 (some (.array .int)) ∈ tg := inT5 (List.mem_of_getElem? (i := 32) rfl) rfl
set_option maxRecDepth 20000 in
theorem cd99 : Cond.code yX8_turns cX8_turns 7 (some .int) ∈ tg := inT5 (List.mem_of_getElem? (i := 41) rfl) rfl
set_option maxRecDepth 20000 in
theorem cd100 : Cond.code yX8_firstAbove cX8_firstAbove 6 (some .int) ∈ tg := inT5 (List.mem_of_getElem? (i := 51) rfl) rfl
set_option maxRecDepth 20000 in
theorem cd101 : Cond.code yX9_feed cX9_feed 6 (some .int) ∈ tg := inT2 (List.mem_of_getElem? (i := 166) rfl) rfl
set_option maxRecDepth 20000 in
theorem cd102 : Cond.code yX9_end cX9_end 2 (some .int) ∈ tg := inT2 (List.mem_of_getElem? (i := 178) rfl) rfl
set_option maxRecDepth 20000 in
theorem cd103 : Cond.code yX9_book cX9_book 3 (some .int) ∈ tg := inT2 (List.mem_of_getElem? (i := 182) rfl) rfl
set_option maxRecDepth 20000 in
theorem cd104 : Cond.code yX9_fault cX9_fault 2 (some .int) ∈ tg := inT3 (List.mem_of_getElem? (i := 122) rfl) rfl
set_option maxRecDepth 20000 in
theorem cd105 : Cond.code yX9_told cX9_told 2 (some .int) ∈ tg := inT3 (List.mem_of_getElem? (i := 126) rfl) rfl
set_option maxRecDepth 20000 in
theorem cd106 : Cond.code yX9_traits cX9_traits 3 (some .int) ∈ tg := inT3 (List.mem_of_getElem? (i := 130) rfl) rfl
set_option maxRecDepth 20000 in
theorem cd107 : Cond.code yX9_notion cX9_notion 2 (some .int) ∈ tg := inT3 (List.mem_of_getElem? (i := 138) rfl) rfl
set_option maxRecDepth 20000 in
theorem cd108 : Cond.code yX9_choose cX9_choose 6 (some .int) ∈ tg := inT3 (List.mem_of_getElem? (i := 142) rfl) rfl
set_option maxRecDepth 20000 in
theorem cd109 : Cond.code yX9_wordsAreFit cX9_wordsAreFit 5 (some .boolean) ∈ tg := inT3 (List.mem_of_getElem? (i := 146) rfl) rfl
set_option maxRecDepth 20000 in
theorem cd110 : Cond.code yX9_leave cX9_leave 2 (some .int) ∈ tg := inT3 (List.mem_of_getElem? (i := 198) rfl) rfl
set_option maxRecDepth 20000 in
theorem cd111 : Cond.code yX9_choice cX9_choice 3 (some .int) ∈ tg := inT3 (List.mem_of_getElem? (i := 203) rfl) rfl
set_option maxRecDepth 20000 in
theorem cd112 : Cond.code yX9_bears cX9_bears 4 (some .int) ∈ tg := inT3 (List.mem_of_getElem? (i := 207) rfl) rfl
set_option maxRecDepth 20000 in
theorem cd113 : Cond.code yX9_note cX9_note 4 (some .int) ∈ tg := inT3 (List.mem_of_getElem? (i := 214) rfl) rfl
set_option maxRecDepth 20000 in
theorem cd114 : Cond.code yX9_lost cX9_lost 1 (some .int) ∈ tg := inT3 (List.mem_of_getElem? (i := 231) rfl) rfl
set_option maxRecDepth 20000 in
theorem cd115 : Cond.code yX9_clashes cX9_clashes 1 (some .int) ∈ tg := inT4 (List.mem_of_getElem? (i := 0) rfl) rfl
set_option maxRecDepth 20000 in
theorem cd116 : Cond.code yX9_bound cX9_bound 2 (some .int) ∈ tg := inT4 (List.mem_of_getElem? (i := 20) rfl) rfl
set_option maxRecDepth 20000 in
theorem cd117 : Cond.code yX9_best cX9_best 3 (some .int) ∈ tg := inT4 (List.mem_of_getElem? (i := 28) rfl) rfl
set_option maxRecDepth 20000 in
theorem cd118 : Cond.code yX9_exchange cX9_exchange 3 (some .int) ∈ tg := inT4 (List.mem_of_getElem? (i := 102) rfl) rfl
set_option maxRecDepth 20000 in
theorem cd119 : Cond.code yX9_one cX9_one 2 (some .int) ∈ tg := inT4 (List.mem_of_getElem? (i := 120) rfl) rfl
set_option maxRecDepth 20000 in
theorem cd120 : Cond.code yX9_price cX9_price 3 (some .int) ∈ tg := inT4 (List.mem_of_getElem? (i := 132) rfl) rfl
set_option maxRecDepth 20000 in
theorem cd121 : Cond.code yX9_swap cX9_swap 2 (some .int) ∈ tg := inT4 (List.mem_of_getElem? (i := 142) rfl) rfl
set_option maxRecDepth 20000 in
theorem cd122 : Cond.code yX9_mend cX9_mend 4 (some .int) ∈ tg := inT4 (List.mem_of_getElem? (i := 150) rfl) rfl
set_option maxRecDepth 20000 in
theorem cd123 : Cond.code yX9_whyNotHeard cX9_whyNotHeard 3 (some .int) ∈ tg := inT4 (List.mem_of_getElem? (i := 168) rfl) rfl
set_option maxRecDepth 20000 in
theorem cd124 : Cond.code yX9_hears cX9_hears 4 (some .int) ∈ tg := inT4 (List.mem_of_getElem? (i := 164) rfl) rfl
set_option maxRecDepth 20000 in
theorem cd125 : Cond.code yX9_back cX9_back 4 (some .int) ∈ tg := inT4 (List.mem_of_getElem? (i := 176) rfl) rfl
set_option maxRecDepth 20000 in
theorem cd126 : Cond.code yX9_laughs cX9_laughs 5 (some .int) ∈ tg := inT4 (List.mem_of_getElem? (i := 184) rfl) rfl
set_option maxRecDepth 20000 in
theorem cd127 : Cond.code yX9_hits cX9_hits 2 (some .int) ∈ tg := inT4 (List.mem_of_getElem? (i := 188) rfl) rfl
set_option maxRecDepth 20000 in
theorem cd128 : Cond.code yX9_on cX9_on 6 (some .int) ∈ tg := inT4 (List.mem_of_getElem? (i := 198) rfl) rfl
set_option maxRecDepth 20000 in
theorem cd129 : Cond.code yX9_keep cX9_keep 2 (some .int) ∈ tg := inT4 (List.mem_of_getElem? (i := 207) rfl) rfl
set_option maxRecDepth 20000 in
theorem cd130 : Cond.code yX9_take cX9_take 2 (some .int) ∈ tg := inT4 (List.mem_of_getElem? (i := 216) rfl) rfl
set_option maxRecDepth 20000 in
theorem cd131 : Cond.code yX9_nearer cX9_nearer 5 (some .int) ∈ tg := inT4 (List.mem_of_getElem? (i := 220) rfl) rfl
set_option maxRecDepth 20000 in
theorem cd132 : Cond.code yX9_gives cX9_gives 5 (some .int) ∈ tg := inT4 (List.mem_of_getElem? (i := 224) rfl) rfl
set_option maxRecDepth 20000 in
theorem cd133 : Cond.code yX9_agree cX9_agree 2 (some .int) ∈ tg := inT4 (List.mem_of_getElem? (i := 235) rfl) rfl
set_option maxRecDepth 20000 in
theorem cd134 : Cond.code yX9_moves cX9_moves 4 (some .int) ∈ tg := inT5 (List.mem_of_getElem? (i := 8) rfl) rfl
set_option maxRecDepth 20000 in
theorem cd135 : Cond.code yX9_lostIn cX9_lostIn 2 (some .int) ∈ tg := inT5 (List.mem_of_getElem? (i := 25) rfl) rfl
set_option maxRecDepth 20000 in
theorem cd136 : Cond.code yX9_turned cX9_turned 2 (some .int) ∈ tg := inT5 (List.mem_of_getElem? (i := 37) rfl) rfl
set_option maxRecDepth 20000 in
theorem cd137 : Cond.code yX9_until cX9_until 2 (some .int) ∈ tg := inT5 (List.mem_of_getElem? (i := 47) rfl) rfl
set_option maxRecDepth 20000 in
theorem cd138 : Cond.code yX9_isYear cX9_isYear 1 (some .boolean) ∈ tg := inT5 (List.mem_of_getElem? (i := 28) rfl) rfl
set_option maxRecDepth 20000 in
theorem cd139 : Cond.code yX9_heard cX9_heard 5 (some .int) ∈ tg := inT5 (List.mem_of_getElem? (i := 56) rfl) rfl
set_option maxRecDepth 20000 in
theorem cd140 : Cond.code yX9_right cX9_right 4 (some .int) ∈ tg := inT5 (List.mem_of_getElem? (i := 72) rfl) rfl
set_option maxRecDepth 20000 in
theorem cd141 : Cond.code yX9_fit cX9_fit 3 (some .int) ∈ tg := inT5 (List.mem_of_getElem? (i := 84) rfl) rfl
set_option maxRecDepth 20000 in
theorem cd142 : Cond.code yX9_surely cX9_surely 6 (some .int) ∈ tg := inT5 (List.mem_of_getElem? (i := 100) rfl) rfl
set_option maxRecDepth 20000 in
theorem cd143 : Cond.code yX9_next cX9_next 8 (some .int) ∈ tg := inT5 (List.mem_of_getElem? (i := 108) rfl) rfl
set_option maxRecDepth 20000 in
theorem cd144 : Cond.code yX9_isStep cX9_isStep 1 (some .boolean) ∈ tg := inT5 (List.mem_of_getElem? (i := 87) rfl) rfl
set_option maxRecDepth 20000 in
theorem cd145 : Cond.code yX9_count cX9_count 2 (some .int) ∈ tg := inT5 (List.mem_of_getElem? (i := 117) rfl) rfl
set_option maxRecDepth 20000 in
theorem cd146 : Cond.code yX10_in cX10_in 3 (some .boolean) ∈ tg := inT6 (List.mem_of_getElem? (i := 155) rfl) rfl
set_option maxRecDepth 20000 in
theorem cd147 : Cond.code yX10_feed cX10_feed 9 (some .int) ∈ tg := inT6 (List.mem_of_getElem? (i := 81) rfl) rfl
set_option maxRecDepth 20000 in
theorem cd148 : Cond.code yX10_end cX10_end 2 (some .int) ∈ tg := inT6 (List.mem_of_getElem? (i := 85) rfl) rfl
set_option maxRecDepth 20000 in
theorem cd149 : Cond.code yX10_see cX10_see 2 (some .int) ∈ tg := inT6 (List.mem_of_getElem? (i := 101) rfl) rfl
set_option maxRecDepth 20000 in
theorem cd150 : Cond.code yX10_isSmall cX10_isSmall 1 (some .boolean) ∈ tg := inT6 (List.mem_of_getElem? (i := 104) rfl) rfl
set_option maxRecDepth 20000 in
theorem cd151 : Cond.code yX10_isDigit cX10_isDigit 1 (some .boolean) ∈ tg := inT6 (List.mem_of_getElem? (i := 116) rfl) rfl
set_option maxRecDepth 20000 in
theorem cd152 : Cond.code yX10_keyAt cX10_keyAt 8 (some .int) ∈ tg := inT6 (List.mem_of_getElem? (i := 110) rfl) rfl
set_option maxRecDepth 20000 in
theorem cd153 : Cond.code yX10_scan cX10_scan 4 none ∈ tg := inT6 (List.mem_of_getElem? (i := 97) rfl) rfl
set_option maxRecDepth 20000 in
theorem cd154 : Cond.code yX10_fails cX10_fails 2 (some .boolean) ∈ tg := inT6 (List.mem_of_getElem? (i := 128) rfl) rfl
set_option maxRecDepth 20000 in
theorem cd155 : Cond.code yX10_readNumber cX10_readNumber 3 (some .boolean) ∈ tg := inT6 (List.mem_of_getElem? (i := 152) rfl) rfl
set_option maxRecDepth 20000 in
theorem cd156 : Cond.code yX10_setHere cX10_setHere 3 (some .int) ∈ tg := inT6 (List.mem_of_getElem? (i := 140) rfl) rfl
set_option maxRecDepth 20000 in
theorem cd157 : Cond.code yX10_readSet cX10_readSet 2 (some .boolean) ∈ tg := inT6 (List.mem_of_getElem? (i := 136) rfl) rfl
set_option maxRecDepth 20000 in
theorem cd158 : Cond.code yX10_fault cX10_fault 2 (some .int) ∈ tg := inT6 (List.mem_of_getElem? (i := 89) rfl) rfl
set_option maxRecDepth 20000 in
theorem cd159 : Cond.code yX10_begin cX10_begin 2 none ∈ tg := inT5 (List.mem_of_getElem? (i := 131) rfl) rfl
set_option maxRecDepth 20000 in
theorem cd160 : Cond.code yX10_comes cX10_comes 3 none ∈ tg := inT5 (List.mem_of_getElem? (i := 138) rfl) rfl
set_option maxRecDepth 20000 in
theorem cd161 : Cond.code yX10_settle cX10_settle 2 none ∈ tg := inT5 (List.mem_of_getElem? (i := 135) rfl) rfl
set_option maxRecDepth 20000 in
theorem cd162 : Cond.code yX10_named cX10_named 4 (some .int) ∈ tg := inT6 (List.mem_of_getElem? (i := 132) rfl) rfl
set_option maxRecDepth 20000 in
theorem cd163 : Cond.code yX10_readName cX10_readName 5 (some .boolean) ∈ tg := inT6 (List.mem_of_getElem? (i := 124) rfl) rfl
set_option maxRecDepth 20000 in
theorem cd164 : Cond.code yX10_readPlace cX10_readPlace 4 (some .boolean) ∈ tg := inT6 (List.mem_of_getElem? (i := 144) rfl) rfl
set_option maxRecDepth 20000 in
theorem cd165 : Cond.code yX10_readTie cX10_readTie 3 (some .boolean) ∈ tg := inT6 (List.mem_of_getElem? (i := 148) rfl) rfl
set_option maxRecDepth 20000 in
theorem cd166 : Cond.code yX10_readHearer cX10_readHearer 2 (some .boolean) ∈ tg := inT6 (List.mem_of_getElem? (i := 159) rfl) rfl
set_option maxRecDepth 20000 in
theorem cd167 : Cond.code yX10_readWeight cX10_readWeight 3 (some .boolean) ∈ tg := inT6 (List.mem_of_getElem? (i := 163) rfl) rfl
set_option maxRecDepth 20000 in
theorem cd168 : Cond.code yX10_readTold cX10_readTold 3 (some .boolean) ∈ tg := inT6 (List.mem_of_getElem? (i := 167) rfl) rfl
set_option maxRecDepth 20000 in
theorem cd169 : Cond.code yX10_readClause cX10_readClause 3 (some .boolean) ∈ tg := inT6 (List.mem_of_getElem? (i := 120) rfl) rfl
set_option maxRecDepth 20000 in
theorem cd170 : Cond.code yX10_book cX10_book 2 (some .int) ∈ tg := inT6 (List.mem_of_getElem? (i := 93) rfl) rfl
set_option maxRecDepth 20000 in
theorem cd171 : Cond.code yX10_told cX10_told 2 (some .int) ∈ tg := inT6 (List.mem_of_getElem? (i := 171) rfl) rfl
set_option maxRecDepth 20000 in
theorem cd172 : Cond.code yX10_isNotion cX10_isNotion 2 (some .boolean) ∈ tg := inT6 (List.mem_of_getElem? (i := 179) rfl) rfl
set_option maxRecDepth 20000 in
theorem cd173 : Cond.code yX10_isWord cX10_isWord 2 (some .boolean) ∈ tg := inT6 (List.mem_of_getElem? (i := 183) rfl) rfl
set_option maxRecDepth 20000 in
theorem cd174 : Cond.code yX10_isPlace cX10_isPlace 2 (some .boolean) ∈ tg := inT6 (List.mem_of_getElem? (i := 187) rfl) rfl
set_option maxRecDepth 20000 in
theorem cd175 : Cond.code yX10_isTie cX10_isTie 2 (some .boolean) ∈ tg := inT6 (List.mem_of_getElem? (i := 191) rfl) rfl
set_option maxRecDepth 20000 in
theorem cd176 : Cond.code yX10_isHearer cX10_isHearer 2 (some .boolean) ∈ tg := inT6 (List.mem_of_getElem? (i := 195) rfl) rfl
set_option maxRecDepth 20000 in
theorem cd177 : Cond.code yX10_traits cX10_traits 3 (some .int) ∈ tg := inT6 (List.mem_of_getElem? (i := 175) rfl) rfl
set_option maxRecDepth 20000 in
theorem cd178 : Cond.code yX10_notion cX10_notion 2 (some .int) ∈ tg := inT6 (List.mem_of_getElem? (i := 199) rfl) rfl
set_option maxRecDepth 20000 in
theorem cd179 : Cond.code yX10_weigh cX10_weigh 4 (some .int) ∈ tg := inT6 (List.mem_of_getElem? (i := 227) rfl) rfl
set_option maxRecDepth 20000 in
theorem cd180 : Cond.code yX10_traitsOf cX10_traitsOf 5 (some .int) ∈ tg := inT6 (List.mem_of_getElem? (i := 223) rfl) rfl
set_option maxRecDepth 20000 in
theorem cd181 : Cond.code yX10_had cX10_had 4 (some .int) ∈ tg := inT6 (List.mem_of_getElem? (i := 219) rfl) rfl
set_option maxRecDepth 20000 in
theorem cd182 : Cond.code yX10_lackAt cX10_lackAt 3 (some .int) ∈ tg := inT6 (List.mem_of_getElem? (i := 215) rfl) rfl
set_option maxRecDepth 20000 in
theorem cd183 : Cond.code yX10_addAt cX10_addAt 3 (some .int) ∈ tg := inT6 (List.mem_of_getElem? (i := 231) rfl) rfl
set_option maxRecDepth 20000 in
theorem cd184 : Cond.code yX10_lostAt cX10_lostAt 4 (some .int) ∈ tg := inT6 (List.mem_of_getElem? (i := 211) rfl) rfl
set_option maxRecDepth 20000 in
theorem cd185 : Cond.code yX10_lostAll cX10_lostAll 4 (some .int) ∈ tg := inT7 (List.mem_of_getElem? (i := 22) rfl) rfl
set_option maxRecDepth 20000 in
theorem cd186 : Cond.code yX10_put cX10_put 6 none ∈ tg := inT6 (List.mem_of_getElem? (i := 207) rfl) rfl
set_option maxRecDepth 20000 in
theorem cd187 : Cond.code yX10_choose cX10_choose 6 (some .int) ∈ tg := inT6 (List.mem_of_getElem? (i := 203) rfl) rfl
set_option maxRecDepth 20000 in
theorem cd188 : Cond.code yX10_leave cX10_leave 3 (some .int) ∈ tg := inT6 (List.mem_of_getElem? (i := 235) rfl) rfl
set_option maxRecDepth 20000 in
theorem cd189 : Cond.code yX10_choice cX10_choice 3 (some .int) ∈ tg := inT6 (List.mem_of_getElem? (i := 239) rfl) rfl
set_option maxRecDepth 20000 in
theorem cd190 : Cond.code yX10_bears cX10_bears 3 (some .int) ∈ tg := inT7 (List.mem_of_getElem? (i := 3) rfl) rfl
set_option maxRecDepth 20000 in
theorem cd191 : Cond.code yX10_bits cX10_bits 3 (some .int) ∈ tg := inT7 (List.mem_of_getElem? (i := 14) rfl) rfl
set_option maxRecDepth 20000 in
theorem cd192 : Cond.code yX10_notedAll cX10_notedAll 3 (some .int) ∈ tg := inT7 (List.mem_of_getElem? (i := 11) rfl) rfl
set_option maxRecDepth 20000 in
theorem cd193 : Cond.code yX10_note cX10_note 4 (some .int) ∈ tg := inT7 (List.mem_of_getElem? (i := 7) rfl) rfl
set_option maxRecDepth 20000 in
theorem cd194 : Cond.code yX10_lost cX10_lost 1 (some .int) ∈ tg := inT7 (List.mem_of_getElem? (i := 18) rfl) rfl
set_option maxRecDepth 20000 in
theorem cd195 : Cond.code yX10_isClash cX10_isClash 4 (some .boolean) ∈ tg := inT7 (List.mem_of_getElem? (i := 30) rfl) rfl
set_option maxRecDepth 20000 in
theorem cd196 : Cond.code yX10_clashes cX10_clashes 3 (some .int) ∈ tg := inT7 (List.mem_of_getElem? (i := 26) rfl) rfl
set_option maxRecDepth 20000 in
theorem cd197 : Cond.code yX10_bound cX10_bound 5 (some .int) ∈ tg := inT7 (List.mem_of_getElem? (i := 34) rfl) rfl
set_option maxRecDepth 20000 in
theorem cd198 : Cond.code yX10_putBy cX10_putBy 3 none ∈ tg := inT7 (List.mem_of_getElem? (i := 46) rfl) rfl
set_option maxRecDepth 20000 in
theorem cd199 : Cond.code yX10_isFree cX10_isFree 3 (some .boolean) ∈ tg := inT7 (List.mem_of_getElem? (i := 50) rfl) rfl
set_option maxRecDepth 20000 in
theorem cd200 : Cond.code yX10_best cX10_best 8 (some .int) ∈ tg := inT7 (List.mem_of_getElem? (i := 38) rfl) rfl
set_option maxRecDepth 20000 in
theorem cd201 : Cond.code yX10_layRow cX10_layRow 6 (some .int) ∈ tg := inT7 (List.mem_of_getElem? (i := 42) rfl) rfl
set_option maxRecDepth 20000 in
theorem cd202 : Cond.code yX10_costs cX10_costs 1 (some .int) ∈ tg := inT7 (List.mem_of_getElem? (i := 58) rfl) rfl
set_option maxRecDepth 20000 in
theorem cd203 : Cond.code yX10_exchange cX10_exchange 12 (some .int) ∈ tg := inT7 (List.mem_of_getElem? (i := 54) rfl) rfl
set_option maxRecDepth 20000 in
theorem cd204 : Cond.code yX10_plainAt cX10_plainAt 3 (some .int) ∈ tg := inT7 (List.mem_of_getElem? (i := 75) rfl) rfl
set_option maxRecDepth 20000 in
theorem cd205 : Cond.code yX10_plainSum cX10_plainSum 5 (some .int) ∈ tg := inT7 (List.mem_of_getElem? (i := 71) rfl) rfl
set_option maxRecDepth 20000 in
theorem cd206 : Cond.code yX10_oneOf cX10_oneOf 4 (some .int) ∈ tg := inT7 (List.mem_of_getElem? (i := 67) rfl) rfl
set_option maxRecDepth 20000 in
theorem cd207 : Cond.code yX10_one cX10_one 2 (some .int) ∈ tg := inT7 (List.mem_of_getElem? (i := 63) rfl) rfl
set_option maxRecDepth 20000 in
theorem cd208 : Cond.code yX10_price cX10_price 7 (some .int) ∈ tg := inT7 (List.mem_of_getElem? (i := 79) rfl) rfl
set_option maxRecDepth 20000 in
theorem cd209 : Cond.code yX10_swap cX10_swap 4 (some .int) ∈ tg := inT7 (List.mem_of_getElem? (i := 83) rfl) rfl
set_option maxRecDepth 20000 in
theorem cd210 : Cond.code yX10_mend cX10_mend 8 (some .int) ∈ tg := inT7 (List.mem_of_getElem? (i := 87) rfl) rfl
set_option maxRecDepth 20000 in
theorem cd211 : Cond.code yX10_heardBy cX10_heardBy 3 (some .int) ∈ tg := inT7 (List.mem_of_getElem? (i := 99) rfl) rfl
set_option maxRecDepth 20000 in
theorem cd212 : Cond.code yX10_backOf cX10_backOf 6 (some .int) ∈ tg := inT7 (List.mem_of_getElem? (i := 107) rfl) rfl
set_option maxRecDepth 20000 in
theorem cd213 : Cond.code yX10_isLaugh cX10_isLaugh 3 (some .boolean) ∈ tg := inT7 (List.mem_of_getElem? (i := 115) rfl) rfl
set_option maxRecDepth 20000 in
theorem cd214 : Cond.code yX10_isAsked cX10_isAsked 3 (some .boolean) ∈ tg := inT7 (List.mem_of_getElem? (i := 95) rfl) rfl
set_option maxRecDepth 20000 in
theorem cd215 : Cond.code yX10_hears cX10_hears 3 (some .int) ∈ tg := inT7 (List.mem_of_getElem? (i := 91) rfl) rfl
set_option maxRecDepth 20000 in
theorem cd216 : Cond.code yX10_back cX10_back 3 (some .int) ∈ tg := inT7 (List.mem_of_getElem? (i := 103) rfl) rfl
set_option maxRecDepth 20000 in
theorem cd217 : Cond.code yX10_laughs cX10_laughs 3 (some .int) ∈ tg := inT7 (List.mem_of_getElem? (i := 111) rfl) rfl
set_option maxRecDepth 20000 in
theorem cd218 : Cond.code yX10_hitsOf cX10_hitsOf 4 (some .int) ∈ tg := inT7 (List.mem_of_getElem? (i := 123) rfl) rfl
set_option maxRecDepth 20000 in
theorem cd219 : Cond.code yX10_hits cX10_hits 2 (some .int) ∈ tg := inT7 (List.mem_of_getElem? (i := 119) rfl) rfl
set_option maxRecDepth 20000 in
theorem cd220 : Cond.code yX10_on cX10_on 9 (some .int) ∈ tg := inT7 (List.mem_of_getElem? (i := 127) rfl) rfl
set_option maxRecDepth 20000 in
theorem cd221 : Cond.code yX10_store cX10_store 4 none ∈ tg := inT7 (List.mem_of_getElem? (i := 138) rfl) rfl
set_option maxRecDepth 20000 in
theorem cd222 : Cond.code yX10_load cX10_load 4 none ∈ tg := inT7 (List.mem_of_getElem? (i := 146) rfl) rfl
set_option maxRecDepth 20000 in
theorem cd223 : Cond.code yX10_isSlot cX10_isSlot 1 (some .boolean) ∈ tg := inT7 (List.mem_of_getElem? (i := 134) rfl) rfl
set_option maxRecDepth 20000 in
theorem cd224 : Cond.code yX10_keep cX10_keep 2 (some .int) ∈ tg := inT7 (List.mem_of_getElem? (i := 131) rfl) rfl
set_option maxRecDepth 20000 in
theorem cd225 : Cond.code yX10_take cX10_take 2 (some .int) ∈ tg := inT7 (List.mem_of_getElem? (i := 142) rfl) rfl
set_option maxRecDepth 20000 in
theorem cd226 : Cond.code yX10_nearer cX10_nearer 8 (some .int) ∈ tg := inT7 (List.mem_of_getElem? (i := 150) rfl) rfl
set_option maxRecDepth 20000 in
theorem cd227 : Cond.code yX10_cellOf cX10_cellOf 3 (some .int) ∈ tg := inT7 (List.mem_of_getElem? (i := 157) rfl) rfl
set_option maxRecDepth 20000 in
theorem cd228 : Cond.code yX10_gives cX10_gives 6 (some .int) ∈ tg := inT7 (List.mem_of_getElem? (i := 154) rfl) rfl
set_option maxRecDepth 20000 in
theorem cd229 : Cond.code yX10_agree cX10_agree 9 (some .int) ∈ tg := inT7 (List.mem_of_getElem? (i := 161) rfl) rfl
set_option maxRecDepth 20000 in
theorem cd230 : Cond.code yX10_moves cX10_moves 5 (some .int) ∈ tg := inT7 (List.mem_of_getElem? (i := 165) rfl) rfl
set_option maxRecDepth 20000 in
theorem cd231 : Cond.code yX10_lostIn cX10_lostIn 2 (some .int) ∈ tg := inT7 (List.mem_of_getElem? (i := 170) rfl) rfl
set_option maxRecDepth 20000 in
theorem cd232 : Cond.code yX10_turned cX10_turned 4 (some .int) ∈ tg := inT7 (List.mem_of_getElem? (i := 174) rfl) rfl
set_option maxRecDepth 20000 in
theorem cd233 : Cond.code yX10_until cX10_until 4 (some .int) ∈ tg := inT7 (List.mem_of_getElem? (i := 178) rfl) rfl
set_option maxRecDepth 20000 in
theorem cd234 : Cond.code yX10_heard cX10_heard 5 (some .int) ∈ tg := inT7 (List.mem_of_getElem? (i := 182) rfl) rfl
set_option maxRecDepth 20000 in
theorem cd235 : Cond.code yX10_right cX10_right 6 (some .int) ∈ tg := inT7 (List.mem_of_getElem? (i := 186) rfl) rfl
set_option maxRecDepth 20000 in
theorem cd236 : Cond.code yX10_setOf cX10_setOf 3 (some .int) ∈ tg := inT7 (List.mem_of_getElem? (i := 197) rfl) rfl
set_option maxRecDepth 20000 in
theorem cd237 : Cond.code yX10_makeFits cX10_makeFits 9 (some .int) ∈ tg := inT7 (List.mem_of_getElem? (i := 194) rfl) rfl
set_option maxRecDepth 20000 in
theorem cd238 : Cond.code yX10_fit cX10_fit 3 (some .int) ∈ tg := inT7 (List.mem_of_getElem? (i := 190) rfl) rfl
set_option maxRecDepth 20000 in
theorem cd239 : Cond.code yX10_surely cX10_surely 7 (some .int) ∈ tg := inT7 (List.mem_of_getElem? (i := 201) rfl) rfl
set_option maxRecDepth 20000 in
theorem cd240 : Cond.code yX10_next cX10_next 8 (some .int) ∈ tg := inT7 (List.mem_of_getElem? (i := 205) rfl) rfl
set_option maxRecDepth 20000 in
theorem cd241 : Cond.code yX10_count cX10_count 4 (some .int) ∈ tg := inT7 (List.mem_of_getElem? (i := 209) rfl) rfl
set_option maxRecDepth 20000 in
theorem cd242 : Cond.code yJ6_bitCount_0f7a4 cJ6_bitCount_0f7a4 1 (some .int) ∈ tg := inT3 (List.mem_of_getElem? (i := 222) rfl) rfl
set_option maxRecDepth 20000 in
theorem cd243 : Cond.code yJ7_fill_53178 cJ7_fill_53178 4 none ∈ tg := inT1 (List.mem_of_getElem? (i := 57) rfl) rfl
set_option maxRecDepth 20000 in
theorem cd244 : Cond.code yJ7_fill_031fb cJ7_fill_031fb 4 none ∈ tg := inT3 (List.mem_of_getElem? (i := 110) rfl) rfl
theorem miOk0 : ((List.range' 0 50).zip (miT.drop 0)).all miC = true := by decide +kernel
theorem miOk1 : ((List.range' 50 50).zip (miT.drop 50)).all miC = true := by decide +kernel
theorem miOk2 : ((List.range' 100 50).zip (miT.drop 100)).all miC = true := by decide +kernel
theorem miOk3 : ((List.range' 150 50).zip (miT.drop 150)).all miC = true := by decide +kernel
theorem miOk4 : ((List.range' 200 50).zip (miT.drop 200)).all miC = true := by decide +kernel
theorem coOk2 : hasW 99 (Cond.initialized "java/lang/Math") = true ∧ hasW 867 (Cond.static Lib.Math.max.name) = true ∧ hasW 868 (Cond.code Lib.Math.max.name Lib.Math.max.code 2 (some .int)) = true ∧ hasW 864 (Cond.static Lib.Math.min.name) = true ∧ hasW 865 (Cond.code Lib.Math.min.name Lib.Math.min.code 2 (some .int)) = true := by decide +kernel
theorem tg_prim : pPrim tg := ⟨⟨hasW_in coOk.1, hasW_in coOk.2.1, hasW_in coOk.2.2⟩, hasW_in coOk2.1, ⟨hasW_in coOk2.2.1, hasW_in coOk2.2.2.1⟩, hasW_in coOk2.2.2.2.1, hasW_in coOk2.2.2.2.2⟩
