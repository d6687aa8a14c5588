def dchk (c : ByteArray) (q : Nat × pX) : Bool := decide (decode c q.1 = .ok (q.2.1, pLen q.2.1 q.2.2.2.1))
theorem pFind_mem {α : Type} {pc : Nat} {x : α} : ∀ {l : List (Nat × α)}, pFind pc l = some x → (pc, x) ∈ l
  | [], h => by cases h
  | q :: t, h => by
    unfold pFind at h
    split at h
    · next hb =>
      have := Nat.eq_of_beq_eq_true hb
      cases h
      subst this
      exact List.mem_cons_self
    · exact List.mem_cons_of_mem _ (pFind_mem h)
/-- a method, what is told of it, its class's number -/
def mOkP (q : pM × pInf × Nat) : Prop := q.2.1.1.cls = cn q.2.2 ∧ (q.1.1.all fun x => dchk q.2.1.2.1 x && xchk q.2.2 q.2.1.2.2.1 q.2.1.2.2.2 x.1 x.2) = true
theorem mok0 : mOkP (k0, (yX0_clear, cX0_clear, 1, none), 0) := ⟨rfl, by decide +kernel⟩
theorem mok1 : mOkP (k1, (yX0_copyFrom, cX0_copyFrom, 2, none), 0) := ⟨rfl, by decide +kernel⟩
theorem mok2 : mOkP (k2, (yX0_roomFor, cX0_roomFor, 1, (some .int)), 0) := ⟨rfl, by decide +kernel⟩
theorem mok3 : mOkP (k3, (yX0_has, cX0_has, 3, (some .boolean)), 0) := ⟨rfl, by decide +kernel⟩
theorem mok4 : mOkP (k4, (yX0_setting, cX0_setting, 2, (some .int)), 0) := ⟨rfl, by decide +kernel⟩
theorem mok5 : mOkP (k5, (yX0_allPlaces, cX0_allPlaces, 1, (some .int)), 0) := ⟨rfl, by decide +kernel⟩
theorem mok6 : mOkP (k6, (yX0_weigh, cX0_weigh, 4, none), 0) := ⟨rfl, by decide +kernel⟩
theorem mok7 : mOkP (k7, (yX0_sumGroups, cX0_sumGroups, 5, none), 0) := ⟨rfl, by decide +kernel⟩
theorem mok8 : mOkP (k8, (yX0_weightsOf, cX0_weightsOf, 3, (some .int)), 0) := ⟨rfl, by decide +kernel⟩
theorem mok9 : mOkP (k9, (yX0_traitsOfNotionAt, cX0_traitsOfNotionAt, 2, (some .int)), 0) := ⟨rfl, by decide +kernel⟩
theorem mok10 : mOkP (k10, (yX0_lacksOf, cX0_lacksOf, 3, (some .int)), 0) := ⟨rfl, by decide +kernel⟩
theorem mok11 : mOkP (k11, (yX0_addsOf, cX0_addsOf, 3, (some .int)), 0) := ⟨rfl, by decide +kernel⟩
theorem mok12 : mOkP (k12, (yX0_lostByTraits, cX0_lostByTraits, 4, (some .int)), 0) := ⟨rfl, by decide +kernel⟩
theorem mok13 : mOkP (k13, (yX0_wouldClash, cX0_wouldClash, 5, (some .boolean)), 0) := ⟨rfl, by decide +kernel⟩
theorem mok14 : mOkP (k14, (yX0_otherPlace, cX0_otherPlace, 3, (some .int)), 0) := ⟨rfl, by decide +kernel⟩
theorem mok15 : mOkP (k15, (yX0_boundBy, cX0_boundBy, 7, (some .int)), 0) := ⟨rfl, by decide +kernel⟩
theorem mok16 : mOkP (k16, (yX0_wordForAll, cX0_wordForAll, 4, (some .int)), 0) := ⟨rfl, by decide +kernel⟩
theorem mok17 : mOkP (k17, (yX0_toldBack, cX0_toldBack, 7, (some .int)), 0) := ⟨rfl, by decide +kernel⟩
theorem mok18 : mOkP (k18, (yX0_traitsSaidFor, cX0_traitsSaidFor, 6, (some .int)), 0) := ⟨rfl, by decide +kernel⟩
theorem mok19 : mOkP (k19, (yX1_clear, cX1_clear, 1, none), 1) := ⟨rfl, by decide +kernel⟩
theorem mok20 : mOkP (k20, (yX1_indexOf, cX1_indexOf, 3, (some .int)), 1) := ⟨rfl, by decide +kernel⟩
theorem mok21 : mOkP (k21, (yX1_put, cX1_put, 7, (some .int)), 1) := ⟨rfl, by decide +kernel⟩
theorem mok22 : mOkP (k22, (yX1_agreed, cX1_agreed, 7, (some .int)), 1) := ⟨rfl, by decide +kernel⟩
theorem mok23 : mOkP (k23, (yX1_costOf, cX1_costOf, 7, (some .int)), 1) := ⟨rfl, by decide +kernel⟩
theorem mok24 : mOkP (k24, (yX2_clear, cX2_clear, 1, none), 2) := ⟨rfl, by decide +kernel⟩
theorem mok25 : mOkP (k25, (yX2_mayTell, cX2_mayTell, 3, (some .boolean)), 2) := ⟨rfl, by decide +kernel⟩
theorem mok26 : mOkP (k26, (yX2_isFull, cX2_isFull, 1, (some .boolean)), 2) := ⟨rfl, by decide +kernel⟩
theorem mok27 : mOkP (k27, (yX2_isFullOfRights, cX2_isFullOfRights, 1, (some .boolean)), 2) := ⟨rfl, by decide +kernel⟩
theorem mok28 : mOkP (k28, (yX2_append, cX2_append, 6, (some .int)), 2) := ⟨rfl, by decide +kernel⟩
theorem mok29 : mOkP (k29, (yX2_putRight, cX2_putRight, 4, (some .int)), 2) := ⟨rfl, by decide +kernel⟩
theorem mok30 : mOkP (k30, (yX2_gather, cX2_gather, 6, (some .int)), 2) := ⟨rfl, by decide +kernel⟩
theorem mok31 : mOkP (k31, (yX2_fitsAll, cX2_fitsAll, 6, (some .boolean)), 2) := ⟨rfl, by decide +kernel⟩
theorem mok32 : mOkP (k32, (yX2_setsWith, cX2_setsWith, 4, (some .int)), 2) := ⟨rfl, by decide +kernel⟩
theorem mok33 : mOkP (k33, (yX2_setsWithin, cX2_setsWithin, 4, (some .int)), 2) := ⟨rfl, by decide +kernel⟩
theorem mok34 : mOkP (k34, (yX3_append, cX3_append, 3, none), 3) := ⟨rfl, by decide +kernel⟩
theorem mok35 : mOkP (k35, (yX3_find, cX3_find, 5, (some .int)), 3) := ⟨rfl, by decide +kernel⟩
theorem mok36 : mOkP (k36, (yX3_isSame, cX3_isSame, 5, (some .boolean)), 3) := ⟨rfl, by decide +kernel⟩
theorem mok37 : mOkP (k37, (yX4_read, cX4_read, 4, (some .int)), 4) := ⟨rfl, by decide +kernel⟩
theorem mok38 : mOkP (k38, (yX4_begin, cX4_begin, 2, none), 4) := ⟨rfl, by decide +kernel⟩
theorem mok39 : mOkP (k39, (yX4_advance, cX4_advance, 1, none), 4) := ⟨rfl, by decide +kernel⟩
theorem mok40 : mOkP (k40, (yX4_signOf, cX4_signOf, 1, (some .char)), 4) := ⟨rfl, by decide +kernel⟩
theorem mok41 : mOkP (k41, (yX4_refuse, cX4_refuse, 2, (some .boolean)), 4) := ⟨rfl, by decide +kernel⟩
theorem mok42 : mOkP (k42, (yX4_mayBegin, cX4_mayBegin, 2, (some .boolean)), 4) := ⟨rfl, by decide +kernel⟩
theorem mok43 : mOkP (k43, (yX4_readBody, cX4_readBody, 2, (some .boolean)), 4) := ⟨rfl, by decide +kernel⟩
theorem mok44 : mOkP (k44, (yX4_keyword, cX4_keyword, 1, (some .int)), 4) := ⟨rfl, by decide +kernel⟩
theorem mok45 : mOkP (k45, (yX4_isWord, cX4_isWord, 3, (some .boolean)), 4) := ⟨rfl, by decide +kernel⟩
theorem mok46 : mOkP (k46, (yX4_readSemicolon, cX4_readSemicolon, 1, (some .boolean)), 4) := ⟨rfl, by decide +kernel⟩
theorem mok47 : mOkP (k47, (yX4_readTraits, cX4_readTraits, 4, (some .boolean)), 4) := ⟨rfl, by decide +kernel⟩
theorem mok48 : mOkP (k48, (yX4_readPlace, cX4_readPlace, 3, (some .boolean)), 4) := ⟨rfl, by decide +kernel⟩
theorem mok49 : mOkP (k49, (yX4_readTie, cX4_readTie, 5, (some .boolean)), 4) := ⟨rfl, by decide +kernel⟩
theorem mok50 : mOkP (k50, (yX4_readHearer, cX4_readHearer, 3, (some .boolean)), 4) := ⟨rfl, by decide +kernel⟩
theorem mok51 : mOkP (k51, (yX4_readWeight, cX4_readWeight, 1, (some .boolean)), 4) := ⟨rfl, by decide +kernel⟩
theorem mok52 : mOkP (k52, (yX4_readSetting, cX4_readSetting, 2, (some .boolean)), 4) := ⟨rfl, by decide +kernel⟩
theorem mok53 : mOkP (k53, (yX4_readNewName, cX4_readNewName, 2, (some .boolean)), 4) := ⟨rfl, by decide +kernel⟩
theorem mok54 : mOkP (k54, (yX4_readSet, cX4_readSet, 3, (some .boolean)), 4) := ⟨rfl, by decide +kernel⟩
theorem mok55 : mOkP (k55, (yX4_readNumber, cX4_readNumber, 4, (some .boolean)), 4) := ⟨rfl, by decide +kernel⟩
theorem mok56 : mOkP (k56, (yX5_clear, cX5_clear, 1, none), 5) := ⟨rfl, by decide +kernel⟩
theorem mok57 : mOkP (k57, (yX5_copyFrom, cX5_copyFrom, 2, none), 5) := ⟨rfl, by decide +kernel⟩
theorem mok58 : mOkP (k58, (yX5_put, cX5_put, 6, none), 5) := ⟨rfl, by decide +kernel⟩
theorem mok59 : mOkP (k59, (yX5_isChosen, cX5_isChosen, 2, (some .boolean)), 5) := ⟨rfl, by decide +kernel⟩
theorem mok60 : mOkP (k60, (yX5_isBorrowed, cX5_isBorrowed, 2, (some .boolean)), 5) := ⟨rfl, by decide +kernel⟩
theorem mok61 : mOkP (k61, (yX5_chosen, cX5_chosen, 3, (some .int)), 5) := ⟨rfl, by decide +kernel⟩
theorem mok62 : mOkP (k62, (yX5_noted, cX5_noted, 3, (some .int)), 5) := ⟨rfl, by decide +kernel⟩
theorem mok63 : mOkP (k63, (yX5_traitsAt, cX5_traitsAt, 3, (some .int)), 5) := ⟨rfl, by decide +kernel⟩
theorem mok64 : mOkP (k64, (yX5_traitsOf, cX5_traitsOf, 2, (some .int)), 5) := ⟨rfl, by decide +kernel⟩
theorem mok65 : mOkP (k65, (yX5_lostAt, cX5_lostAt, 4, (some .int)), 5) := ⟨rfl, by decide +kernel⟩
theorem mok66 : mOkP (k66, (yX5_lostOfAll, cX5_lostOfAll, 4, (some .int)), 5) := ⟨rfl, by decide +kernel⟩
theorem mok67 : mOkP (k67, (yX5_clashBits, cX5_clashBits, 4, (some .int)), 5) := ⟨rfl, by decide +kernel⟩
theorem mok68 : mOkP (k68, (yX5_isClashing, cX5_isClashing, 6, (some .boolean)), 5) := ⟨rfl, by decide +kernel⟩
theorem mok69 : mOkP (k69, (yX5_clashesAt, cX5_clashesAt, 6, (some .int)), 5) := ⟨rfl, by decide +kernel⟩
theorem mok70 : mOkP (k70, (yX5_isBorrowedOption, cX5_isBorrowedOption, 2, (some .boolean)), 5) := ⟨rfl, by decide +kernel⟩
theorem mok71 : mOkP (k71, (yX5_traitsOfOption, cX5_traitsOfOption, 2, (some .int)), 5) := ⟨rfl, by decide +kernel⟩
theorem mok72 : mOkP (k72, (yX5_lostWithOption, cX5_lostWithOption, 3, (some .int)), 5) := ⟨rfl, by decide +kernel⟩
theorem mok73 : mOkP (k73, (yX5_putOption, cX5_putOption, 3, none), 5) := ⟨rfl, by decide +kernel⟩
theorem mok74 : mOkP (k74, (yX5_exchangeRound, cX5_exchangeRound, 3, (some .boolean)), 5) := ⟨rfl, by decide +kernel⟩
theorem mok75 : mOkP (k75, (yX5_exchangeAt, cX5_exchangeAt, 6, (some .boolean)), 5) := ⟨rfl, by decide +kernel⟩
theorem mok76 : mOkP (k76, (yX5_lostWithWord, cX5_lostWithWord, 5, (some .int)), 5) := ⟨rfl, by decide +kernel⟩
theorem mok77 : mOkP (k77, (yX5_lostWithLeast, cX5_lostWithLeast, 6, (some .int)), 5) := ⟨rfl, by decide +kernel⟩
theorem mok78 : mOkP (k78, (yX5_oneWord, cX5_oneWord, 6, (some .int)), 5) := ⟨rfl, by decide +kernel⟩
theorem mok79 : mOkP (k79, (yX5_mendOnce, cX5_mendOnce, 7, (some .boolean)), 5) := ⟨rfl, by decide +kernel⟩
theorem mok80 : mOkP (k80, (yX5_untoldLacks, cX5_untoldLacks, 2, (some .int)), 5) := ⟨rfl, by decide +kernel⟩
theorem mok81 : mOkP (k81, (yX5_heardAt, cX5_heardAt, 3, (some .int)), 5) := ⟨rfl, by decide +kernel⟩
theorem mok82 : mOkP (k82, (yX5_rightOf, cX5_rightOf, 4, (some .int)), 5) := ⟨rfl, by decide +kernel⟩
theorem mok83 : mOkP (k83, (yX6_putBest, cX6_putBest, 4, (some .boolean)), 6) := ⟨rfl, by decide +kernel⟩
theorem mok84 : mOkP (k84, (yX6_begin, cX6_begin, 5, none), 6) := ⟨rfl, by decide +kernel⟩
theorem mok85 : mOkP (k85, (yX6_levelOf, cX6_levelOf, 3, (some .int)), 6) := ⟨rfl, by decide +kernel⟩
theorem mok86 : mOkP (k86, (yX6_obeyTie, cX6_obeyTie, 5, none), 6) := ⟨rfl, by decide +kernel⟩
theorem mok87 : mOkP (k87, (yX6_obeyInside, cX6_obeyInside, 10, none), 6) := ⟨rfl, by decide +kernel⟩
theorem mok88 : mOkP (k88, (yX6_obeyOutside, cX6_obeyOutside, 5, none), 6) := ⟨rfl, by decide +kernel⟩
theorem mok89 : mOkP (k89, (yX6_settle, cX6_settle, 5, none), 6) := ⟨rfl, by decide +kernel⟩
theorem mok90 : mOkP (k90, (yX6_narrow, cX6_narrow, 6, (some .int)), 6) := ⟨rfl, by decide +kernel⟩
theorem mok91 : mOkP (k91, (yX6_leastOf, cX6_leastOf, 5, (some .int)), 6) := ⟨rfl, by decide +kernel⟩
theorem mok92 : mOkP (k92, (yX7_hasRoom, cX7_hasRoom, 1, (some .boolean)), 7) := ⟨rfl, by decide +kernel⟩
theorem mok93 : mOkP (k93, (yX7_append, cX7_append, 3, none), 7) := ⟨rfl, by decide +kernel⟩
theorem mok94 : mOkP (k94, (yX8_clear, cX8_clear, 1, none), 8) := ⟨rfl, by decide +kernel⟩
theorem mok95 : mOkP (k95, (yX8_isFull, cX8_isFull, 1, (some .boolean)), 8) := ⟨rfl, by decide +kernel⟩
theorem mok96 : mOkP (k96, (yX8_latestOf, cX8_latestOf, 4, (some .int)), 8) := ⟨rfl, by decide +kernel⟩
theorem mok97 : mOkP (k97, (yX8_append, cX8_append, 4, (some .int)), 8) := ⟨rfl, by decide +kernel⟩
theorem mok98 : mOkP (k98, (yX8_wordsIn, cX8_wordsIn, 3, (some (.array .int))), 8) := ⟨rfl, by decide +kernel⟩
theorem mok99 : mOkP (k99, (yX8_turns, cX8_turns, 7, (some .int)), 8) := ⟨rfl, by decide +kernel⟩
theorem mok100 : mOkP (k100, (yX8_firstAbove, cX8_firstAbove, 6, (some .int)), 8) := ⟨rfl, by decide +kernel⟩
theorem mok101 : mOkP (k101, (yX9_feed, cX9_feed, 6, (some .int)), 9) := ⟨rfl, by decide +kernel⟩
theorem mok102 : mOkP (k102, (yX9_end, cX9_end, 2, (some .int)), 9) := ⟨rfl, by decide +kernel⟩
theorem mok103 : mOkP (k103, (yX9_book, cX9_book, 3, (some .int)), 9) := ⟨rfl, by decide +kernel⟩
theorem mok104 : mOkP (k104, (yX9_fault, cX9_fault, 2, (some .int)), 9) := ⟨rfl, by decide +kernel⟩
theorem mok105 : mOkP (k105, (yX9_told, cX9_told, 2, (some .int)), 9) := ⟨rfl, by decide +kernel⟩
theorem mok106 : mOkP (k106, (yX9_traits, cX9_traits, 3, (some .int)), 9) := ⟨rfl, by decide +kernel⟩
theorem mok107 : mOkP (k107, (yX9_notion, cX9_notion, 2, (some .int)), 9) := ⟨rfl, by decide +kernel⟩
theorem mok108 : mOkP (k108, (yX9_choose, cX9_choose, 6, (some .int)), 9) := ⟨rfl, by decide +kernel⟩
theorem mok109 : mOkP (k109, (yX9_wordsAreFit, cX9_wordsAreFit, 5, (some .boolean)), 9) := ⟨rfl, by decide +kernel⟩
theorem mok110 : mOkP (k110, (yX9_leave, cX9_leave, 2, (some .int)), 9) := ⟨rfl, by decide +kernel⟩
theorem mok111 : mOkP (k111, (yX9_choice, cX9_choice, 3, (some .int)), 9) := ⟨rfl, by decide +kernel⟩
theorem mok112 : mOkP (k112, (yX9_bears, cX9_bears, 4, (some .int)), 9) := ⟨rfl, by decide +kernel⟩
theorem mok113 : mOkP (k113, (yX9_note, cX9_note, 4, (some .int)), 9) := ⟨rfl, by decide +kernel⟩
theorem mok114 : mOkP (k114, (yX9_lost, cX9_lost, 1, (some .int)), 9) := ⟨rfl, by decide +kernel⟩
theorem mok115 : mOkP (k115, (yX9_clashes, cX9_clashes, 1, (some .int)), 9) := ⟨rfl, by decide +kernel⟩
theorem mok116 : mOkP (k116, (yX9_bound, cX9_bound, 2, (some .int)), 9) := ⟨rfl, by decide +kernel⟩
theorem mok117 : mOkP (k117, (yX9_best, cX9_best, 3, (some .int)), 9) := ⟨rfl, by decide +kernel⟩
theorem mok118 : mOkP (k118, (yX9_exchange, cX9_exchange, 3, (some .int)), 9) := ⟨rfl, by decide +kernel⟩
theorem mok119 : mOkP (k119, (yX9_one, cX9_one, 2, (some .int)), 9) := ⟨rfl, by decide +kernel⟩
theorem mok120 : mOkP (k120, (yX9_price, cX9_price, 3, (some .int)), 9) := ⟨rfl, by decide +kernel⟩
theorem mok121 : mOkP (k121, (yX9_swap, cX9_swap, 2, (some .int)), 9) := ⟨rfl, by decide +kernel⟩
theorem mok122 : mOkP (k122, (yX9_mend, cX9_mend, 4, (some .int)), 9) := ⟨rfl, by decide +kernel⟩
theorem mok123 : mOkP (k123, (yX9_whyNotHeard, cX9_whyNotHeard, 3, (some .int)), 9) := ⟨rfl, by decide +kernel⟩
theorem mok124 : mOkP (k124, (yX9_hears, cX9_hears, 4, (some .int)), 9) := ⟨rfl, by decide +kernel⟩
theorem mok125 : mOkP (k125, (yX9_back, cX9_back, 4, (some .int)), 9) := ⟨rfl, by decide +kernel⟩
theorem mok126 : mOkP (k126, (yX9_laughs, cX9_laughs, 5, (some .int)), 9) := ⟨rfl, by decide +kernel⟩
theorem mok127 : mOkP (k127, (yX9_hits, cX9_hits, 2, (some .int)), 9) := ⟨rfl, by decide +kernel⟩
theorem mok128 : mOkP (k128, (yX9_on, cX9_on, 6, (some .int)), 9) := ⟨rfl, by decide +kernel⟩
theorem mok129 : mOkP (k129, (yX9_keep, cX9_keep, 2, (some .int)), 9) := ⟨rfl, by decide +kernel⟩
theorem mok130 : mOkP (k130, (yX9_take, cX9_take, 2, (some .int)), 9) := ⟨rfl, by decide +kernel⟩
theorem mok131 : mOkP (k131, (yX9_nearer, cX9_nearer, 5, (some .int)), 9) := ⟨rfl, by decide +kernel⟩
theorem mok132 : mOkP (k132, (yX9_gives, cX9_gives, 5, (some .int)), 9) := ⟨rfl, by decide +kernel⟩
theorem mok133 : mOkP (k133, (yX9_agree, cX9_agree, 2, (some .int)), 9) := ⟨rfl, by decide +kernel⟩
theorem mok134 : mOkP (k134, (yX9_moves, cX9_moves, 4, (some .int)), 9) := ⟨rfl, by decide +kernel⟩
theorem mok135 : mOkP (k135, (yX9_lostIn, cX9_lostIn, 2, (some .int)), 9) := ⟨rfl, by decide +kernel⟩
theorem mok136 : mOkP (k136, (yX9_turned, cX9_turned, 2, (some .int)), 9) := ⟨rfl, by decide +kernel⟩
theorem mok137 : mOkP (k137, (yX9_until, cX9_until, 2, (some .int)), 9) := ⟨rfl, by decide +kernel⟩
theorem mok138 : mOkP (k138, (yX9_isYear, cX9_isYear, 1, (some .boolean)), 9) := ⟨rfl, by decide +kernel⟩
theorem mok139 : mOkP (k139, (yX9_heard, cX9_heard, 5, (some .int)), 9) := ⟨rfl, by decide +kernel⟩
theorem mok140 : mOkP (k140, (yX9_right, cX9_right, 4, (some .int)), 9) := ⟨rfl, by decide +kernel⟩
theorem mok141 : mOkP (k141, (yX9_fit, cX9_fit, 3, (some .int)), 9) := ⟨rfl, by decide +kernel⟩
theorem mok142 : mOkP (k142, (yX9_surely, cX9_surely, 6, (some .int)), 9) := ⟨rfl, by decide +kernel⟩
theorem mok143 : mOkP (k143, (yX9_next, cX9_next, 8, (some .int)), 9) := ⟨rfl, by decide +kernel⟩
theorem mok144 : mOkP (k144, (yX9_isStep, cX9_isStep, 1, (some .boolean)), 9) := ⟨rfl, by decide +kernel⟩
theorem mok145 : mOkP (k145, (yX9_count, cX9_count, 2, (some .int)), 9) := ⟨rfl, by decide +kernel⟩
theorem mok146 : mOkP (k146, (yX10_in, cX10_in, 3, (some .boolean)), 10) := ⟨rfl, by decide +kernel⟩
theorem mok147 : mOkP (k147, (yX10_feed, cX10_feed, 9, (some .int)), 10) := ⟨rfl, by decide +kernel⟩
theorem mok148 : mOkP (k148, (yX10_end, cX10_end, 2, (some .int)), 10) := ⟨rfl, by decide +kernel⟩
theorem mok149 : mOkP (k149, (yX10_see, cX10_see, 2, (some .int)), 10) := ⟨rfl, by decide +kernel⟩
theorem mok150 : mOkP (k150, (yX10_isSmall, cX10_isSmall, 1, (some .boolean)), 10) := ⟨rfl, by decide +kernel⟩
theorem mok151 : mOkP (k151, (yX10_isDigit, cX10_isDigit, 1, (some .boolean)), 10) := ⟨rfl, by decide +kernel⟩
theorem mok152 : mOkP (k152, (yX10_keyAt, cX10_keyAt, 8, (some .int)), 10) := ⟨rfl, by decide +kernel⟩
theorem mok153 : mOkP (k153, (yX10_scan, cX10_scan, 4, none), 10) := ⟨rfl, by decide +kernel⟩
theorem mok154 : mOkP (k154, (yX10_fails, cX10_fails, 2, (some .boolean)), 10) := ⟨rfl, by decide +kernel⟩
theorem mok155 : mOkP (k155, (yX10_readNumber, cX10_readNumber, 3, (some .boolean)), 10) := ⟨rfl, by decide +kernel⟩
theorem mok156 : mOkP (k156, (yX10_setHere, cX10_setHere, 3, (some .int)), 10) := ⟨rfl, by decide +kernel⟩
theorem mok157 : mOkP (k157, (yX10_readSet, cX10_readSet, 2, (some .boolean)), 10) := ⟨rfl, by decide +kernel⟩
theorem mok158 : mOkP (k158, (yX10_fault, cX10_fault, 2, (some .int)), 10) := ⟨rfl, by decide +kernel⟩
theorem mok159 : mOkP (k159, (yX10_begin, cX10_begin, 2, none), 10) := ⟨rfl, by decide +kernel⟩
theorem mok160 : mOkP (k160, (yX10_comes, cX10_comes, 3, none), 10) := ⟨rfl, by decide +kernel⟩
theorem mok161 : mOkP (k161, (yX10_settle, cX10_settle, 2, none), 10) := ⟨rfl, by decide +kernel⟩
theorem mok162 : mOkP (k162, (yX10_named, cX10_named, 4, (some .int)), 10) := ⟨rfl, by decide +kernel⟩
theorem mok163 : mOkP (k163, (yX10_readName, cX10_readName, 5, (some .boolean)), 10) := ⟨rfl, by decide +kernel⟩
theorem mok164 : mOkP (k164, (yX10_readPlace, cX10_readPlace, 4, (some .boolean)), 10) := ⟨rfl, by decide +kernel⟩
theorem mok165 : mOkP (k165, (yX10_readTie, cX10_readTie, 3, (some .boolean)), 10) := ⟨rfl, by decide +kernel⟩
theorem mok166 : mOkP (k166, (yX10_readHearer, cX10_readHearer, 2, (some .boolean)), 10) := ⟨rfl, by decide +kernel⟩
theorem mok167 : mOkP (k167, (yX10_readWeight, cX10_readWeight, 3, (some .boolean)), 10) := ⟨rfl, by decide +kernel⟩
theorem mok168 : mOkP (k168, (yX10_readTold, cX10_readTold, 3, (some .boolean)), 10) := ⟨rfl, by decide +kernel⟩
theorem mok169 : mOkP (k169, (yX10_readClause, cX10_readClause, 3, (some .boolean)), 10) := ⟨rfl, by decide +kernel⟩
theorem mok170 : mOkP (k170, (yX10_book, cX10_book, 2, (some .int)), 10) := ⟨rfl, by decide +kernel⟩
theorem mok171 : mOkP (k171, (yX10_told, cX10_told, 2, (some .int)), 10) := ⟨rfl, by decide +kernel⟩
theorem mok172 : mOkP (k172, (yX10_isNotion, cX10_isNotion, 2, (some .boolean)), 10) := ⟨rfl, by decide +kernel⟩
theorem mok173 : mOkP (k173, (yX10_isWord, cX10_isWord, 2, (some .boolean)), 10) := ⟨rfl, by decide +kernel⟩
theorem mok174 : mOkP (k174, (yX10_isPlace, cX10_isPlace, 2, (some .boolean)), 10) := ⟨rfl, by decide +kernel⟩
theorem mok175 : mOkP (k175, (yX10_isTie, cX10_isTie, 2, (some .boolean)), 10) := ⟨rfl, by decide +kernel⟩
theorem mok176 : mOkP (k176, (yX10_isHearer, cX10_isHearer, 2, (some .boolean)), 10) := ⟨rfl, by decide +kernel⟩
theorem mok177 : mOkP (k177, (yX10_traits, cX10_traits, 3, (some .int)), 10) := ⟨rfl, by decide +kernel⟩
theorem mok178 : mOkP (k178, (yX10_notion, cX10_notion, 2, (some .int)), 10) := ⟨rfl, by decide +kernel⟩
theorem mok179 : mOkP (k179, (yX10_weigh, cX10_weigh, 4, (some .int)), 10) := ⟨rfl, by decide +kernel⟩
theorem mok180 : mOkP (k180, (yX10_traitsOf, cX10_traitsOf, 5, (some .int)), 10) := ⟨rfl, by decide +kernel⟩
theorem mok181 : mOkP (k181, (yX10_had, cX10_had, 4, (some .int)), 10) := ⟨rfl, by decide +kernel⟩
theorem mok182 : mOkP (k182, (yX10_lackAt, cX10_lackAt, 3, (some .int)), 10) := ⟨rfl, by decide +kernel⟩
theorem mok183 : mOkP (k183, (yX10_addAt, cX10_addAt, 3, (some .int)), 10) := ⟨rfl, by decide +kernel⟩
theorem mok184 : mOkP (k184, (yX10_lostAt, cX10_lostAt, 4, (some .int)), 10) := ⟨rfl, by decide +kernel⟩
theorem mok185 : mOkP (k185, (yX10_lostAll, cX10_lostAll, 4, (some .int)), 10) := ⟨rfl, by decide +kernel⟩
theorem mok186 : mOkP (k186, (yX10_put, cX10_put, 6, none), 10) := ⟨rfl, by decide +kernel⟩
theorem mok187 : mOkP (k187, (yX10_choose, cX10_choose, 6, (some .int)), 10) := ⟨rfl, by decide +kernel⟩
theorem mok188 : mOkP (k188, (yX10_leave, cX10_leave, 3, (some .int)), 10) := ⟨rfl, by decide +kernel⟩
theorem mok189 : mOkP (k189, (yX10_choice, cX10_choice, 3, (some .int)), 10) := ⟨rfl, by decide +kernel⟩
theorem mok190 : mOkP (k190, (yX10_bears, cX10_bears, 3, (some .int)), 10) := ⟨rfl, by decide +kernel⟩
theorem mok191 : mOkP (k191, (yX10_bits, cX10_bits, 3, (some .int)), 10) := ⟨rfl, by decide +kernel⟩
theorem mok192 : mOkP (k192, (yX10_notedAll, cX10_notedAll, 3, (some .int)), 10) := ⟨rfl, by decide +kernel⟩
theorem mok193 : mOkP (k193, (yX10_note, cX10_note, 4, (some .int)), 10) := ⟨rfl, by decide +kernel⟩
theorem mok194 : mOkP (k194, (yX10_lost, cX10_lost, 1, (some .int)), 10) := ⟨rfl, by decide +kernel⟩
theorem mok195 : mOkP (k195, (yX10_isClash, cX10_isClash, 4, (some .boolean)), 10) := ⟨rfl, by decide +kernel⟩
theorem mok196 : mOkP (k196, (yX10_clashes, cX10_clashes, 3, (some .int)), 10) := ⟨rfl, by decide +kernel⟩
theorem mok197 : mOkP (k197, (yX10_bound, cX10_bound, 5, (some .int)), 10) := ⟨rfl, by decide +kernel⟩
theorem mok198 : mOkP (k198, (yX10_putBy, cX10_putBy, 3, none), 10) := ⟨rfl, by decide +kernel⟩
theorem mok199 : mOkP (k199, (yX10_isFree, cX10_isFree, 3, (some .boolean)), 10) := ⟨rfl, by decide +kernel⟩
theorem mok200 : mOkP (k200, (yX10_best, cX10_best, 8, (some .int)), 10) := ⟨rfl, by decide +kernel⟩
theorem mok201 : mOkP (k201, (yX10_layRow, cX10_layRow, 6, (some .int)), 10) := ⟨rfl, by decide +kernel⟩
theorem mok202 : mOkP (k202, (yX10_costs, cX10_costs, 1, (some .int)), 10) := ⟨rfl, by decide +kernel⟩
theorem mok203 : mOkP (k203, (yX10_exchange, cX10_exchange, 12, (some .int)), 10) := ⟨rfl, by decide +kernel⟩
theorem mok204 : mOkP (k204, (yX10_plainAt, cX10_plainAt, 3, (some .int)), 10) := ⟨rfl, by decide +kernel⟩
theorem mok205 : mOkP (k205, (yX10_plainSum, cX10_plainSum, 5, (some .int)), 10) := ⟨rfl, by decide +kernel⟩
theorem mok206 : mOkP (k206, (yX10_oneOf, cX10_oneOf, 4, (some .int)), 10) := ⟨rfl, by decide +kernel⟩
theorem mok207 : mOkP (k207, (yX10_one, cX10_one, 2, (some .int)), 10) := ⟨rfl, by decide +kernel⟩
theorem mok208 : mOkP (k208, (yX10_price, cX10_price, 7, (some .int)), 10) := ⟨rfl, by decide +kernel⟩
theorem mok209 : mOkP (k209, (yX10_swap, cX10_swap, 4, (some .int)), 10) := ⟨rfl, by decide +kernel⟩
theorem mok210 : mOkP (k210, (yX10_mend, cX10_mend, 8, (some .int)), 10) := ⟨rfl, by decide +kernel⟩
theorem mok211 : mOkP (k211, (yX10_heardBy, cX10_heardBy, 3, (some .int)), 10) := ⟨rfl, by decide +kernel⟩
theorem mok212 : mOkP (k212, (yX10_backOf, cX10_backOf, 6, (some .int)), 10) := ⟨rfl, by decide +kernel⟩
theorem mok213 : mOkP (k213, (yX10_isLaugh, cX10_isLaugh, 3, (some .boolean)), 10) := ⟨rfl, by decide +kernel⟩
theorem mok214 : mOkP (k214, (yX10_isAsked, cX10_isAsked, 3, (some .boolean)), 10) := ⟨rfl, by decide +kernel⟩
theorem mok215 : mOkP (k215, (yX10_hears, cX10_hears, 3, (some .int)), 10) := ⟨rfl, by decide +kernel⟩
theorem mok216 : mOkP (k216, (yX10_back, cX10_back, 3, (some .int)), 10) := ⟨rfl, by decide +kernel⟩
theorem mok217 : mOkP (k217, (yX10_laughs, cX10_laughs, 3, (some .int)), 10) := ⟨rfl, by decide +kernel⟩
theorem mok218 : mOkP (k218, (yX10_hitsOf, cX10_hitsOf, 4, (some .int)), 10) := ⟨rfl, by decide +kernel⟩
theorem mok219 : mOkP (k219, (yX10_hits, cX10_hits, 2, (some .int)), 10) := ⟨rfl, by decide +kernel⟩
theorem mok220 : mOkP (k220, (yX10_on, cX10_on, 9, (some .int)), 10) := ⟨rfl, by decide +kernel⟩
theorem mok221 : mOkP (k221, (yX10_store, cX10_store, 4, none), 10) := ⟨rfl, by decide +kernel⟩
theorem mok222 : mOkP (k222, (yX10_load, cX10_load, 4, none), 10) := ⟨rfl, by decide +kernel⟩
theorem mok223 : mOkP (k223, (yX10_isSlot, cX10_isSlot, 1, (some .boolean)), 10) := ⟨rfl, by decide +kernel⟩
theorem mok224 : mOkP (k224, (yX10_keep, cX10_keep, 2, (some .int)), 10) := ⟨rfl, by decide +kernel⟩
theorem mok225 : mOkP (k225, (yX10_take, cX10_take, 2, (some .int)), 10) := ⟨rfl, by decide +kernel⟩
theorem mok226 : mOkP (k226, (yX10_nearer, cX10_nearer, 8, (some .int)), 10) := ⟨rfl, by decide +kernel⟩
theorem mok227 : mOkP (k227, (yX10_cellOf, cX10_cellOf, 3, (some .int)), 10) := ⟨rfl, by decide +kernel⟩
theorem mok228 : mOkP (k228, (yX10_gives, cX10_gives, 6, (some .int)), 10) := ⟨rfl, by decide +kernel⟩
theorem mok229 : mOkP (k229, (yX10_agree, cX10_agree, 9, (some .int)), 10) := ⟨rfl, by decide +kernel⟩
theorem mok230 : mOkP (k230, (yX10_moves, cX10_moves, 5, (some .int)), 10) := ⟨rfl, by decide +kernel⟩
theorem mok231 : mOkP (k231, (yX10_lostIn, cX10_lostIn, 2, (some .int)), 10) := ⟨rfl, by decide +kernel⟩
theorem mok232 : mOkP (k232, (yX10_turned, cX10_turned, 4, (some .int)), 10) := ⟨rfl, by decide +kernel⟩
theorem mok233 : mOkP (k233, (yX10_until, cX10_until, 4, (some .int)), 10) := ⟨rfl, by decide +kernel⟩
theorem mok234 : mOkP (k234, (yX10_heard, cX10_heard, 5, (some .int)), 10) := ⟨rfl, by decide +kernel⟩
theorem mok235 : mOkP (k235, (yX10_right, cX10_right, 6, (some .int)), 10) := ⟨rfl, by decide +kernel⟩
theorem mok236 : mOkP (k236, (yX10_setOf, cX10_setOf, 3, (some .int)), 10) := ⟨rfl, by decide +kernel⟩
theorem mok237 : mOkP (k237, (yX10_makeFits, cX10_makeFits, 9, (some .int)), 10) := ⟨rfl, by decide +kernel⟩
theorem mok238 : mOkP (k238, (yX10_fit, cX10_fit, 3, (some .int)), 10) := ⟨rfl, by decide +kernel⟩
theorem mok239 : mOkP (k239, (yX10_surely, cX10_surely, 7, (some .int)), 10) := ⟨rfl, by decide +kernel⟩
theorem mok240 : mOkP (k240, (yX10_next, cX10_next, 8, (some .int)), 10) := ⟨rfl, by decide +kernel⟩
theorem mok241 : mOkP (k241, (yX10_count, cX10_count, 4, (some .int)), 10) := ⟨rfl, by decide +kernel⟩
theorem mok242 : mOkP (k242, (yJ6_bitCount_0f7a4, cJ6_bitCount_0f7a4, 1, (some .int)), 11) := ⟨rfl, by decide +kernel⟩
theorem mok243 : mOkP (k243, (yJ7_fill_53178, cJ7_fill_53178, 4, none), 12) := ⟨rfl, by decide +kernel⟩
theorem mok244 : mOkP (k244, (yJ7_fill_031fb, cJ7_fill_031fb, 4, none), 12) := ⟨rfl, by decide +kernel⟩
def PI0 : List (pM × pInf × Nat) := [(k0, (yX0_clear, cX0_clear, 1, none), 0), (k1, (yX0_copyFrom, cX0_copyFrom, 2, none), 0), (k2, (yX0_roomFor, cX0_roomFor, 1, (some .int)), 0), (k3, (yX0_has, cX0_has, 3, (some .boolean)), 0), (k4, (yX0_setting, cX0_setting, 2, (some .int)), 0), (k5, (yX0_allPlaces, cX0_allPlaces, 1, (some .int)), 0), (k6, (yX0_weigh, cX0_weigh, 4, none), 0), (k7, (yX0_sumGroups, cX0_sumGroups, 5, none), 0), (k8, (yX0_weightsOf, cX0_weightsOf, 3, (some .int)), 0), (k9, (yX0_traitsOfNotionAt, cX0_traitsOfNotionAt, 2, (some .int)), 0), (k10, (yX0_lacksOf, cX0_lacksOf, 3, (some .int)), 0), (k11, (yX0_addsOf, cX0_addsOf, 3, (some .int)), 0), (k12, (yX0_lostByTraits, cX0_lostByTraits, 4, (some .int)), 0), (k13, (yX0_wouldClash, cX0_wouldClash, 5, (some .boolean)), 0), (k14, (yX0_otherPlace, cX0_otherPlace, 3, (some .int)), 0), (k15, (yX0_boundBy, cX0_boundBy, 7, (some .int)), 0)]
theorem okA0 : ∀ q ∈ PI0, mOkP q := List.forall_mem_cons.mpr ⟨mok0, List.forall_mem_cons.mpr ⟨mok1, List.forall_mem_cons.mpr ⟨mok2, List.forall_mem_cons.mpr ⟨mok3, List.forall_mem_cons.mpr ⟨mok4, List.forall_mem_cons.mpr ⟨mok5, List.forall_mem_cons.mpr ⟨mok6, List.forall_mem_cons.mpr ⟨mok7, List.forall_mem_cons.mpr ⟨mok8, List.forall_mem_cons.mpr ⟨mok9, List.forall_mem_cons.mpr ⟨mok10, List.forall_mem_cons.mpr ⟨mok11, List.forall_mem_cons.mpr ⟨mok12, List.forall_mem_cons.mpr ⟨mok13, List.forall_mem_cons.mpr ⟨mok14, List.forall_mem_cons.mpr ⟨mok15, fun _ h => absurd h List.not_mem_nil⟩⟩⟩⟩⟩⟩⟩⟩⟩⟩⟩⟩⟩⟩⟩⟩
def PI1 : List (pM × pInf × Nat) := [(k16, (yX0_wordForAll, cX0_wordForAll, 4, (some .int)), 0), (k17, (yX0_toldBack, cX0_toldBack, 7, (some .int)), 0), (k18, (yX0_traitsSaidFor, cX0_traitsSaidFor, 6, (some .int)), 0), (k19, (yX1_clear, cX1_clear, 1, none), 1), (k20, (yX1_indexOf, cX1_indexOf, 3, (some .int)), 1), (k21, (yX1_put, cX1_put, 7, (some .int)), 1), (k22, (yX1_agreed, cX1_agreed, 7, (some .int)), 1), (k23, (yX1_costOf, cX1_costOf, 7, (some .int)), 1), (k24, (yX2_clear, cX2_clear, 1, none), 2), (k25, (yX2_mayTell, cX2_mayTell, 3, (some .boolean)), 2), (k26, (yX2_isFull, cX2_isFull, 1, (some .boolean)), 2), (k27, (yX2_isFullOfRights, cX2_isFullOfRights, 1, (some .boolean)), 2), (k28, (yX2_append, cX2_append, 6, (some .int)), 2), (k29, (yX2_putRight, cX2_putRight, 4, (some .int)), 2), (k30, (yX2_gather, cX2_gather, 6, (some .int)), 2), (k31, (yX2_fitsAll, cX2_fitsAll, 6, (some .boolean)), 2)]
theorem okA1 : ∀ q ∈ PI1, mOkP q := List.forall_mem_cons.mpr ⟨mok16, List.forall_mem_cons.mpr ⟨mok17, List.forall_mem_cons.mpr ⟨mok18, List.forall_mem_cons.mpr ⟨mok19, List.forall_mem_cons.mpr ⟨mok20, List.forall_mem_cons.mpr ⟨mok21, List.forall_mem_cons.mpr ⟨mok22, List.forall_mem_cons.mpr ⟨mok23, List.forall_mem_cons.mpr ⟨mok24, List.forall_mem_cons.mpr ⟨mok25, List.forall_mem_cons.mpr ⟨mok26, List.forall_mem_cons.mpr ⟨mok27, List.forall_mem_cons.mpr ⟨mok28, List.forall_mem_cons.mpr ⟨mok29, List.forall_mem_cons.mpr ⟨mok30, List.forall_mem_cons.mpr ⟨mok31, fun _ h => absurd h List.not_mem_nil⟩⟩⟩⟩⟩⟩⟩⟩⟩⟩⟩⟩⟩⟩⟩⟩
def PI2 : List (pM × pInf × Nat) := [(k32, (yX2_setsWith, cX2_setsWith, 4, (some .int)), 2), (k33, (yX2_setsWithin, cX2_setsWithin, 4, (some .int)), 2), (k34, (yX3_append, cX3_append, 3, none), 3), (k35, (yX3_find, cX3_find, 5, (some .int)), 3), (k36, (yX3_isSame, cX3_isSame, 5, (some .boolean)), 3), (k37, (yX4_read, cX4_read, 4, (some .int)), 4), (k38, (yX4_begin, cX4_begin, 2, none), 4), (k39, (yX4_advance, cX4_advance, 1, none), 4), (k40, (yX4_signOf, cX4_signOf, 1, (some .char)), 4), (k41, (yX4_refuse, cX4_refuse, 2, (some .boolean)), 4), (k42, (yX4_mayBegin, cX4_mayBegin, 2, (some .boolean)), 4), (k43, (yX4_readBody, cX4_readBody, 2, (some .boolean)), 4), (k44, (yX4_keyword, cX4_keyword, 1, (some .int)), 4), (k45, (yX4_isWord, cX4_isWord, 3, (some .boolean)), 4), (k46, (yX4_readSemicolon, cX4_readSemicolon, 1, (some .boolean)), 4), (k47, (yX4_readTraits, cX4_readTraits, 4, (some .boolean)), 4)]
theorem okA2 : ∀ q ∈ PI2, mOkP q := List.forall_mem_cons.mpr ⟨mok32, List.forall_mem_cons.mpr ⟨mok33, List.forall_mem_cons.mpr ⟨mok34, List.forall_mem_cons.mpr ⟨mok35, List.forall_mem_cons.mpr ⟨mok36, List.forall_mem_cons.mpr ⟨mok37, List.forall_mem_cons.mpr ⟨mok38, List.forall_mem_cons.mpr ⟨mok39, List.forall_mem_cons.mpr ⟨mok40, List.forall_mem_cons.mpr ⟨mok41, List.forall_mem_cons.mpr ⟨mok42, List.forall_mem_cons.mpr ⟨mok43, List.forall_mem_cons.mpr ⟨mok44, List.forall_mem_cons.mpr ⟨mok45, List.forall_mem_cons.mpr ⟨mok46, List.forall_mem_cons.mpr ⟨mok47, fun _ h => absurd h List.not_mem_nil⟩⟩⟩⟩⟩⟩⟩⟩⟩⟩⟩⟩⟩⟩⟩⟩
def PI3 : List (pM × pInf × Nat) := [(k48, (yX4_readPlace, cX4_readPlace, 3, (some .boolean)), 4), (k49, (yX4_readTie, cX4_readTie, 5, (some .boolean)), 4), (k50, (yX4_readHearer, cX4_readHearer, 3, (some .boolean)), 4), (k51, (yX4_readWeight, cX4_readWeight, 1, (some .boolean)), 4), (k52, (yX4_readSetting, cX4_readSetting, 2, (some .boolean)), 4), (k53, (yX4_readNewName, cX4_readNewName, 2, (some .boolean)), 4), (k54, (yX4_readSet, cX4_readSet, 3, (some .boolean)), 4), (k55, (yX4_readNumber, cX4_readNumber, 4, (some .boolean)), 4), (k56, (yX5_clear, cX5_clear, 1, none), 5), (k57, (yX5_copyFrom, cX5_copyFrom, 2, none), 5), (k58, (yX5_put, cX5_put, 6, none), 5), (k59, (yX5_isChosen, cX5_isChosen, 2, (some .boolean)), 5), (k60, (yX5_isBorrowed, cX5_isBorrowed, 2, (some .boolean)), 5), (k61, (yX5_chosen, cX5_chosen, 3, (some .int)), 5), (k62, (yX5_noted, cX5_noted, 3, (some .int)), 5), (k63, (yX5_traitsAt, cX5_traitsAt, 3, (some .int)), 5)]
theorem okA3 : ∀ q ∈ PI3, mOkP q := List.forall_mem_cons.mpr ⟨mok48, List.forall_mem_cons.mpr ⟨mok49, List.forall_mem_cons.mpr ⟨mok50, List.forall_mem_cons.mpr ⟨mok51, List.forall_mem_cons.mpr ⟨mok52, List.forall_mem_cons.mpr ⟨mok53, List.forall_mem_cons.mpr ⟨mok54, List.forall_mem_cons.mpr ⟨mok55, List.forall_mem_cons.mpr ⟨mok56, List.forall_mem_cons.mpr ⟨mok57, List.forall_mem_cons.mpr ⟨mok58, List.forall_mem_cons.mpr ⟨mok59, List.forall_mem_cons.mpr ⟨mok60, List.forall_mem_cons.mpr ⟨mok61, List.forall_mem_cons.mpr ⟨mok62, List.forall_mem_cons.mpr ⟨mok63, fun _ h => absurd h List.not_mem_nil⟩⟩⟩⟩⟩⟩⟩⟩⟩⟩⟩⟩⟩⟩⟩⟩
def PI4 : List (pM × pInf × Nat) := [(k64, (yX5_traitsOf, cX5_traitsOf, 2, (some .int)), 5), (k65, (yX5_lostAt, cX5_lostAt, 4, (some .int)), 5), (k66, (yX5_lostOfAll, cX5_lostOfAll, 4, (some .int)), 5), (k67, (yX5_clashBits, cX5_clashBits, 4, (some .int)), 5), (k68, (yX5_isClashing, cX5_isClashing, 6, (some .boolean)), 5), (k69, (yX5_clashesAt, cX5_clashesAt, 6, (some .int)), 5), (k70, (yX5_isBorrowedOption, cX5_isBorrowedOption, 2, (some .boolean)), 5), (k71, (yX5_traitsOfOption, cX5_traitsOfOption, 2, (some .int)), 5), (k72, (yX5_lostWithOption, cX5_lostWithOption, 3, (some .int)), 5), (k73, (yX5_putOption, cX5_putOption, 3, none), 5), (k74, (yX5_exchangeRound, cX5_exchangeRound, 3, (some .boolean)), 5), (k75, (yX5_exchangeAt, cX5_exchangeAt, 6, (some .boolean)), 5), (k76, (yX5_lostWithWord, cX5_lostWithWord, 5, (some .int)), 5), (k77, (yX5_lostWithLeast, cX5_lostWithLeast, 6, (some .int)), 5), (k78, (yX5_oneWord, cX5_oneWord, 6, (some .int)), 5), (k79, (yX5_mendOnce, cX5_mendOnce, 7, (some .boolean)), 5)]
theorem okA4 : ∀ q ∈ PI4, mOkP q := List.forall_mem_cons.mpr ⟨mok64, List.forall_mem_cons.mpr ⟨mok65, List.forall_mem_cons.mpr ⟨mok66, List.forall_mem_cons.mpr ⟨mok67, List.forall_mem_cons.mpr ⟨mok68, List.forall_mem_cons.mpr ⟨mok69, List.forall_mem_cons.mpr ⟨mok70, List.forall_mem_cons.mpr ⟨mok71, List.forall_mem_cons.mpr ⟨mok72, List.forall_mem_cons.mpr ⟨mok73, List.forall_mem_cons.mpr ⟨mok74, List.forall_mem_cons.mpr ⟨mok75, List.forall_mem_cons.mpr ⟨mok76, List.forall_mem_cons.mpr ⟨mok77, List.forall_mem_cons.mpr ⟨mok78, List.forall_mem_cons.mpr ⟨mok79, fun _ h => absurd h List.not_mem_nil⟩⟩⟩⟩⟩⟩⟩⟩⟩⟩⟩⟩⟩⟩⟩⟩
def PI5 : List (pM × pInf × Nat) := [(k80, (yX5_untoldLacks, cX5_untoldLacks, 2, (some .int)), 5), (k81, (yX5_heardAt, cX5_heardAt, 3, (some .int)), 5), (k82, (yX5_rightOf, cX5_rightOf, 4, (some .int)), 5), (k83, (yX6_putBest, cX6_putBest, 4, (some .boolean)), 6), (k84, (yX6_begin, cX6_begin, 5, none), 6), (k85, (yX6_levelOf, cX6_levelOf, 3, (some .int)), 6), (k86, (yX6_obeyTie, cX6_obeyTie, 5, none), 6), (k87, (yX6_obeyInside, cX6_obeyInside, 10, none), 6), (k88, (yX6_obeyOutside, cX6_obeyOutside, 5, none), 6), (k89, (yX6_settle, cX6_settle, 5, none), 6), (k90, (yX6_narrow, cX6_narrow, 6, (some .int)), 6), (k91, (yX6_leastOf, cX6_leastOf, 5, (some .int)), 6), (k92, (yX7_hasRoom, cX7_hasRoom, 1, (some .boolean)), 7), (k93, (yX7_append, cX7_append, 3, none), 7), (k94, (yX8_clear, cX8_clear, 1, none), 8), (k95, (yX8_isFull, cX8_isFull, 1, (some .boolean)), 8)]
theorem okA5 : ∀ q ∈ PI5, mOkP q := List.forall_mem_cons.mpr ⟨mok80, List.forall_mem_cons.mpr ⟨mok81, List.forall_mem_cons.mpr ⟨mok82, List.forall_mem_cons.mpr ⟨mok83, List.forall_mem_cons.mpr ⟨mok84, List.forall_mem_cons.mpr ⟨mok85, List.forall_mem_cons.mpr ⟨mok86, List.forall_mem_cons.mpr ⟨mok87, List.forall_mem_cons.mpr ⟨mok88, List.forall_mem_cons.mpr ⟨mok89, List.forall_mem_cons.mpr ⟨mok90, List.forall_mem_cons.mpr ⟨mok91, List.forall_mem_cons.mpr ⟨mok92, List.forall_mem_cons.mpr ⟨mok93, List.forall_mem_cons.mpr ⟨mok94, List.forall_mem_cons.mpr ⟨mok95, fun _ h => absurd h List.not_mem_nil⟩⟩⟩⟩⟩⟩⟩⟩⟩⟩⟩⟩⟩⟩⟩⟩
def PI6 : List (pM × pInf × Nat) := [(k96, (yX8_latestOf, cX8_latestOf, 4, (some .int)), 8), (k97, (yX8_append, cX8_append, 4, (some .int)), 8), (k98, (yX8_wordsIn, cX8_wordsIn, 3, (some (.array .int))), 8), (k99, (yX8_turns, cX8_turns, 7, (some .int)), 8), (k100, (yX8_firstAbove, cX8_firstAbove, 6, (some .int)), 8), (k101, (yX9_feed, cX9_feed, 6, (some .int)), 9), (k102, (yX9_end, cX9_end, 2, (some .int)), 9), (k103, (yX9_book, cX9_book, 3, (some .int)), 9), (k104, (yX9_fault, cX9_fault, 2, (some .int)), 9), (k105, (yX9_told, cX9_told, 2, (some .int)), 9), (k106, (yX9_traits, cX9_traits, 3, (some .int)), 9), (k107, (yX9_notion, cX9_notion, 2, (some .int)), 9), (k108, (yX9_choose, cX9_choose, 6, (some .int)), 9), (k109, (yX9_wordsAreFit, cX9_wordsAreFit, 5, (some .boolean)), 9), (k110, (yX9_leave, cX9_leave, 2, (some .int)), 9), (k111, (yX9_choice, cX9_choice, 3, (some .int)), 9)]
theorem okA6 : ∀ q ∈ PI6, mOkP q := List.forall_mem_cons.mpr ⟨mok96, List.forall_mem_cons.mpr ⟨mok97, List.forall_mem_cons.mpr ⟨mok98, List.forall_mem_cons.mpr ⟨mok99, List.forall_mem_cons.mpr ⟨mok100, List.forall_mem_cons.mpr ⟨mok101, List.forall_mem_cons.mpr ⟨mok102, List.forall_mem_cons.mpr ⟨mok103, List.forall_mem_cons.mpr ⟨mok104, List.forall_mem_cons.mpr ⟨mok105, List.forall_mem_cons.mpr ⟨mok106, List.forall_mem_cons.mpr ⟨mok107, List.forall_mem_cons.mpr ⟨mok108, List.forall_mem_cons.mpr ⟨mok109, List.forall_mem_cons.mpr ⟨mok110, List.forall_mem_cons.mpr ⟨mok111, fun _ h => absurd h List.not_mem_nil⟩⟩⟩⟩⟩⟩⟩⟩⟩⟩⟩⟩⟩⟩⟩⟩
def PI7 : List (pM × pInf × Nat) := [(k112, (yX9_bears, cX9_bears, 4, (some .int)), 9), (k113, (yX9_note, cX9_note, 4, (some .int)), 9), (k114, (yX9_lost, cX9_lost, 1, (some .int)), 9), (k115, (yX9_clashes, cX9_clashes, 1, (some .int)), 9), (k116, (yX9_bound, cX9_bound, 2, (some .int)), 9), (k117, (yX9_best, cX9_best, 3, (some .int)), 9), (k118, (yX9_exchange, cX9_exchange, 3, (some .int)), 9), (k119, (yX9_one, cX9_one, 2, (some .int)), 9), (k120, (yX9_price, cX9_price, 3, (some .int)), 9), (k121, (yX9_swap, cX9_swap, 2, (some .int)), 9), (k122, (yX9_mend, cX9_mend, 4, (some .int)), 9), (k123, (yX9_whyNotHeard, cX9_whyNotHeard, 3, (some .int)), 9), (k124, (yX9_hears, cX9_hears, 4, (some .int)), 9), (k125, (yX9_back, cX9_back, 4, (some .int)), 9), (k126, (yX9_laughs, cX9_laughs, 5, (some .int)), 9), (k127, (yX9_hits, cX9_hits, 2, (some .int)), 9)]
theorem okA7 : ∀ q ∈ PI7, mOkP q := List.forall_mem_cons.mpr ⟨mok112, List.forall_mem_cons.mpr ⟨mok113, List.forall_mem_cons.mpr ⟨mok114, List.forall_mem_cons.mpr ⟨mok115, List.forall_mem_cons.mpr ⟨mok116, List.forall_mem_cons.mpr ⟨mok117, List.forall_mem_cons.mpr ⟨mok118, List.forall_mem_cons.mpr ⟨mok119, List.forall_mem_cons.mpr ⟨mok120, List.forall_mem_cons.mpr ⟨mok121, List.forall_mem_cons.mpr ⟨mok122, List.forall_mem_cons.mpr ⟨mok123, List.forall_mem_cons.mpr ⟨mok124, List.forall_mem_cons.mpr ⟨mok125, List.forall_mem_cons.mpr ⟨mok126, List.forall_mem_cons.mpr ⟨mok127, fun _ h => absurd h List.not_mem_nil⟩⟩⟩⟩⟩⟩⟩⟩⟩⟩⟩⟩⟩⟩⟩⟩
def PI8 : List (pM × pInf × Nat) := [(k128, (yX9_on, cX9_on, 6, (some .int)), 9), (k129, (yX9_keep, cX9_keep, 2, (some .int)), 9), (k130, (yX9_take, cX9_take, 2, (some .int)), 9), (k131, (yX9_nearer, cX9_nearer, 5, (some .int)), 9), (k132, (yX9_gives, cX9_gives, 5, (some .int)), 9), (k133, (yX9_agree, cX9_agree, 2, (some .int)), 9), (k134, (yX9_moves, cX9_moves, 4, (some .int)), 9), (k135, (yX9_lostIn, cX9_lostIn, 2, (some .int)), 9), (k136, (yX9_turned, cX9_turned, 2, (some .int)), 9), (k137, (yX9_until, cX9_until, 2, (some .int)), 9), (k138, (yX9_isYear, cX9_isYear, 1, (some .boolean)), 9), (k139, (yX9_heard, cX9_heard, 5, (some .int)), 9), (k140, (yX9_right, cX9_right, 4, (some .int)), 9), (k141, (yX9_fit, cX9_fit, 3, (some .int)), 9), (k142, (yX9_surely, cX9_surely, 6, (some .int)), 9), (k143, (yX9_next, cX9_next, 8, (some .int)), 9)]
theorem okA8 : ∀ q ∈ PI8, mOkP q := List.forall_mem_cons.mpr ⟨mok128, List.forall_mem_cons.mpr ⟨mok129, List.forall_mem_cons.mpr ⟨mok130, List.forall_mem_cons.mpr ⟨mok131, List.forall_mem_cons.mpr ⟨mok132, List.forall_mem_cons.mpr ⟨mok133, List.forall_mem_cons.mpr ⟨mok134, List.forall_mem_cons.mpr ⟨mok135, List.forall_mem_cons.mpr ⟨mok136, List.forall_mem_cons.mpr ⟨mok137, List.forall_mem_cons.mpr ⟨mok138, List.forall_mem_cons.mpr ⟨mok139, List.forall_mem_cons.mpr ⟨mok140, List.forall_mem_cons.mpr ⟨mok141, List.forall_mem_cons.mpr ⟨mok142, List.forall_mem_cons.mpr ⟨mok143, fun _ h => absurd h List.not_mem_nil⟩⟩⟩⟩⟩⟩⟩⟩⟩⟩⟩⟩⟩⟩⟩⟩
def PI9 : List (pM × pInf × Nat) := [(k144, (yX9_isStep, cX9_isStep, 1, (some .boolean)), 9), (k145, (yX9_count, cX9_count, 2, (some .int)), 9), (k146, (yX10_in, cX10_in, 3, (some .boolean)), 10), (k147, (yX10_feed, cX10_feed, 9, (some .int)), 10), (k148, (yX10_end, cX10_end, 2, (some .int)), 10), (k149, (yX10_see, cX10_see, 2, (some .int)), 10), (k150, (yX10_isSmall, cX10_isSmall, 1, (some .boolean)), 10), (k151, (yX10_isDigit, cX10_isDigit, 1, (some .boolean)), 10), (k152, (yX10_keyAt, cX10_keyAt, 8, (some .int)), 10), (k153, (yX10_scan, cX10_scan, 4, none), 10), (k154, (yX10_fails, cX10_fails, 2, (some .boolean)), 10), (k155, (yX10_readNumber, cX10_readNumber, 3, (some .boolean)), 10), (k156, (yX10_setHere, cX10_setHere, 3, (some .int)), 10), (k157, (yX10_readSet, cX10_readSet, 2, (some .boolean)), 10), (k158, (yX10_fault, cX10_fault, 2, (some .int)), 10), (k159, (yX10_begin, cX10_begin, 2, none), 10)]
theorem okA9 : ∀ q ∈ PI9, mOkP q := List.forall_mem_cons.mpr ⟨mok144, List.forall_mem_cons.mpr ⟨mok145, List.forall_mem_cons.mpr ⟨mok146, List.forall_mem_cons.mpr ⟨mok147, List.forall_mem_cons.mpr ⟨mok148, List.forall_mem_cons.mpr ⟨mok149, List.forall_mem_cons.mpr ⟨mok150, List.forall_mem_cons.mpr ⟨mok151, List.forall_mem_cons.mpr ⟨mok152, List.forall_mem_cons.mpr ⟨mok153, List.forall_mem_cons.mpr ⟨mok154, List.forall_mem_cons.mpr ⟨mok155, List.forall_mem_cons.mpr ⟨mok156, List.forall_mem_cons.mpr ⟨mok157, List.forall_mem_cons.mpr ⟨mok158, List.forall_mem_cons.mpr ⟨mok159, fun _ h => absurd h List.not_mem_nil⟩⟩⟩⟩⟩⟩⟩⟩⟩⟩⟩⟩⟩⟩⟩⟩
def PI10 : List (pM × pInf × Nat) := [(k160, (yX10_comes, cX10_comes, 3, none), 10), (k161, (yX10_settle, cX10_settle, 2, none), 10), (k162, (yX10_named, cX10_named, 4, (some .int)), 10), (k163, (yX10_readName, cX10_readName, 5, (some .boolean)), 10), (k164, (yX10_readPlace, cX10_readPlace, 4, (some .boolean)), 10), (k165, (yX10_readTie, cX10_readTie, 3, (some .boolean)), 10), (k166, (yX10_readHearer, cX10_readHearer, 2, (some .boolean)), 10), (k167, (yX10_readWeight, cX10_readWeight, 3, (some .boolean)), 10), (k168, (yX10_readTold, cX10_readTold, 3, (some .boolean)), 10), (k169, (yX10_readClause, cX10_readClause, 3, (some .boolean)), 10), (k170, (yX10_book, cX10_book, 2, (some .int)), 10), (k171, (yX10_told, cX10_told, 2, (some .int)), 10), (k172, (yX10_isNotion, cX10_isNotion, 2, (some .boolean)), 10), (k173, (yX10_isWord, cX10_isWord, 2, (some .boolean)), 10), (k174, (yX10_isPlace, cX10_isPlace, 2, (some .boolean)), 10), (k175, (yX10_isTie, cX10_isTie, 2, (some .boolean)), 10)]
theorem okA10 : ∀ q ∈ PI10, mOkP q := List.forall_mem_cons.mpr ⟨mok160, List.forall_mem_cons.mpr ⟨mok161, List.forall_mem_cons.mpr ⟨mok162, List.forall_mem_cons.mpr ⟨mok163, List.forall_mem_cons.mpr ⟨mok164, List.forall_mem_cons.mpr ⟨mok165, List.forall_mem_cons.mpr ⟨mok166, List.forall_mem_cons.mpr ⟨mok167, List.forall_mem_cons.mpr ⟨mok168, List.forall_mem_cons.mpr ⟨mok169, List.forall_mem_cons.mpr ⟨mok170, List.forall_mem_cons.mpr ⟨mok171, List.forall_mem_cons.mpr ⟨mok172, List.forall_mem_cons.mpr ⟨mok173, List.forall_mem_cons.mpr ⟨mok174, List.forall_mem_cons.mpr ⟨mok175, fun _ h => absurd h List.not_mem_nil⟩⟩⟩⟩⟩⟩⟩⟩⟩⟩⟩⟩⟩⟩⟩⟩
def PI11 : List (pM × pInf × Nat) := [(k176, (yX10_isHearer, cX10_isHearer, 2, (some .boolean)), 10), (k177, (yX10_traits, cX10_traits, 3, (some .int)), 10), (k178, (yX10_notion, cX10_notion, 2, (some .int)), 10), (k179, (yX10_weigh, cX10_weigh, 4, (some .int)), 10), (k180, (yX10_traitsOf, cX10_traitsOf, 5, (some .int)), 10), (k181, (yX10_had, cX10_had, 4, (some .int)), 10), (k182, (yX10_lackAt, cX10_lackAt, 3, (some .int)), 10), (k183, (yX10_addAt, cX10_addAt, 3, (some .int)), 10), (k184, (yX10_lostAt, cX10_lostAt, 4, (some .int)), 10), (k185, (yX10_lostAll, cX10_lostAll, 4, (some .int)), 10), (k186, (yX10_put, cX10_put, 6, none), 10), (k187, (yX10_choose, cX10_choose, 6, (some .int)), 10), (k188, (yX10_leave, cX10_leave, 3, (some .int)), 10), (k189, (yX10_choice, cX10_choice, 3, (some .int)), 10), (k190, (yX10_bears, cX10_bears, 3, (some .int)), 10), (k191, (yX10_bits, cX10_bits, 3, (some .int)), 10)]
theorem okA11 : ∀ q ∈ PI11, mOkP q := List.forall_mem_cons.mpr ⟨mok176, List.forall_mem_cons.mpr ⟨mok177, List.forall_mem_cons.mpr ⟨mok178, List.forall_mem_cons.mpr ⟨mok179, List.forall_mem_cons.mpr ⟨mok180, List.forall_mem_cons.mpr ⟨mok181, List.forall_mem_cons.mpr ⟨mok182, List.forall_mem_cons.mpr ⟨mok183, List.forall_mem_cons.mpr ⟨mok184, List.forall_mem_cons.mpr ⟨mok185, List.forall_mem_cons.mpr ⟨mok186, List.forall_mem_cons.mpr ⟨mok187, List.forall_mem_cons.mpr ⟨mok188, List.forall_mem_cons.mpr ⟨mok189, List.forall_mem_cons.mpr ⟨mok190, List.forall_mem_cons.mpr ⟨mok191, fun _ h => absurd h List.not_mem_nil⟩⟩⟩⟩⟩⟩⟩⟩⟩⟩⟩⟩⟩⟩⟩⟩
def PI12 : List (pM × pInf × Nat) := [(k192, (yX10_notedAll, cX10_notedAll, 3, (some .int)), 10), (k193, (yX10_note, cX10_note, 4, (some .int)), 10), (k194, (yX10_lost, cX10_lost, 1, (some .int)), 10), (k195, (yX10_isClash, cX10_isClash, 4, (some .boolean)), 10), (k196, (yX10_clashes, cX10_clashes, 3, (some .int)), 10), (k197, (yX10_bound, cX10_bound, 5, (some .int)), 10), (k198, (yX10_putBy, cX10_putBy, 3, none), 10), (k199, (yX10_isFree, cX10_isFree, 3, (some .boolean)), 10), (k200, (yX10_best, cX10_best, 8, (some .int)), 10), (k201, (yX10_layRow, cX10_layRow, 6, (some .int)), 10), (k202, (yX10_costs, cX10_costs, 1, (some .int)), 10), (k203, (yX10_exchange, cX10_exchange, 12, (some .int)), 10), (k204, (yX10_plainAt, cX10_plainAt, 3, (some .int)), 10), (k205, (yX10_plainSum, cX10_plainSum, 5, (some .int)), 10), (k206, (yX10_oneOf, cX10_oneOf, 4, (some .int)), 10), (k207, (yX10_one, cX10_one, 2, (some .int)), 10)]
theorem okA12 : ∀ q ∈ PI12, mOkP q := List.forall_mem_cons.mpr ⟨mok192, List.forall_mem_cons.mpr ⟨mok193, List.forall_mem_cons.mpr ⟨mok194, List.forall_mem_cons.mpr ⟨mok195, List.forall_mem_cons.mpr ⟨mok196, List.forall_mem_cons.mpr ⟨mok197, List.forall_mem_cons.mpr ⟨mok198, List.forall_mem_cons.mpr ⟨mok199, List.forall_mem_cons.mpr ⟨mok200, List.forall_mem_cons.mpr ⟨mok201, List.forall_mem_cons.mpr ⟨mok202, List.forall_mem_cons.mpr ⟨mok203, List.forall_mem_cons.mpr ⟨mok204, List.forall_mem_cons.mpr ⟨mok205, List.forall_mem_cons.mpr ⟨mok206, List.forall_mem_cons.mpr ⟨mok207, fun _ h => absurd h List.not_mem_nil⟩⟩⟩⟩⟩⟩⟩⟩⟩⟩⟩⟩⟩⟩⟩⟩
def PI13 : List (pM × pInf × Nat) := [(k208, (yX10_price, cX10_price, 7, (some .int)), 10), (k209, (yX10_swap, cX10_swap, 4, (some .int)), 10), (k210, (yX10_mend, cX10_mend, 8, (some .int)), 10), (k211, (yX10_heardBy, cX10_heardBy, 3, (some .int)), 10), (k212, (yX10_backOf, cX10_backOf, 6, (some .int)), 10), (k213, (yX10_isLaugh, cX10_isLaugh, 3, (some .boolean)), 10), (k214, (yX10_isAsked, cX10_isAsked, 3, (some .boolean)), 10), (k215, (yX10_hears, cX10_hears, 3, (some .int)), 10), (k216, (yX10_back, cX10_back, 3, (some .int)), 10), (k217, (yX10_laughs, cX10_laughs, 3, (some .int)), 10), (k218, (yX10_hitsOf, cX10_hitsOf, 4, (some .int)), 10), (k219, (yX10_hits, cX10_hits, 2, (some .int)), 10), (k220, (yX10_on, cX10_on, 9, (some .int)), 10), (k221, (yX10_store, cX10_store, 4, none), 10), (k222, (yX10_load, cX10_load, 4, none), 10), (k223, (yX10_isSlot, cX10_isSlot, 1, (some .boolean)), 10)]
theorem okA13 : ∀ q ∈ PI13, mOkP q := List.forall_mem_cons.mpr ⟨mok208, List.forall_mem_cons.mpr ⟨mok209, List.forall_mem_cons.mpr ⟨mok210, List.forall_mem_cons.mpr ⟨mok211, List.forall_mem_cons.mpr ⟨mok212, List.forall_mem_cons.mpr ⟨mok213, List.forall_mem_cons.mpr ⟨mok214, List.forall_mem_cons.mpr ⟨mok215, List.forall_mem_cons.mpr ⟨mok216, List.forall_mem_cons.mpr ⟨mok217, List.forall_mem_cons.mpr ⟨mok218, List.forall_mem_cons.mpr ⟨mok219, List.forall_mem_cons.mpr ⟨mok220, List.forall_mem_cons.mpr ⟨mok221, List.forall_mem_cons.mpr ⟨mok222, List.forall_mem_cons.mpr ⟨mok223, fun _ h => absurd h List.not_mem_nil⟩⟩⟩⟩⟩⟩⟩⟩⟩⟩⟩⟩⟩⟩⟩⟩
def PI14 : List (pM × pInf × Nat) := [(k224, (yX10_keep, cX10_keep, 2, (some .int)), 10), (k225, (yX10_take, cX10_take, 2, (some .int)), 10), (k226, (yX10_nearer, cX10_nearer, 8, (some .int)), 10), (k227, (yX10_cellOf, cX10_cellOf, 3, (some .int)), 10), (k228, (yX10_gives, cX10_gives, 6, (some .int)), 10), (k229, (yX10_agree, cX10_agree, 9, (some .int)), 10), (k230, (yX10_moves, cX10_moves, 5, (some .int)), 10), (k231, (yX10_lostIn, cX10_lostIn, 2, (some .int)), 10), (k232, (yX10_turned, cX10_turned, 4, (some .int)), 10), (k233, (yX10_until, cX10_until, 4, (some .int)), 10), (k234, (yX10_heard, cX10_heard, 5, (some .int)), 10), (k235, (yX10_right, cX10_right, 6, (some .int)), 10), (k236, (yX10_setOf, cX10_setOf, 3, (some .int)), 10), (k237, (yX10_makeFits, cX10_makeFits, 9, (some .int)), 10), (k238, (yX10_fit, cX10_fit, 3, (some .int)), 10), (k239, (yX10_surely, cX10_surely, 7, (some .int)), 10)]
theorem okA14 : ∀ q ∈ PI14, mOkP q := List.forall_mem_cons.mpr ⟨mok224, List.forall_mem_cons.mpr ⟨mok225, List.forall_mem_cons.mpr ⟨mok226, List.forall_mem_cons.mpr ⟨mok227, List.forall_mem_cons.mpr ⟨mok228, List.forall_mem_cons.mpr ⟨mok229, List.forall_mem_cons.mpr ⟨mok230, List.forall_mem_cons.mpr ⟨mok231, List.forall_mem_cons.mpr ⟨mok232, List.forall_mem_cons.mpr ⟨mok233, List.forall_mem_cons.mpr ⟨mok234, List.forall_mem_cons.mpr ⟨mok235, List.forall_mem_cons.mpr ⟨mok236, List.forall_mem_cons.mpr ⟨mok237, List.forall_mem_cons.mpr ⟨mok238, List.forall_mem_cons.mpr ⟨mok239, fun _ h => absurd h List.not_mem_nil⟩⟩⟩⟩⟩⟩⟩⟩⟩⟩⟩⟩⟩⟩⟩⟩
def PI15 : List (pM × pInf × Nat) := [(k240, (yX10_next, cX10_next, 8, (some .int)), 10), (k241, (yX10_count, cX10_count, 4, (some .int)), 10), (k242, (yJ6_bitCount_0f7a4, cJ6_bitCount_0f7a4, 1, (some .int)), 11), (k243, (yJ7_fill_53178, cJ7_fill_53178, 4, none), 12), (k244, (yJ7_fill_031fb, cJ7_fill_031fb, 4, none), 12)]
theorem okA15 : ∀ q ∈ PI15, mOkP q := List.forall_mem_cons.mpr ⟨mok240, List.forall_mem_cons.mpr ⟨mok241, List.forall_mem_cons.mpr ⟨mok242, List.forall_mem_cons.mpr ⟨mok243, List.forall_mem_cons.mpr ⟨mok244, fun _ h => absurd h List.not_mem_nil⟩⟩⟩⟩⟩
def PI : List (pM × pInf × Nat) := (PI0 ++ (PI1 ++ (PI2 ++ (PI3 ++ (PI4 ++ (PI5 ++ (PI6 ++ (PI7 ++ (PI8 ++ (PI9 ++ (PI10 ++ (PI11 ++ (PI12 ++ (PI13 ++ (PI14 ++ PI15)))))))))))))))
theorem PI_ok : ∀ q ∈ PI, mOkP q := (fun q h => (List.mem_append.mp h).elim (okA0 q) ((fun q h => (List.mem_append.mp h).elim (okA1 q) ((fun q h => (List.mem_append.mp h).elim (okA2 q) ((fun q h => (List.mem_append.mp h).elim (okA3 q) ((fun q h => (List.mem_append.mp h).elim (okA4 q) ((fun q h => (List.mem_append.mp h).elim (okA5 q) ((fun q h => (List.mem_append.mp h).elim (okA6 q) ((fun q h => (List.mem_append.mp h).elim (okA7 q) ((fun q h => (List.mem_append.mp h).elim (okA8 q) ((fun q h => (List.mem_append.mp h).elim (okA9 q) ((fun q h => (List.mem_append.mp h).elim (okA10 q) ((fun q h => (List.mem_append.mp h).elim (okA11 q) ((fun q h => (List.mem_append.mp h).elim (okA12 q) ((fun q h => (List.mem_append.mp h).elim (okA13 q) ((fun q h => (List.mem_append.mp h).elim (okA14 q) (okA15 q)) q)) q)) q)) q)) q)) q)) q)) q)) q)) q)) q)) q)) q)) q))
set_option maxRecDepth 100000 in
theorem PI_Pr : PI.map (fun q => q.1) = Pr := rfl
set_option maxRecDepth 100000 in
theorem PI_Inf : PI.map (fun q => q.2.1) = Inf := rfl
theorem Pr_len : PI.length = miT.length := by decide +kernel
theorem tg_pok : pPok Pr Inf tg pXsS := by
  intro me M hM
  rw [← PI_Pr, List.getElem?_map] at hM
  cases hq : PI[me]? with
  | none => rw [hq] at hM; cases hM
  | some q =>
    rw [hq] at hM
    obtain rfl := Option.some.inj hM
    obtain ⟨M, ⟨y, bytes, maxL, ret⟩, oc⟩ := q
    obtain ⟨hc, hall⟩ := PI_ok _ (List.mem_of_getElem? hq)
    have hI : Inf[me]? = some (y, bytes, maxL, ret) := by rw [← PI_Inf, List.getElem?_map, hq]; rfl
    have hl : me < miT.length := by rw [← Pr_len]; exact (List.getElem?_eq_some_iff.mp hq).1
    obtain ⟨y2, b2, m2, r2, hI2, -, -, -, hpl, -⟩ := mi_inf (List.getElem?_eq_getElem hl)
    rw [hI] at hI2
    cases hI2
    refine ⟨y, bytes, maxL, ret, hI, hpl, fun pc x hx => ?_⟩
    have h1 := List.all_eq_true.mp hall (pc, x) (pFind_mem hx)
    rw [Bool.and_eq_true] at h1
    dsimp only at hc
    rw [hc]
    exact ⟨of_decide_eq_true h1.1, xchk_ok h1.2⟩
