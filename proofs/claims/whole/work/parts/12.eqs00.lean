set_option maxRecDepth 100000 in
set_option maxHeartbeats 4000000 in
theorem e_Hb_feed (x1 : Int32) (x2 : Int32) (x3 : Int32) (x4 : Int32) (x5 : Int32) (D : pD) (E : pDL) : Hb_feed x1 x2 x3 x4 x5 D E = (pB1 (Ta_hasRoom D E) fun y1 D1 E1 => (if y1 = 0 then (some (some (.inl (-3 : Int32)), D1, E1)) else (pB0 (Ta_append x1 D1 E1) fun D2 E2 => (pB0 (Ta_append x2 D2 E2) fun D3 E3 => (pB0 (Ta_append x3 D3 E3) fun D4 E4 => (pB0 (Ta_append x4 D4 E4) fun D5 E5 => (pB0 (Ta_append x5 D5 E5) fun D6 E6 => (some (some (.inl (D6 1 0 1)), D6, E6))))))))) := (pEg m101 (d := 1) 35 _ _ _ _).trans rfl
set_option maxRecDepth 100000 in
set_option maxHeartbeats 4000000 in
theorem e_Hb_end (x1 : Int32) (D : pD) (E : pDL) : Hb_end x1 D E = (if x1 < 0 then (some (some (.inl (-1 : Int32)), D, E)) else (if x1 ≤ (D 1 0 1) then (some (some (.inl x1), (dset D 1 0 1 x1), E)) else (some (some (.inl (-1 : Int32)), D, E)))) := (pEg m102 (d := 0) 22 _ _ _ _).trans rfl
set_option maxRecDepth 100000 in
set_option maxHeartbeats 4000000 in
theorem e_Hb_book (D : pD) (E : pDL) : Hb_book  D E = (pB1 (Re_read D E) fun y1 D1 E1 => (if y1 = (-1 : Int32) then (some (some (.inl (-1 : Int32)), (dset D1 1 0 1 (0 : Int32)), E1)) else (pB0 (Bk_copyFrom_draft (dset D1 1 0 1 (0 : Int32)) E1) fun D2 E2 => (pB0 (Rn_clear D2 E2) fun D3 E3 => (Hb_book_50 y1 (0 : Int32) D3 E3))))) := (pEg m103 (d := 6) 31 _ _ _ _).trans rfl
set_option maxRecDepth 100000 in
set_option maxHeartbeats 4000000 in
theorem e_Hb_fault (x1 : Int32) (D : pD) (E : pDL) : Hb_fault x1 D E = (if x1.toInt = 0 then (some (some (.inl (D 17 0 4)), D, E)) else (if x1.toInt = 1 then (some (some (.inl (D 17 0 5)), D, E)) else (some (some (.inl (-1 : Int32)), D, E)))) := (pEg m104 (d := 0) 17 _ _ _ _).trans rfl
set_option maxRecDepth 100000 in
set_option maxHeartbeats 4000000 in
theorem e_Hb_told (x1 : Int32) (D : pD) (E : pDL) : Hb_told x1 D E = (if x1 < 0 then (if x1 < (5 : Int32) then (Hb_told_42 x1 D E) else (if (9 : Int32) < x1 then (Hb_told_42 x1 D E) else (if (x1 - (5 : Int32)) < 0 ∨ 5 ≤ (x1 - (5 : Int32)).toNatClampNeg then none else (some (some (.inl (D 5 0 (x1 - (5 : Int32)).toNatClampNeg)), D, E))))) else (if (4 : Int32) < x1 then (if x1 < (5 : Int32) then (Hb_told_42 x1 D E) else (if (9 : Int32) < x1 then (Hb_told_42 x1 D E) else (if (x1 - (5 : Int32)) < 0 ∨ 5 ≤ (x1 - (5 : Int32)).toNatClampNeg then none else (some (some (.inl (D 5 0 (x1 - (5 : Int32)).toNatClampNeg)), D, E))))) else (if x1 < 0 ∨ 5 ≤ x1.toNatClampNeg then none else (some (some (.inl (D 4 0 x1.toNatClampNeg)), D, E))))) := (pEg m105 (d := 0) 44 _ _ _ _).trans rfl
set_option maxRecDepth 100000 in
set_option maxHeartbeats 4000000 in
theorem e_Hb_traits (x1 : Int32) (x2 : Int32) (D : pD) (E : pDL) : Hb_traits x1 x2 D E = (if x1.toInt = 0 then (pB1 (Bk_has (0 : Int32) x2 D E) fun y6 D6 E6 => (if y6 = 0 then (some (some (.inl (-2 : Int32)), D6, E6)) else (if x2 < 0 ∨ 12 ≤ x2.toNatClampNeg then none else (some (some (.inl (D6 8 0 x2.toNatClampNeg)), D6, E6))))) else (if x1.toInt = 1 then (pB1 (Bk_has (1 : Int32) x2 D E) fun y5 D5 E5 => (if y5 = 0 then (some (some (.inl (-2 : Int32)), D5, E5)) else (if x2 < 0 ∨ 20 ≤ x2.toNatClampNeg then none else (some (some (.inl (D5 9 0 x2.toNatClampNeg)), D5, E5))))) else (if x1.toInt = 2 then (pB1 (Bk_has (2 : Int32) x2 D E) fun y4 D4 E4 => (if y4 = 0 then (some (some (.inl (-2 : Int32)), D4, E4)) else (if x2 < 0 ∨ 24 ≤ x2.toNatClampNeg then none else (some (some (.inl (D4 11 0 x2.toNatClampNeg)), D4, E4))))) else (if x1.toInt = 3 then (pB1 (Bk_has (3 : Int32) x2 D E) fun y3 D3 E3 => (if y3 = 0 then (some (some (.inl (-2 : Int32)), D3, E3)) else (if x2 < 0 ∨ 20 ≤ x2.toNatClampNeg then none else (some (some (.inl (D3 14 0 x2.toNatClampNeg)), D3, E3))))) else (if x1.toInt = 4 then (pB1 (Bk_has (4 : Int32) x2 D E) fun y2 D2 E2 => (if y2 = 0 then (some (some (.inl (-2 : Int32)), D2, E2)) else (if x2 < 0 ∨ 6 ≤ x2.toNatClampNeg then none else (some (some (.inl (D2 15 0 x2.toNatClampNeg)), D2, E2))))) else (if x1.toInt = 5 then (pB1 (Bk_has (4 : Int32) x2 D E) fun y1 D1 E1 => (if y1 = 0 then (some (some (.inl (-2 : Int32)), D1, E1)) else (if x2 < 0 ∨ 6 ≤ x2.toNatClampNeg then none else (some (some (.inl (D1 16 0 x2.toNatClampNeg)), D1, E1))))) else (some (some (.inl (-2 : Int32)), D, E)))))))) := (pEg m106 (d := 1) 99 _ _ _ _).trans rfl
set_option maxRecDepth 100000 in
set_option maxHeartbeats 4000000 in
theorem e_Hb_notion (x1 : Int32) (D : pD) (E : pDL) : Hb_notion x1 D E = (pB1 (Bk_has (2 : Int32) x1 D E) fun y1 D1 E1 => (if y1 = 0 then (some (some (.inl (-2 : Int32)), D1, E1)) else (if x1 < 0 ∨ 24 ≤ x1.toNatClampNeg then none else (some (some (.inl (D1 10 0 x1.toNatClampNeg)), D1, E1))))) := (pEg m107 (d := 1) 20 _ _ _ _).trans rfl
set_option maxRecDepth 100000 in
set_option maxHeartbeats 4000000 in
theorem e_Hb_choose (x1 : Int32) (x2 : Int32) (x3 : Int32) (x4 : Int32) (x5 : Int32) (D : pD) (E : pDL) : Hb_choose x1 x2 x3 x4 x5 D E = (pB1 (Bk_has (2 : Int32) x1 D E) fun y1 D1 E1 => (if y1 = 0 then (some (some (.inl (-2 : Int32)), D1, E1)) else (pB1 (Hb_wordsAreFit x2 x3 x4 x5 D1 E1) fun y2 D2 E2 => (if y2 = 0 then (some (some (.inl (-2 : Int32)), D2, E2)) else (if x2 = (3 : Int32) then (if x2 = (1 : Int32) then (Hb_choose_60 x1 x2 x5 x4 (-1 : Int32) x2 x1 D2 E2) else (if x2 = (2 : Int32) then (Hb_choose_60 x1 x2 x5 x4 (-1 : Int32) x2 x1 D2 E2) else (Hb_choose_60 x1 x2 x5 (-1 : Int32) (-1 : Int32) x2 x1 D2 E2))) else (if x2 = (1 : Int32) then (Hb_choose_60 x1 x2 x5 x4 x3 x2 x1 D2 E2) else (if x2 = (2 : Int32) then (Hb_choose_60 x1 x2 x5 x4 x3 x2 x1 D2 E2) else (Hb_choose_60 x1 x2 x5 (-1 : Int32) x3 x2 x1 D2 E2)))))))) := (pEg m108 (d := 4) 54 _ _ _ _).trans rfl
set_option maxRecDepth 100000 in
set_option maxHeartbeats 4000000 in
theorem e_Hb_leave (x1 : Int32) (D : pD) (E : pDL) : Hb_leave x1 D E = (pB1 (Bk_has (2 : Int32) x1 D E) fun y1 D1 E1 => (if y1 = 0 then (some (some (.inl (-2 : Int32)), D1, E1)) else (pB1 (Rn_isChosen x1 D1 E1) fun y2 D2 E2 => (if y2 = 0 then (some (some (.inl (0 : Int32)), D2, E2)) else (pB0 (Rn_put x1 (-1 : Int32) (-1 : Int32) (-1 : Int32) (-1 : Int32) D2 E2) fun D3 E3 => (some (some (.inl (1 : Int32)), D3, E3))))))) := (pEg m110 (d := 1) 30 _ _ _ _).trans rfl
set_option maxRecDepth 100000 in
set_option maxHeartbeats 4000000 in
theorem e_Hb_choice (x1 : Int32) (x2 : Int32) (D : pD) (E : pDL) : Hb_choice x1 x2 D E = (pB1 (Bk_has (2 : Int32) x1 D E) fun y1 D1 E1 => (if y1 = 0 then (some (some (.inl (-2 : Int32)), D1, E1)) else (if x2.toInt = 0 then (if x1 < 0 ∨ 24 ≤ x1.toNatClampNeg then none else (some (some (.inl (D1 43 0 x1.toNatClampNeg)), D1, E1))) else (if x2.toInt = 1 then (if x1 < 0 ∨ 24 ≤ x1.toNatClampNeg then none else (some (some (.inl (D1 44 0 x1.toNatClampNeg)), D1, E1))) else (if x2.toInt = 2 then (if x1 < 0 ∨ 24 ≤ x1.toNatClampNeg then none else (some (some (.inl (D1 45 0 x1.toNatClampNeg)), D1, E1))) else (if x2.toInt = 3 then (if x1 < 0 ∨ 24 ≤ x1.toNatClampNeg then none else (some (some (.inl (D1 46 0 x1.toNatClampNeg)), D1, E1))) else (some (some (.inl (-2 : Int32)), D1, E1)))))))) := (pEg m111 (d := 1) 41 _ _ _ _).trans rfl
set_option maxRecDepth 100000 in
set_option maxHeartbeats 4000000 in
theorem e_Hb_bears (x1 : Int32) (x2 : Int32) (D : pD) (E : pDL) : Hb_bears x1 x2 D E = (pB1 (Bk_has (2 : Int32) x1 D E) fun y1 D1 E1 => (if y1 = 0 then (some (some (.inl (-2 : Int32)), D1, E1)) else (if x2 < 0 then (some (some (.inl (-2 : Int32)), D1, E1)) else (if x2 ≤ (4 : Int32) then (if x2 = (4 : Int32) then (if x1 < 0 ∨ 24 ≤ x1.toNatClampNeg then none else (some (some (.inl (D1 47 0 x1.toNatClampNeg)), D1, E1))) else (pB1 (Rn_isChosen x1 D1 E1) fun y2 D2 E2 => (if y2 = 0 then (some (some (.inl (-1 : Int32)), D2, E2)) else (pB1 (Rn_traitsAt_held_wordTraits x1 D2 E2) fun y3 D3 E3 => (if x2.toInt = 0 then (some (some (.inl y3), D3, E3)) else (if x2.toInt = 1 then (pB1 (Bk_lacksOf x1 y3 D3 E3) fun y6 D6 E6 => (some (some (.inl y6), D6, E6))) else (if x2.toInt = 2 then (pB1 (Bk_addsOf x1 y3 D3 E3) fun y5 D5 E5 => (some (some (.inl y5), D5, E5))) else (pB1 (Rn_lostAt_held_wordTraits x1 D3 E3) fun y4 D4 E4 => (some (some (.inl y4), D4, E4)))))))))) else (some (some (.inl (-2 : Int32)), D1, E1)))))) := (pEg m112 (d := 4) 70 _ _ _ _).trans rfl
set_option maxRecDepth 100000 in
set_option maxHeartbeats 4000000 in
theorem e_Hb_note (x1 : Int32) (x2 : Int32) (D : pD) (E : pDL) : Hb_note x1 x2 D E = (pB1 (Bk_has (2 : Int32) x1 D E) fun y1 D1 E1 => (if y1 = 0 then (some (some (.inl (-2 : Int32)), D1, E1)) else (pB1 (Bk_traitsOfNotionAt x1 D1 E1) fun y2 D2 E2 => (if (x2 &&& (y2 ^^^ (-1 : Int32))) = 0 then (pB1 (Rn_noted D2 E2) fun y3 D3 E3 => (if x1 < 0 ∨ 24 ≤ x1.toNatClampNeg then none else (pB1 (Ji_bitCount (D3 47 0 x1.toNatClampNeg) D3 E3) fun y4 D4 E4 => (pB1 (Ji_bitCount x2 D4 E4) fun y5 D5 E5 => (pB1 (Bk_setting (9 : Int32) D5 E5) fun y6 D6 E6 => (if ((y3 - y4) + y5) ≤ y6 then (if x1 < 0 ∨ 24 ≤ x1.toNatClampNeg then none else (some (some (.inl ((y3 - y4) + y5)), (dset D6 47 0 x1.toNatClampNeg x2), E6))) else (some (some (.inl (-3 : Int32)), D6, E6)))))))) else (some (some (.inl (-2 : Int32)), D2, E2)))))) := (pEg m113 (d := 2) 54 _ _ _ _).trans rfl
set_option maxRecDepth 100000 in
set_option maxHeartbeats 4000000 in
theorem e_Hb_lost (D : pD) (E : pDL) : Hb_lost  D E = (pB1 (Rn_lostOfAll_held_wordTraits D E) fun y1 D1 E1 => (some (some (.inl y1), D1, E1))) := (pEg m114 (d := 5) 12 _ _ _ _).trans rfl
set_option maxRecDepth 100000 in
set_option maxHeartbeats 4000000 in
theorem e_Hb_clashes (D : pD) (E : pDL) : Hb_clashes  D E = (pB1 (Rn_clashBits D E) fun y1 D1 E1 => (some (some (.inl y1), D1, E1))) := (pEg m115 (d := 4) 9 _ _ _ _).trans rfl
set_option maxRecDepth 100000 in
set_option maxHeartbeats 4000000 in
theorem e_Hb_bound (x1 : Int32) (D : pD) (E : pDL) : Hb_bound x1 D E = (pB1 (Bk_has (2 : Int32) x1 D E) fun y1 D1 E1 => (if y1 = 0 then (some (some (.inl (-2 : Int32)), D1, E1)) else (pB1 (Bk_boundBy x1 D1 E1) fun y2 D2 E2 => (some (some (.inl y2), D2, E2))))) := (pEg m116 (d := 1) 19 _ _ _ _).trans rfl
set_option maxRecDepth 100000 in
set_option maxHeartbeats 4000000 in
theorem e_Hb_best (x1 : Int32) (D : pD) (E : pDL) : Hb_best x1 D E = (pB1 (Ji_bitCount x1 D E) fun y1 D1 E1 => (if y1 < (1 : Int32) then (some (some (.inl (-2 : Int32)), D1, E1)) else (if (4 : Int32) < y1 then (some (some (.inl (-2 : Int32)), D1, E1)) else (pB1 (Bk_allPlaces D1 E1) fun y2 D2 E2 => (if (x1 &&& (y2 ^^^ (-1 : Int32))) = 0 then (pB1 (Se_putBest x1 D2 E2) fun y3 D3 E3 => (if y3 = 0 then (some (some (.inl (-1 : Int32)), D3, E3)) else (pB1 (Rn_lostOfAll_held_wordTraits D3 E3) fun y4 D4 E4 => (some (some (.inl y4), D4, E4))))) else (some (some (.inl (-2 : Int32)), D2, E2))))))) := (pEg m117 (d := 10) 45 _ _ _ _).trans rfl
set_option maxRecDepth 100000 in
set_option maxHeartbeats 4000000 in
theorem e_Hb_exchange (D : pD) (E : pDL) : Hb_exchange  D E = (Hb_exchange_4 (1 : Int32) (0 : Int32) D E) := (pEg m118 (d := 6) 9 _ _ _ _).trans rfl
set_option maxRecDepth 100000 in
set_option maxHeartbeats 4000000 in
theorem e_Hb_one (x1 : Int32) (D : pD) (E : pDL) : Hb_one x1 D E = (pB1 (Bk_has (0 : Int32) x1 D E) fun y1 D1 E1 => (if y1 = 0 then (some (some (.inl (-2 : Int32)), D1, E1)) else (pB1 (Rn_oneWord x1 D1 E1) fun y2 D2 E2 => (some (some (.inl y2), D2, E2))))) := (pEg m119 (d := 6) 18 _ _ _ _).trans rfl
set_option maxRecDepth 100000 in
set_option maxHeartbeats 4000000 in
theorem e_Hb_price (x1 : Int32) (D : pD) (E : pDL) : Hb_price x1 D E = (pB1 (Bk_has (0 : Int32) x1 D E) fun y1 D1 E1 => (if y1 = 0 then (some (some (.inl (-2 : Int32)), D1, E1)) else (pB1 (Rn_oneWord x1 D1 E1) fun y2 D2 E2 => (if y2 = (-1 : Int32) then (some (some (.inl (-1 : Int32)), D2, E2)) else (pB1 (Rn_lostWithWord x1 y2 D2 E2) fun y3 D3 E3 => (pB1 (Rn_lostWithLeast x1 D3 E3) fun y4 D4 E4 => (some (some (.inl (y3 - y4)), D4, E4)))))))) := (pEg m120 (d := 6) 35 _ _ _ _).trans rfl
set_option maxRecDepth 100000 in
set_option maxHeartbeats 4000000 in
theorem e_Hb_swap (x1 : Int32) (D : pD) (E : pDL) : Hb_swap x1 D E = (pB1 (Bk_has (0 : Int32) x1 D E) fun y1 D1 E1 => (if y1 = 0 then (some (some (.inl (-2 : Int32)), D1, E1)) else (pB1 (Bk_wordForAll x1 D1 E1) fun y2 D2 E2 => (some (some (.inl y2), D2, E2))))) := (pEg m121 (d := 1) 19 _ _ _ _).trans rfl
set_option maxRecDepth 100000 in
set_option maxHeartbeats 4000000 in
theorem e_Hb_mend (x1 : Int32) (D : pD) (E : pDL) : Hb_mend x1 D E = (if x1 < 0 then (some (some (.inl (-2 : Int32)), D, E)) else (if x1 ≤ (99 : Int32) then (pB1 (Bk_setting (9 : Int32) D E) fun y1 D1 E1 => (pB1 (Rn_noted D1 E1) fun y2 D2 E2 => (Hb_mend_37 (if (y1 - y2) < x1 then (y1 - y2) else x1) (0 : Int32) D2 E2))) else (some (some (.inl (-2 : Int32)), D, E)))) := (pEg m122 (d := 4) 27 _ _ _ _).trans rfl
set_option maxRecDepth 100000 in
set_option maxHeartbeats 4000000 in
theorem e_Hb_hears (x1 : Int32) (x2 : Int32) (D : pD) (E : pDL) : Hb_hears x1 x2 D E = (pB1 (Hb_whyNotHeard x1 x2 D E) fun y1 D1 E1 => (if y1 = 0 then (pB1 (Rn_heardAt x1 x2 D1 E1) fun y2 D2 E2 => (some (some (.inl y2), D2, E2))) else (some (some (.inl y1), D1, E1)))) := (pEg m124 (d := 3) 21 _ _ _ _).trans rfl
set_option maxRecDepth 100000 in
set_option maxHeartbeats 4000000 in
theorem e_Hb_back (x1 : Int32) (x2 : Int32) (D : pD) (E : pDL) : Hb_back x1 x2 D E = (pB1 (Hb_whyNotHeard x1 x2 D E) fun y1 D1 E1 => (if y1 = 0 then (pB1 (Rn_heardAt x1 x2 D1 E1) fun y2 D2 E2 => (pB1 (Bk_toldBack y2 D2 E2) fun y3 D3 E3 => (some (some (.inl y3), D3, E3)))) else (some (some (.inl y1), D1, E1)))) := (pEg m125 (d := 3) 24 _ _ _ _).trans rfl
set_option maxRecDepth 100000 in
set_option maxHeartbeats 4000000 in
theorem e_Hb_laughs (x1 : Int32) (x2 : Int32) (D : pD) (E : pDL) : Hb_laughs x1 x2 D E = (pB1 (Hb_whyNotHeard x1 x2 D E) fun y1 D1 E1 => (if y1 = 0 then (if x1 < 0 ∨ 6 ≤ x1.toNatClampNeg then none else (if (D1 16 0 x1.toNatClampNeg) = 0 then (some (some (.inl (0 : Int32)), D1, E1)) else (pB1 (Rn_traitsAt_held_wordTraits x2 D1 E1) fun y2 D2 E2 => (if ((D1 16 0 x1.toNatClampNeg) &&& (y2 ^^^ (-1 : Int32))) = 0 then (some (some (.inl (1 : Int32)), D2, E2)) else (some (some (.inl (0 : Int32)), D2, E2)))))) else (some (some (.inl y1), D1, E1)))) := (pEg m126 (d := 2) 41 _ _ _ _).trans rfl
set_option maxRecDepth 100000 in
set_option maxHeartbeats 4000000 in
theorem e_Hb_hits (x1 : Int32) (D : pD) (E : pDL) : Hb_hits x1 D E = (pB1 (Bk_has (4 : Int32) x1 D E) fun y1 D1 E1 => (if y1 = 0 then (some (some (.inl (-2 : Int32)), D1, E1)) else (pB1 (Rn_rightOf x1 D1 E1) fun y2 D2 E2 => (some (some (.inl y2), D2, E2))))) := (pEg m127 (d := 4) 19 _ _ _ _).trans rfl
set_option maxRecDepth 100000 in
set_option maxHeartbeats 4000000 in
theorem e_Hb_on (x1 : Int32) (x2 : Int32) (x3 : Int32) (D : pD) (E : pDL) : Hb_on x1 x2 x3 D E = (pB1 (Bk_has (4 : Int32) x2 D E) fun y1 D1 E1 => (if y1 = 0 then (some (some (.inl (-2 : Int32)), D1, E1)) else (pB1 (Hb_whyNotHeard x1 x3 D1 E1) fun y2 D2 E2 => (if y2 = 0 then (pB1 (Rn_heardAt x1 x3 D2 E2) fun y3 D3 E3 => (pB1 (Bk_toldBack y3 D3 E3) fun y4 D4 E4 => (pB1 (Bk_traitsSaidFor y4 D4 E4) fun y5 D5 E5 => (if x2 < 0 ∨ 6 ≤ x2.toNatClampNeg then none else (pB1 (Bk_toldBack (y5 &&& (D5 15 0 x2.toNatClampNeg)) D5 E5) fun y6 D6 E6 => (some (some (.inl y6), D6, E6))))))) else (some (some (.inl y2), D2, E2)))))) := (pEg m128 (d := 3) 45 _ _ _ _).trans rfl
set_option maxRecDepth 100000 in
set_option maxHeartbeats 4000000 in
theorem e_Hb_keep (x1 : Int32) (D : pD) (E : pDL) : Hb_keep x1 D E = (if x1 < 0 then (some (some (.inl (-2 : Int32)), D, E)) else (if x1 < (4 : Int32) then (if x1 < 0 ∨ 4 ≤ x1.toNatClampNeg then none else (if x1.toNatClampNeg = 0 then (pB0 (Rn_copyFrom_k0 D E) fun D1 E1 => (if x1 < 0 ∨ 4 ≤ x1.toNatClampNeg then none else (pB1 (Rn_lostOfAll_held_wordTraits (dset D1 49 0 x1.toNatClampNeg ((1 : Int32) &&& 1)) E1) fun y2 D2 E2 => (some (some (.inl y2), D2, E2))))) else (if x1.toNatClampNeg - 1 = 0 then (pB0 (Rn_copyFrom_k1 D E) fun D3 E3 => (if x1 < 0 ∨ 4 ≤ x1.toNatClampNeg then none else (pB1 (Rn_lostOfAll_held_wordTraits (dset D3 49 0 x1.toNatClampNeg ((1 : Int32) &&& 1)) E3) fun y4 D4 E4 => (some (some (.inl y4), D4, E4))))) else (if x1.toNatClampNeg - 1 - 1 = 0 then (pB0 (Rn_copyFrom_k2 D E) fun D5 E5 => (if x1 < 0 ∨ 4 ≤ x1.toNatClampNeg then none else (pB1 (Rn_lostOfAll_held_wordTraits (dset D5 49 0 x1.toNatClampNeg ((1 : Int32) &&& 1)) E5) fun y6 D6 E6 => (some (some (.inl y6), D6, E6))))) else (if x1.toNatClampNeg - 1 - 1 - 1 = 0 then (pB0 (Rn_copyFrom_k3 D E) fun D7 E7 => (if x1 < 0 ∨ 4 ≤ x1.toNatClampNeg then none else (pB1 (Rn_lostOfAll_held_wordTraits (dset D7 49 0 x1.toNatClampNeg ((1 : Int32) &&& 1)) E7) fun y8 D8 E8 => (some (some (.inl y8), D8, E8))))) else none))))) else (some (some (.inl (-2 : Int32)), D, E)))) := (pEg m129 (d := 5) 78 _ _ _ _).trans rfl
set_option maxRecDepth 100000 in
set_option maxHeartbeats 4000000 in
theorem e_Hb_take (x1 : Int32) (D : pD) (E : pDL) : Hb_take x1 D E = (if x1 < 0 then (some (some (.inl (-2 : Int32)), D, E)) else (if x1 < (4 : Int32) then (if x1 < 0 ∨ 4 ≤ x1.toNatClampNeg then none else (if (D 49 0 x1.toNatClampNeg) = 0 then (some (some (.inl (-4 : Int32)), D, E)) else (if x1 < 0 ∨ 4 ≤ x1.toNatClampNeg then none else (if x1.toNatClampNeg = 0 then (pB0 (Rn_copyFrom_k0_v122 D E) fun D1 E1 => (pB1 (Rn_lostOfAll_held_wordTraits D1 E1) fun y2 D2 E2 => (some (some (.inl y2), D2, E2)))) else (if x1.toNatClampNeg - 1 = 0 then (pB0 (Rn_copyFrom_k1_v123 D E) fun D3 E3 => (pB1 (Rn_lostOfAll_held_wordTraits D3 E3) fun y4 D4 E4 => (some (some (.inl y4), D4, E4)))) else (if x1.toNatClampNeg - 1 - 1 = 0 then (pB0 (Rn_copyFrom_k2_v124 D E) fun D5 E5 => (pB1 (Rn_lostOfAll_held_wordTraits D5 E5) fun y6 D6 E6 => (some (some (.inl y6), D6, E6)))) else (if x1.toNatClampNeg - 1 - 1 - 1 = 0 then (pB0 (Rn_copyFrom_k3_v125 D E) fun D7 E7 => (pB1 (Rn_lostOfAll_held_wordTraits D7 E7) fun y8 D8 E8 => (some (some (.inl y8), D8, E8)))) else none))))))) else (some (some (.inl (-2 : Int32)), D, E)))) := (pEg m130 (d := 5) 59 _ _ _ _).trans rfl
set_option maxRecDepth 100000 in
set_option maxHeartbeats 4000000 in
theorem e_Hb_nearer (x1 : Int32) (x2 : Int32) (x3 : Int32) (D : pD) (E : pDL) : Hb_nearer x1 x2 x3 D E = (if x1 < 0 then (some (some (.inl (-2 : Int32)), D, E)) else (if (4 : Int32) ≤ x1 then (some (some (.inl (-2 : Int32)), D, E)) else (if x2 < 0 then (some (some (.inl (-2 : Int32)), D, E)) else (if (4 : Int32) ≤ x2 then (some (some (.inl (-2 : Int32)), D, E)) else (pB1 (Bk_has (4 : Int32) x3 D E) fun y1 D1 E1 => (if y1 = 0 then (some (some (.inl (-2 : Int32)), D1, E1)) else (if x1 < 0 ∨ 4 ≤ x1.toNatClampNeg then none else (if (D1 49 0 x1.toNatClampNeg) = 0 then (some (some (.inl (-4 : Int32)), D1, E1)) else (if x2 < 0 ∨ 4 ≤ x2.toNatClampNeg then none else (if (D1 49 0 x2.toNatClampNeg) = 0 then (some (some (.inl (-4 : Int32)), D1, E1)) else (if x1 < 0 ∨ 4 ≤ x1.toNatClampNeg then none else (if x1.toNatClampNeg = 0 then (pB1 (Rn_rightOf_k0 x3 D1 E1) fun y2 D2 E2 => (Hb_nearer_64 x1 x2 x3 y2 D2 E2)) else (if x1.toNatClampNeg - 1 = 0 then (pB1 (Rn_rightOf_k1 x3 D1 E1) fun y3 D3 E3 => (Hb_nearer_64 x1 x2 x3 y3 D3 E3)) else (if x1.toNatClampNeg - 1 - 1 = 0 then (pB1 (Rn_rightOf_k2 x3 D1 E1) fun y4 D4 E4 => (Hb_nearer_64 x1 x2 x3 y4 D4 E4)) else (if x1.toNatClampNeg - 1 - 1 - 1 = 0 then (pB1 (Rn_rightOf_k3 x3 D1 E1) fun y5 D5 E5 => (Hb_nearer_64 x1 x2 x3 y5 D5 E5)) else none))))))))))))))) := (pEg m131 (d := 5) 57 _ _ _ _).trans rfl
set_option maxRecDepth 100000 in
set_option maxHeartbeats 4000000 in
theorem e_Hb_gives (x1 : Int32) (x2 : Int32) (x3 : Int32) (x4 : Int32) (D : pD) (E : pDL) : Hb_gives x1 x2 x3 x4 D E = (if x1 < 0 then (some (some (.inl (-2 : Int32)), D, E)) else (if (4 : Int32) ≤ x1 then (some (some (.inl (-2 : Int32)), D, E)) else (pB1 (Bk_has (2 : Int32) x2 D E) fun y1 D1 E1 => (if y1 = 0 then (some (some (.inl (-2 : Int32)), D1, E1)) else (pB1 (Bk_has (1 : Int32) x3 D1 E1) fun y2 D2 E2 => (if y2 = 0 then (some (some (.inl (-2 : Int32)), D2, E2)) else (if x4 < 0 then (some (some (.inl (-2 : Int32)), D2, E2)) else (if x4 ≤ (99 : Int32) then (pB1 (Fo_put x1 x2 x3 x4 D2 E2) fun y3 D3 E3 => (some (some (.inl y3), D3, E3))) else (some (some (.inl (-2 : Int32)), D2, E2)))))))))) := (pEg m132 (d := 2) 47 _ _ _ _).trans rfl
set_option maxRecDepth 100000 in
set_option maxHeartbeats 4000000 in
theorem e_Hb_agree (x1 : Int32) (D : pD) (E : pDL) : Hb_agree x1 D E = (pB1 (Bk_has (2 : Int32) x1 D E) fun y1 D1 E1 => (if y1 = 0 then (some (some (.inl (-2 : Int32)), D1, E1)) else (pB1 (Fo_agreed x1 (D1 4 0 1) D1 E1) fun y2 D2 E2 => (some (some (.inl y2), D2, E2))))) := (pEg m133 (d := 3) 24 _ _ _ _).trans rfl
set_option maxRecDepth 100000 in
set_option maxHeartbeats 4000000 in
theorem e_Hb_moves (x1 : Int32) (x2 : Int32) (x3 : Int32) (D : pD) (E : pDL) : Hb_moves x1 x2 x3 D E = (pB1 (Bk_has (1 : Int32) x1 D E) fun y1 D1 E1 => (if y1 = 0 then (some (some (.inl (-2 : Int32)), D1, E1)) else (pB1 (Ye_latestOf x1 D1 E1) fun y2 D2 E2 => (if x2 < y2 then (some (some (.inl (-2 : Int32)), D2, E2)) else (if (2000 : Int32) < x2 then (some (some (.inl (-2 : Int32)), D2, E2)) else (if (x3 &&& (-16777216 : Int32)) = 0 then (pB1 (Ye_isFull D2 E2) fun y3 D3 E3 => (if y3 = 0 then (pB1 (Ye_append x1 x2 x3 D3 E3) fun y4 D4 E4 => (some (some (.inl y4), D4, E4))) else (some (some (.inl (-3 : Int32)), D3, E3)))) else (some (some (.inl (-2 : Int32)), D2, E2)))))))) := (pEg m134 (d := 1) 46 _ _ _ _).trans rfl
set_option maxRecDepth 100000 in
set_option maxHeartbeats 4000000 in
theorem e_Hb_lostIn (x1 : Int32) (D : pD) (E : pDL) : Hb_lostIn x1 D E = (pB1 (Hb_isYear x1 D E) fun y1 D1 E1 => (if y1 = 0 then (some (some (.inl (-2 : Int32)), D1, E1)) else (pB2 (Ye_wordsIn x1 D1 E1) 63 fun D2 E2 => (pB1 (Rn_lostOfAll_years_words D2 E2) fun y3 D3 E3 => (some (some (.inl y3), D3, E3)))))) := (pEg m135 (d := 5) 19 _ _ _ _).trans rfl
set_option maxRecDepth 100000 in
set_option maxHeartbeats 4000000 in
theorem e_Hb_turned (x1 : Int32) (D : pD) (E : pDL) : Hb_turned x1 D E = (pB1 (Hb_isYear x1 D E) fun y1 D1 E1 => (if y1 = 0 then (some (some (.inl (-2 : Int32)), D1, E1)) else (if x1 = 0 then (some (some (.inl (0 : Int32)), D1, E1)) else (pB1 (Ye_turns x1 D1 E1) fun y2 D2 E2 => (some (some (.inl y2), D2, E2)))))) := (pEg m136 (d := 5) 22 _ _ _ _).trans rfl
set_option maxRecDepth 100000 in
set_option maxHeartbeats 4000000 in
theorem e_Hb_until (x1 : Int32) (D : pD) (E : pDL) : Hb_until x1 D E = (if 0 ≤ x1 then (pB1 (Ye_firstAbove x1 D E) fun y1 D1 E1 => (some (some (.inl y1), D1, E1))) else (some (some (.inl (-2 : Int32)), D, E))) := (pEg m137 (d := 6) 17 _ _ _ _).trans rfl
set_option maxRecDepth 100000 in
set_option maxHeartbeats 4000000 in
theorem e_Hb_heard (x1 : Int32) (x2 : Int32) (x3 : Int32) (x4 : Int32) (D : pD) (E : pDL) : Hb_heard x1 x2 x3 x4 D E = (pB1 (La_mayTell x1 x4 D E) fun y1 D1 E1 => (if y1 = 0 then (some (some (.inl (-2 : Int32)), D1, E1)) else (pB1 (Bk_has (4 : Int32) x2 D1 E1) fun y2 D2 E2 => (if y2 = 0 then (some (some (.inl (-2 : Int32)), D2, E2)) else (pB1 (Bk_has (2 : Int32) x3 D2 E2) fun y3 D3 E3 => (if y3 = 0 then (some (some (.inl (-2 : Int32)), D3, E3)) else (pB1 (Rn_isChosen x3 D3 E3) fun y4 D4 E4 => (if y4 = 0 then (some (some (.inl (-4 : Int32)), D4, E4)) else (pB1 (La_isFull D4 E4) fun y5 D5 E5 => (if y5 = 0 then (pB1 (Rn_traitsAt_held_wordTraits x3 D5 E5) fun y6 D6 E6 => (pB1 (La_append x1 x2 y6 x4 D6 E6) fun y7 D7 E7 => (some (some (.inl y7), D7, E7)))) else (some (some (.inl (-3 : Int32)), D5, E5)))))))))))) := (pEg m139 (d := 2) 57 _ _ _ _).trans rfl
set_option maxRecDepth 100000 in
set_option maxHeartbeats 4000000 in
theorem e_Hb_right (x1 : Int32) (x2 : Int32) (x3 : Int32) (D : pD) (E : pDL) : Hb_right x1 x2 x3 D E = (pB1 (La_mayTell x1 x3 D E) fun y1 D1 E1 => (if y1 = 0 then (some (some (.inl (-2 : Int32)), D1, E1)) else (if x2 < 0 then (some (some (.inl (-2 : Int32)), D1, E1)) else (if x2 < (D1 65 0 12) then (pB1 (La_isFullOfRights D1 E1) fun y2 D2 E2 => (if y2 = 0 then (pB1 (La_putRight x1 x2 x3 D2 E2) fun y3 D3 E3 => (some (some (.inl y3), D3, E3))) else (some (some (.inl (-3 : Int32)), D2, E2)))) else (some (some (.inl (-2 : Int32)), D1, E1)))))) := (pEg m140 (d := 1) 38 _ _ _ _).trans rfl
set_option maxRecDepth 100000 in
set_option maxHeartbeats 4000000 in
theorem e_Hb_fit (x1 : Int32) (x2 : Int32) (D : pD) (E : pDL) : Hb_fit x1 x2 D E = (pB1 (Bk_has (4 : Int32) x1 D E) fun y1 D1 E1 => (if y1 = 0 then (some (some (.inl (-2 : Int32)), D1, E1)) else (pB1 (Hb_isStep x2 D1 E1) fun y2 D2 E2 => (if y2 = 0 then (some (some (.inl (-2 : Int32)), D2, E2)) else (pB1 (La_gather x1 x2 D2 E2) fun y3 D3 E3 => (some (some (.inl y3), D3, E3))))))) := (pEg m141 (d := 2) 25 _ _ _ _).trans rfl
set_option maxRecDepth 100000 in
set_option maxHeartbeats 4000000 in
theorem e_Hb_surely (x1 : Int32) (x2 : Int32) (x3 : Int32) (D : pD) (E : pDL) : Hb_surely x1 x2 x3 D E = (pB1 (Bk_has (4 : Int32) x1 D E) fun y1 D1 E1 => (if y1 = 0 then (some (some (.inl (-2 : Int32)), D1, E1)) else (if x2 < 0 then (some (some (.inl (-2 : Int32)), D1, E1)) else (if (24 : Int32) ≤ x2 then (some (some (.inl (-2 : Int32)), D1, E1)) else (pB1 (Hb_isStep x3 D1 E1) fun y2 D2 E2 => (if y2 = 0 then (some (some (.inl (-2 : Int32)), D2, E2)) else (pB1 (La_gather x1 x3 D2 E2) fun y3 D3 E3 => (if y3 = 0 then (some (some (.inl (-1 : Int32)), D3, E3)) else (pB1 (La_setsWith ((1 : Int32) <<< (x2 &&& 31)) D3 E3) fun y4 D4 E4 => (if y4 = y3 then (some (some (.inl (1 : Int32)), D4, E4)) else (if y4 = 0 then (some (some (.inl (0 : Int32)), D4, E4)) else (some (some (.inl (2 : Int32)), D4, E4))))))))))))) := (pEg m142 (d := 2) 56 _ _ _ _).trans rfl
set_option maxRecDepth 100000 in
set_option maxHeartbeats 4000000 in
theorem e_Hb_next (x1 : Int32) (D : pD) (E : pDL) : Hb_next x1 D E = (pB1 (Bk_has (4 : Int32) x1 D E) fun y1 D1 E1 => (if y1 = 0 then (some (some (.inl (-2 : Int32)), D1, E1)) else (pB1 (La_gather x1 (999 : Int32) D1 E1) fun y2 D2 E2 => (Hb_next_35 y2 y2 (-1 : Int32) (0 : Int32) D2 E2)))) := (pEg m143 (d := 2) 25 _ _ _ _).trans rfl
set_option maxRecDepth 100000 in
set_option maxHeartbeats 4000000 in
theorem e_Hb_count (x1 : Int32) (D : pD) (E : pDL) : Hb_count x1 D E = (if x1.toInt = 0 then (pB1 (Rn_chosen D E) fun y2 D2 E2 => (some (some (.inl y2), D2, E2))) else (if x1.toInt = 1 then (pB1 (Rn_noted D E) fun y1 D1 E1 => (some (some (.inl y1), D1, E1))) else (if x1.toInt = 2 then (some (some (.inl (D 59 0 6)), D, E)) else (if x1.toInt = 3 then (some (some (.inl (D 65 0 12)), D, E)) else (if x1.toInt = 4 then (some (some (.inl (D 65 0 13)), D, E)) else (if x1.toInt = 5 then (some (some (.inl (D 1 0 1)), D, E)) else (some (some (.inl (-1 : Int32)), D, E)))))))) := (pEg m145 (d := 2) 33 _ _ _ _).trans rfl
set_option maxRecDepth 100000 in
set_option maxHeartbeats 4000000 in
theorem e_Mo_feed (x1 : Int32) (x2 : Int32) (x3 : Int32) (x4 : Int32) (x5 : Int32) (D : pD) (E : pDL) : Mo_feed x1 x2 x3 x4 x5 D E = (if ((D 100 0 1) + (20 : Int32)) ≤ (1200 : Int32) then (Mo_feed_19 x1 x2 x3 x4 x5 (0 : Int32) D E) else (some (some (.inl (-3 : Int32)), D, E))) := (pEg m147 (d := 0) 15 _ _ _ _).trans rfl
set_option maxRecDepth 100000 in
set_option maxHeartbeats 4000000 in
theorem e_Mo_end (x1 : Int32) (D : pD) (E : pDL) : Mo_end x1 D E = (if x1 < 0 then (some (some (.inl (-1 : Int32)), D, E)) else (if x1 ≤ (D 100 0 1) then (some (some (.inl x1), (dset D 100 0 1 x1), E)) else (some (some (.inl (-1 : Int32)), D, E)))) := (pEg m148 (d := 0) 20 _ _ _ _).trans rfl
set_option maxRecDepth 100000 in
set_option maxHeartbeats 4000000 in
theorem e_Mo_book (D : pD) (E : pDL) : Mo_book  D E = (pB0 (Mo_scan (dset (dset (dset D 100 0 2 (D 100 0 1)) 100 0 1 (0 : Int32)) 100 0 6 (0 : Int32)) E) fun D1 E1 => (pB0 (Mo_begin (dset (dset D1 100 0 8 (0 : Int32)) 100 0 9 (-1 : Int32)) E1) fun D2 E2 => (Mo_book_38 (0 : Int32) D2 E2))) := (pEg m170 (d := 6) 27 _ _ _ _).trans rfl
set_option maxRecDepth 100000 in
set_option maxHeartbeats 4000000 in
theorem e_Mo_fault (x1 : Int32) (D : pD) (E : pDL) : Mo_fault x1 D E = (if x1 = 0 then (some (some (.inl (D 100 0 8)), D, E)) else (if x1 = (1 : Int32) then (some (some (.inl (D 100 0 9)), D, E)) else (some (some (.inl (-1 : Int32)), D, E)))) := (pEg m158 (d := 0) 20 _ _ _ _).trans rfl
set_option maxRecDepth 100000 in
set_option maxHeartbeats 4000000 in
theorem e_Mo_told (x1 : Int32) (D : pD) (E : pDL) : Mo_told x1 D E = (pB1 (Mo_in x1 (0 : Int32) (9 : Int32) D E) fun y1 D1 E1 => (if y1 = 0 then (pB1 (Mo_in x1 (20 : Int32) (43 : Int32) D1 E1) fun y2 D2 E2 => (if y2 = 0 then (some (some (.inl (-1 : Int32)), D2, E2)) else (if (x1 - (20 : Int32)) < 0 ∨ 48 ≤ (x1 - (20 : Int32)).toNatClampNeg then none else (some (some (.inl (D2 114 0 (x1 - (20 : Int32)).toNatClampNeg)), D2, E2))))) else (if x1 < 0 ∨ 20 ≤ x1.toNatClampNeg then none else (some (some (.inl (D1 102 0 x1.toNatClampNeg)), D1, E1))))) := (pEg m171 (d := 1) 31 _ _ _ _).trans rfl
set_option maxRecDepth 100000 in
set_option maxHeartbeats 4000000 in
theorem e_Mo_traits (x1 : Int32) (x2 : Int32) (D : pD) (E : pDL) : Mo_traits x1 x2 D E = (if x1.toInt = 0 then (pB1 (Mo_isNotion x2 D E) fun y6 D6 E6 => (if y6 = 0 then (some (some (.inl (-2 : Int32)), D6, E6)) else (if x2 < 0 ∨ 24 ≤ x2.toNatClampNeg then none else (some (some (.inl (D6 105 0 x2.toNatClampNeg)), D6, E6))))) else (if x1.toInt = 1 then (pB1 (Mo_isWord x2 D E) fun y5 D5 E5 => (if y5 = 0 then (some (some (.inl (-2 : Int32)), D5, E5)) else (if x2 < 0 ∨ 40 ≤ x2.toNatClampNeg then none else (some (some (.inl (D5 106 0 x2.toNatClampNeg)), D5, E5))))) else (if x1.toInt = 2 then (pB1 (Mo_isPlace x2 D E) fun y4 D4 E4 => (if y4 = 0 then (some (some (.inl (-2 : Int32)), D4, E4)) else (if x2 < 0 ∨ 48 ≤ x2.toNatClampNeg then none else (some (some (.inl (D4 108 0 x2.toNatClampNeg)), D4, E4))))) else (if x1.toInt = 3 then (pB1 (Mo_isTie x2 D E) fun y3 D3 E3 => (if y3 = 0 then (some (some (.inl (-2 : Int32)), D3, E3)) else (if x2 < 0 ∨ 40 ≤ x2.toNatClampNeg then none else (some (some (.inl (D3 111 0 x2.toNatClampNeg)), D3, E3))))) else (if x1.toInt = 4 then (pB1 (Mo_isHearer x2 D E) fun y2 D2 E2 => (if y2 = 0 then (some (some (.inl (-2 : Int32)), D2, E2)) else (if x2 < 0 ∨ 12 ≤ x2.toNatClampNeg then none else (some (some (.inl (D2 112 0 x2.toNatClampNeg)), D2, E2))))) else (if x1.toInt = 5 then (pB1 (Mo_isHearer x2 D E) fun y1 D1 E1 => (if y1 = 0 then (some (some (.inl (-2 : Int32)), D1, E1)) else (if x2 < 0 ∨ 12 ≤ x2.toNatClampNeg then none else (some (some (.inl (D1 113 0 x2.toNatClampNeg)), D1, E1))))) else (some (some (.inl (-2 : Int32)), D, E)))))))) := (pEg m177 (d := 2) 81 _ _ _ _).trans rfl
set_option maxRecDepth 100000 in
set_option maxHeartbeats 4000000 in
theorem e_Mo_notion (x1 : Int32) (D : pD) (E : pDL) : Mo_notion x1 D E = (pB1 (Mo_isPlace x1 D E) fun y1 D1 E1 => (if y1 = 0 then (some (some (.inl (-2 : Int32)), D1, E1)) else (if x1 < 0 ∨ 48 ≤ x1.toNatClampNeg then none else (some (some (.inl (D1 107 0 x1.toNatClampNeg)), D1, E1))))) := (pEg m178 (d := 2) 17 _ _ _ _).trans rfl
set_option maxRecDepth 100000 in
set_option maxHeartbeats 4000000 in
theorem e_Mo_choose (x1 : Int32) (x2 : Int32) (x3 : Int32) (x4 : Int32) (x5 : Int32) (D : pD) (E : pDL) : Mo_choose x1 x2 x3 x4 x5 D E = (pB1 (Mo_isPlace x1 D E) fun y1 D1 E1 => (if y1 = 0 then (some (some (.inl (-2 : Int32)), D1, E1)) else (pB1 (Mo_in x2 (0 : Int32) (3 : Int32) D1 E1) fun y2 D2 E2 => (if y2 = 0 then (some (some (.inl (-2 : Int32)), D2, E2)) else (if x2 = (3 : Int32) then (Mo_choose_36 x1 x2 x3 x4 x5 D2 E2) else (pB1 (Mo_isWord x3 D2 E2) fun y3 D3 E3 => (if y3 = 0 then (some (some (.inl (-2 : Int32)), D3, E3)) else (Mo_choose_36 x1 x2 x3 x4 x5 D3 E3)))))))) := (pEg m187 (d := 4) 27 _ _ _ _).trans rfl
set_option maxRecDepth 100000 in
set_option maxHeartbeats 4000000 in
theorem e_Mo_leave (x1 : Int32) (D : pD) (E : pDL) : Mo_leave x1 D E = (pB1 (Mo_isPlace x1 D E) fun y1 D1 E1 => (if y1 = 0 then (some (some (.inl (-2 : Int32)), D1, E1)) else (if x1 < 0 ∨ 24 ≤ x1.toNatClampNeg then none else (if (D1 115 0 x1.toNatClampNeg) = (-1 : Int32) then (if x1 < 0 ∨ 24 ≤ x1.toNatClampNeg then none else (some (some (.inl (0 : Int32)), (dset D1 115 0 x1.toNatClampNeg (-1 : Int32)), E1))) else (if x1 < 0 ∨ 24 ≤ x1.toNatClampNeg then none else (some (some (.inl (1 : Int32)), (dset D1 115 0 x1.toNatClampNeg (-1 : Int32)), E1))))))) := (pEg m188 (d := 2) 36 _ _ _ _).trans rfl
set_option maxRecDepth 100000 in
set_option maxHeartbeats 4000000 in
theorem e_Mo_choice (x1 : Int32) (x2 : Int32) (D : pD) (E : pDL) : Mo_choice x1 x2 D E = (pB1 (Mo_isPlace x1 D E) fun y1 D1 E1 => (if y1 = 0 then (some (some (.inl (-2 : Int32)), D1, E1)) else (pB1 (Mo_in x2 (0 : Int32) (3 : Int32) D1 E1) fun y2 D2 E2 => (if y2 = 0 then (some (some (.inl (-2 : Int32)), D2, E2)) else (if x1 < 0 ∨ 24 ≤ x1.toNatClampNeg then none else (if (D2 115 0 x1.toNatClampNeg) = (-1 : Int32) then (some (some (.inl (-1 : Int32)), D2, E2)) else (if x2 = 0 then (if x1 < 0 ∨ 24 ≤ x1.toNatClampNeg then none else (some (some (.inl (D2 115 0 x1.toNatClampNeg)), D2, E2))) else (if x2 = (1 : Int32) then (if x1 < 0 ∨ 24 ≤ x1.toNatClampNeg then none else (some (some (.inl (D2 116 0 x1.toNatClampNeg)), D2, E2))) else (if x2 = (2 : Int32) then (if x1 < 0 ∨ 24 ≤ x1.toNatClampNeg then none else (some (some (.inl (D2 117 0 x1.toNatClampNeg)), D2, E2))) else (if x1 < 0 ∨ 24 ≤ x1.toNatClampNeg then none else (some (some (.inl (D2 118 0 x1.toNatClampNeg)), D2, E2)))))))))))) := (pEg m189 (d := 2) 58 _ _ _ _).trans rfl
set_option maxRecDepth 100000 in
set_option maxHeartbeats 4000000 in
theorem e_Mo_bears (x1 : Int32) (x2 : Int32) (D : pD) (E : pDL) : Mo_bears x1 x2 D E = (pB1 (Mo_isPlace x1 D E) fun y1 D1 E1 => (if y1 = 0 then (some (some (.inl (-2 : Int32)), D1, E1)) else (pB1 (Mo_in x2 (0 : Int32) (4 : Int32) D1 E1) fun y2 D2 E2 => (if y2 = 0 then (some (some (.inl (-2 : Int32)), D2, E2)) else (if x2 = (4 : Int32) then (if x1 < 0 ∨ 24 ≤ x1.toNatClampNeg then none else (some (some (.inl (D2 119 0 x1.toNatClampNeg)), D2, E2))) else (if x1 < 0 ∨ 24 ≤ x1.toNatClampNeg then none else (if (D2 115 0 x1.toNatClampNeg) = (-1 : Int32) then (some (some (.inl (-1 : Int32)), D2, E2)) else (if x2 = 0 then (pB1 (Mo_had x1 (-1 : Int32) D2 E2) fun y3 D3 E3 => (some (some (.inl y3), D3, E3))) else (if x2 = (1 : Int32) then (pB1 (Mo_lackAt x1 (-1 : Int32) D2 E2) fun y4 D4 E4 => (some (some (.inl y4), D4, E4))) else (if x2 = (2 : Int32) then (pB1 (Mo_addAt x1 (-1 : Int32) D2 E2) fun y5 D5 E5 => (some (some (.inl y5), D5, E5))) else (pB1 (Mo_lostAt x1 (-1 : Int32) D2 E2) fun y6 D6 E6 => (some (some (.inl y6), D6, E6))))))))))))) := (pEg m190 (d := 4) 65 _ _ _ _).trans rfl
set_option maxRecDepth 100000 in
set_option maxHeartbeats 4000000 in
theorem e_Mo_note (x1 : Int32) (x2 : Int32) (D : pD) (E : pDL) : Mo_note x1 x2 D E = (pB1 (Mo_isPlace x1 D E) fun y1 D1 E1 => (if y1 = 0 then (some (some (.inl (-2 : Int32)), D1, E1)) else (if x1 < 0 ∨ 48 ≤ x1.toNatClampNeg then none else (if (D1 107 0 x1.toNatClampNeg) < 0 ∨ 24 ≤ (D1 107 0 x1.toNatClampNeg).toNatClampNeg then none else (if (x2 &&& ((D1 105 0 (D1 107 0 x1.toNatClampNeg).toNatClampNeg) ^^^ (-1 : Int32))) = 0 then (pB1 (Mo_notedAll D1 E1) fun y2 D2 E2 => (if x1 < 0 ∨ 24 ≤ x1.toNatClampNeg then none else (pB1 (Mo_bits (D2 119 0 x1.toNatClampNeg) D2 E2) fun y3 D3 E3 => (pB1 (Mo_bits x2 D3 E3) fun y4 D4 E4 => (if ((y2 - y3) + y4) ≤ (D4 102 0 9) then (if x1 < 0 ∨ 24 ≤ x1.toNatClampNeg then none else (some (some (.inl ((y2 - y3) + y4)), (dset D4 119 0 x1.toNatClampNeg x2), E4))) else (some (some (.inl (-3 : Int32)), D4, E4))))))) else (some (some (.inl (-2 : Int32)), D1, E1))))))) := (pEg m193 (d := 2) 52 _ _ _ _).trans rfl
set_option maxRecDepth 100000 in
set_option maxHeartbeats 4000000 in
theorem e_Mo_lost (D : pD) (E : pDL) : Mo_lost  D E = (pB1 (Mo_lostAll (-1 : Int32) D E) fun y1 D1 E1 => (some (some (.inl y1), D1, E1))) := (pEg m194 (d := 5) 9 _ _ _ _).trans rfl
set_option maxRecDepth 100000 in
set_option maxHeartbeats 4000000 in
theorem e_Mo_clashes (D : pD) (E : pDL) : Mo_clashes  D E = (Mo_clashes_4 (0 : Int32) (0 : Int32) D E) := (pEg m196 (d := 3) 9 _ _ _ _).trans rfl
set_option maxRecDepth 100000 in
set_option maxHeartbeats 4000000 in
theorem e_Mo_bound (x1 : Int32) (D : pD) (E : pDL) : Mo_bound x1 D E = (pB1 (Mo_isPlace x1 D E) fun y1 D1 E1 => (if y1 = 0 then (some (some (.inl (-2 : Int32)), D1, E1)) else (Mo_bound_17 ((1 : Int32) <<< (x1 &&& 31)) (0 : Int32) D1 E1))) := (pEg m197 (d := 2) 17 _ _ _ _).trans rfl
set_option maxRecDepth 100000 in
set_option maxHeartbeats 4000000 in
theorem e_Mo_best (x1 : Int32) (D : pD) (E : pDL) : Mo_best x1 D E = (Mo_best_4 x1 (0 : Int32) (0 : Int32) D E) := (pEg m200 (d := 5) 9 _ _ _ _).trans rfl
set_option maxRecDepth 100000 in
set_option maxHeartbeats 4000000 in
theorem e_Mo_exchange (D : pD) (E : pDL) : Mo_exchange  D E = (Mo_exchange_4 (1 : Int32) (0 : Int32) D E) := (pEg m203 (d := 6) 9 _ _ _ _).trans rfl
set_option maxRecDepth 100000 in
set_option maxHeartbeats 4000000 in
theorem e_Mo_one (x1 : Int32) (D : pD) (E : pDL) : Mo_one x1 D E = (pB1 (Mo_isNotion x1 D E) fun y1 D1 E1 => (if y1 = 0 then (some (some (.inl (-2 : Int32)), D1, E1)) else (pB1 (Mo_oneOf x1 D1 E1) fun y2 D2 E2 => (some (some (.inl y2), D2, E2))))) := (pEg m207 (d := 4) 16 _ _ _ _).trans rfl
set_option maxRecDepth 100000 in
set_option maxHeartbeats 4000000 in
theorem e_Mo_price (x1 : Int32) (D : pD) (E : pDL) : Mo_price x1 D E = (pB1 (Mo_isNotion x1 D E) fun y1 D1 E1 => (if y1 = 0 then (some (some (.inl (-2 : Int32)), D1, E1)) else (pB1 (Mo_oneOf x1 D1 E1) fun y2 D2 E2 => (if y2 = (-1 : Int32) then (some (some (.inl (-1 : Int32)), D2, E2)) else (pB1 (Mo_plainSum x1 y2 D2 E2) fun y3 D3 E3 => (Mo_price_34 x1 y3 (0 : Int32) D3 E3)))))) := (pEg m208 (d := 4) 27 _ _ _ _).trans rfl
set_option maxRecDepth 100000 in
set_option maxHeartbeats 4000000 in
theorem e_Mo_swap (x1 : Int32) (D : pD) (E : pDL) : Mo_swap x1 D E = (pB1 (Mo_isNotion x1 D E) fun y1 D1 E1 => (if y1 = 0 then (some (some (.inl (-2 : Int32)), D1, E1)) else (Mo_swap_15 x1 (0 : Int32) (0 : Int32) D1 E1))) := (pEg m209 (d := 2) 15 _ _ _ _).trans rfl
set_option maxRecDepth 100000 in
set_option maxHeartbeats 4000000 in
theorem e_Mo_mend (x1 : Int32) (D : pD) (E : pDL) : Mo_mend x1 D E = (pB1 (Mo_in x1 (0 : Int32) (99 : Int32) D E) fun y1 D1 E1 => (if y1 = 0 then (some (some (.inl (-2 : Int32)), D1, E1)) else (Mo_mend_15 x1 (0 : Int32) D1 E1))) := (pEg m210 (d := 3) 14 _ _ _ _).trans rfl
set_option maxRecDepth 100000 in
set_option maxHeartbeats 4000000 in
theorem e_Mo_hears (x1 : Int32) (x2 : Int32) (D : pD) (E : pDL) : Mo_hears x1 x2 D E = (pB1 (Mo_isAsked x1 x2 D E) fun y1 D1 E1 => (if y1 = 0 then (some (some (.inl (-2 : Int32)), D1, E1)) else (if x2 < 0 ∨ 24 ≤ x2.toNatClampNeg then none else (if (D1 115 0 x2.toNatClampNeg) = (-1 : Int32) then (some (some (.inl (-1 : Int32)), D1, E1)) else (pB1 (Mo_heardBy x1 x2 D1 E1) fun y2 D2 E2 => (some (some (.inl y2), D2, E2))))))) := (pEg m215 (d := 3) 27 _ _ _ _).trans rfl
set_option maxRecDepth 100000 in
set_option maxHeartbeats 4000000 in
theorem e_Mo_back (x1 : Int32) (x2 : Int32) (D : pD) (E : pDL) : Mo_back x1 x2 D E = (pB1 (Mo_isAsked x1 x2 D E) fun y1 D1 E1 => (if y1 = 0 then (some (some (.inl (-2 : Int32)), D1, E1)) else (if x2 < 0 ∨ 24 ≤ x2.toNatClampNeg then none else (if (D1 115 0 x2.toNatClampNeg) = (-1 : Int32) then (some (some (.inl (-1 : Int32)), D1, E1)) else (pB1 (Mo_heardBy x1 x2 D1 E1) fun y2 D2 E2 => (pB1 (Mo_backOf y2 D2 E2) fun y3 D3 E3 => (some (some (.inl y3), D3, E3)))))))) := (pEg m216 (d := 3) 29 _ _ _ _).trans rfl
set_option maxRecDepth 100000 in
set_option maxHeartbeats 4000000 in
theorem e_Mo_laughs (x1 : Int32) (x2 : Int32) (D : pD) (E : pDL) : Mo_laughs x1 x2 D E = (pB1 (Mo_isAsked x1 x2 D E) fun y1 D1 E1 => (if y1 = 0 then (some (some (.inl (-2 : Int32)), D1, E1)) else (if x2 < 0 ∨ 24 ≤ x2.toNatClampNeg then none else (if (D1 115 0 x2.toNatClampNeg) = (-1 : Int32) then (some (some (.inl (-1 : Int32)), D1, E1)) else (pB1 (Mo_had x2 (-1 : Int32) D1 E1) fun y2 D2 E2 => (pB1 (Mo_isLaugh x1 y2 D2 E2) fun y3 D3 E3 => (if y3 = 0 then (some (some (.inl (0 : Int32)), D3, E3)) else (some (some (.inl (1 : Int32)), D3, E3))))))))) := (pEg m217 (d := 3) 35 _ _ _ _).trans rfl
set_option maxRecDepth 100000 in
set_option maxHeartbeats 4000000 in
theorem e_Mo_hits (x1 : Int32) (D : pD) (E : pDL) : Mo_hits x1 D E = (pB1 (Mo_isHearer x1 D E) fun y1 D1 E1 => (if y1 = 0 then (some (some (.inl (-2 : Int32)), D1, E1)) else (pB1 (Mo_hitsOf x1 D1 E1) fun y2 D2 E2 => (some (some (.inl y2), D2, E2))))) := (pEg m219 (d := 4) 16 _ _ _ _).trans rfl
set_option maxRecDepth 100000 in
set_option maxHeartbeats 4000000 in
theorem e_Mo_on (x1 : Int32) (x2 : Int32) (x3 : Int32) (D : pD) (E : pDL) : Mo_on x1 x2 x3 D E = (pB1 (Mo_isAsked x1 x3 D E) fun y1 D1 E1 => (if y1 = 0 then (some (some (.inl (-2 : Int32)), D1, E1)) else (pB1 (Mo_isHearer x2 D1 E1) fun y2 D2 E2 => (if y2 = 0 then (some (some (.inl (-2 : Int32)), D2, E2)) else (if x3 < 0 ∨ 24 ≤ x3.toNatClampNeg then none else (if (D2 115 0 x3.toNatClampNeg) = (-1 : Int32) then (some (some (.inl (-1 : Int32)), D2, E2)) else (pB1 (Mo_heardBy x1 x3 D2 E2) fun y3 D3 E3 => (pB1 (Mo_backOf y3 D3 E3) fun y4 D4 E4 => (if y4 < 0 ∨ 24 ≤ y4.toNatClampNeg then none else (Mo_on_58 x2 (D4 105 0 y4.toNatClampNeg) (-1 : Int32) (0 : Int32) (0 : Int32) D4 E4)))))))))) := (pEg m220 (d := 3) 42 _ _ _ _).trans rfl
set_option maxRecDepth 100000 in
set_option maxHeartbeats 4000000 in
theorem e_Mo_keep (x1 : Int32) (D : pD) (E : pDL) : Mo_keep x1 D E = (pB1 (Mo_isSlot x1 D E) fun y1 D1 E1 => (if y1 = 0 then (some (some (.inl (-2 : Int32)), D1, E1)) else (pB0 (Mo_store x1 D1 E1) fun D2 E2 => (if x1 < 0 ∨ 4 ≤ x1.toNatClampNeg then none else (pB1 (Mo_lostAll (-1 : Int32) (dset D2 125 0 x1.toNatClampNeg ((1 : Int32) &&& 1)) E2) fun y3 D3 E3 => (some (some (.inl y3), D3, E3))))))) := (pEg m224 (d := 5) 22 _ _ _ _).trans rfl
set_option maxRecDepth 100000 in
set_option maxHeartbeats 4000000 in
theorem e_Mo_take (x1 : Int32) (D : pD) (E : pDL) : Mo_take x1 D E = (pB1 (Mo_isSlot x1 D E) fun y1 D1 E1 => (if y1 = 0 then (some (some (.inl (-2 : Int32)), D1, E1)) else (if x1 < 0 ∨ 4 ≤ x1.toNatClampNeg then none else (if (D1 125 0 x1.toNatClampNeg) = 0 then (some (some (.inl (-4 : Int32)), D1, E1)) else (pB0 (Mo_load x1 D1 E1) fun D2 E2 => (pB1 (Mo_lostAll (-1 : Int32) D2 E2) fun y3 D3 E3 => (some (some (.inl y3), D3, E3)))))))) := (pEg m225 (d := 5) 24 _ _ _ _).trans rfl
set_option maxRecDepth 100000 in
set_option maxHeartbeats 4000000 in
theorem e_Mo_nearer (x1 : Int32) (x2 : Int32) (x3 : Int32) (D : pD) (E : pDL) : Mo_nearer x1 x2 x3 D E = (pB1 (Mo_isSlot x1 D E) fun y1 D1 E1 => (if y1 = 0 then (some (some (.inl (-2 : Int32)), D1, E1)) else (pB1 (Mo_isSlot x2 D1 E1) fun y2 D2 E2 => (if y2 = 0 then (some (some (.inl (-2 : Int32)), D2, E2)) else (pB1 (Mo_isHearer x3 D2 E2) fun y3 D3 E3 => (if y3 = 0 then (some (some (.inl (-2 : Int32)), D3, E3)) else (if x1 < 0 ∨ 4 ≤ x1.toNatClampNeg then none else (if (D3 125 0 x1.toNatClampNeg) = 0 then (some (some (.inl (-4 : Int32)), D3, E3)) else (if x2 < 0 ∨ 4 ≤ x2.toNatClampNeg then none else (if (D3 125 0 x2.toNatClampNeg) = 0 then (some (some (.inl (-4 : Int32)), D3, E3)) else (pB0 (Mo_store (4 : Int32) D3 E3) fun D4 E4 => (pB0 (Mo_load x1 D4 E4) fun D5 E5 => (pB1 (Mo_hitsOf x3 D5 E5) fun y6 D6 E6 => (pB1 (Mo_lostAll (-1 : Int32) D6 E6) fun y7 D7 E7 => (pB0 (Mo_load x2 D7 E7) fun D8 E8 => (pB1 (Mo_hitsOf x3 D8 E8) fun y9 D9 E9 => (pB1 (Mo_lostAll (-1 : Int32) D9 E9) fun y10 D10 E10 => (pB0 (Mo_load (4 : Int32) D10 E10) fun D11 E11 => (if y6 = y9 then (if y10 ≤ y7 then (if y7 ≤ y10 then (some (some (.inl (-1 : Int32)), D11, E11)) else (some (some (.inl x2), D11, E11))) else (some (some (.inl x1), D11, E11))) else (if y6 ≤ y9 then (some (some (.inl x2), D11, E11)) else (some (some (.inl x1), D11, E11)))))))))))))))))))))) := (pEg m226 (d := 5) 88 _ _ _ _).trans rfl
set_option maxRecDepth 100000 in
set_option maxHeartbeats 4000000 in
theorem e_Mo_gives (x1 : Int32) (x2 : Int32) (x3 : Int32) (x4 : Int32) (D : pD) (E : pDL) : Mo_gives x1 x2 x3 x4 D E = (pB1 (Mo_in x1 (0 : Int32) (3 : Int32) D E) fun y1 D1 E1 => (if y1 = 0 then (some (some (.inl (-2 : Int32)), D1, E1)) else (pB1 (Mo_isPlace x2 D1 E1) fun y2 D2 E2 => (if y2 = 0 then (some (some (.inl (-2 : Int32)), D2, E2)) else (pB1 (Mo_isWord x3 D2 E2) fun y3 D3 E3 => (if y3 = 0 then (some (some (.inl (-2 : Int32)), D3, E3)) else (pB1 (Mo_in x4 (0 : Int32) (99 : Int32) D3 E3) fun y4 D4 E4 => (if y4 = 0 then (some (some (.inl (-2 : Int32)), D4, E4)) else (pB1 (Mo_cellOf x1 x2 x3 D4 E4) fun y5 D5 E5 => (if y5 < 0 ∨ 1920 ≤ y5.toNatClampNeg then none else (pB1 (Mo_cellOf x1 x2 x3 D5 E5) fun y6 D6 E6 => (if y6 < 0 ∨ 1920 ≤ y6.toNatClampNeg then none else (some (some (.inl (D5 131 0 y5.toNatClampNeg)), (dset D6 131 0 y6.toNatClampNeg x4), E6)))))))))))))) := (pEg m228 (d := 2) 49 _ _ _ _).trans rfl
set_option maxRecDepth 100000 in
set_option maxHeartbeats 4000000 in
theorem e_Mo_agree (x1 : Int32) (D : pD) (E : pDL) : Mo_agree x1 D E = (pB1 (Mo_isPlace x1 D E) fun y1 D1 E1 => (if y1 = 0 then (some (some (.inl (-2 : Int32)), D1, E1)) else (Mo_agree_18 x1 (-1 : Int32) (0 : Int32) (0 : Int32) D1 E1))) := (pEg m229 (d := 2) 17 _ _ _ _).trans rfl
set_option maxRecDepth 100000 in
set_option maxHeartbeats 4000000 in
theorem e_Mo_moves (x1 : Int32) (x2 : Int32) (x3 : Int32) (D : pD) (E : pDL) : Mo_moves x1 x2 x3 D E = (pB1 (Mo_isWord x1 D E) fun y1 D1 E1 => (if y1 = 0 then (some (some (.inl (-2 : Int32)), D1, E1)) else (pB1 (Mo_in x2 (0 : Int32) (2000 : Int32) D1 E1) fun y2 D2 E2 => (if y2 = 0 then (some (some (.inl (-2 : Int32)), D2, E2)) else (pB1 (Mo_in x3 (0 : Int32) (16777215 : Int32) D2 E2) fun y3 D3 E3 => (if y3 = 0 then (some (some (.inl (-2 : Int32)), D3, E3)) else (Mo_moves_36 x1 x2 x3 (0 : Int32) D3 E3))))))) := (pEg m230 (d := 2) 27 _ _ _ _).trans rfl
set_option maxRecDepth 100000 in
set_option maxHeartbeats 4000000 in
theorem e_Mo_lostIn (x1 : Int32) (D : pD) (E : pDL) : Mo_lostIn x1 D E = (pB1 (Mo_in x1 (0 : Int32) (2000 : Int32) D E) fun y1 D1 E1 => (if y1 = 0 then (some (some (.inl (-2 : Int32)), D1, E1)) else (pB1 (Mo_lostAll x1 D1 E1) fun y2 D2 E2 => (some (some (.inl y2), D2, E2))))) := (pEg m231 (d := 5) 17 _ _ _ _).trans rfl
set_option maxRecDepth 100000 in
set_option maxHeartbeats 4000000 in
theorem e_Mo_turned (x1 : Int32) (D : pD) (E : pDL) : Mo_turned x1 D E = (pB1 (Mo_in x1 (0 : Int32) (2000 : Int32) D E) fun y1 D1 E1 => (if y1 = 0 then (some (some (.inl (-2 : Int32)), D1, E1)) else (Mo_turned_18 x1 (0 : Int32) (0 : Int32) D1 E1))) := (pEg m232 (d := 4) 16 _ _ _ _).trans rfl
set_option maxRecDepth 100000 in
set_option maxHeartbeats 4000000 in
theorem e_Mo_until (x1 : Int32) (D : pD) (E : pDL) : Mo_until x1 D E = (if 0 ≤ x1 then (pB1 (Mo_lostAll (0 : Int32) D E) fun y1 D1 E1 => (if y1 ≤ x1 then (Mo_until_22 x1 (-1 : Int32) (0 : Int32) D1 E1) else (some (some (.inl (0 : Int32)), D1, E1)))) else (some (some (.inl (-2 : Int32)), D, E))) := (pEg m233 (d := 5) 20 _ _ _ _).trans rfl
set_option maxRecDepth 100000 in
set_option maxHeartbeats 4000000 in
theorem e_Mo_heard (x1 : Int32) (x2 : Int32) (x3 : Int32) (x4 : Int32) (D : pD) (E : pDL) : Mo_heard x1 x2 x3 x4 D E = (pB1 (Mo_in x1 (D 100 0 50) (999 : Int32) D E) fun y1 D1 E1 => (if y1 = 0 then (some (some (.inl (-2 : Int32)), D1, E1)) else (pB1 (Mo_isAsked x2 x3 D1 E1) fun y2 D2 E2 => (if y2 = 0 then (some (some (.inl (-2 : Int32)), D2, E2)) else (pB1 (Mo_in x4 (0 : Int32) (1 : Int32) D2 E2) fun y3 D3 E3 => (if y3 = 0 then (some (some (.inl (-2 : Int32)), D3, E3)) else (if x3 < 0 ∨ 24 ≤ x3.toNatClampNeg then none else (if (D3 115 0 x3.toNatClampNeg) = (-1 : Int32) then (some (some (.inl (-4 : Int32)), D3, E3)) else (if (D3 100 0 48) = (30 : Int32) then (some (some (.inl (-3 : Int32)), D3, E3)) else (if (D3 100 0 48) < 0 ∨ 30 ≤ (D3 100 0 48).toNatClampNeg then none else (if (D3 100 0 48) < 0 ∨ 30 ≤ (D3 100 0 48).toNatClampNeg then none else (pB1 (Mo_had x3 (-1 : Int32) (dset (dset (dset D3 100 0 50 x1) 135 0 (D3 100 0 48).toNatClampNeg x1) 136 0 (D3 100 0 48).toNatClampNeg x2) E3) fun y4 D4 E4 => (if (D3 100 0 48) < 0 ∨ 30 ≤ (D3 100 0 48).toNatClampNeg then none else (if (D4 100 0 48) < 0 ∨ 30 ≤ (D4 100 0 48).toNatClampNeg then none else (some (some (.inl (((D4 100 0 48) + (1 : Int32)) - (1 : Int32))), (dset (dset (dset D4 137 0 (D3 100 0 48).toNatClampNeg y4) 138 0 (D4 100 0 48).toNatClampNeg x4) 100 0 48 ((D4 100 0 48) + (1 : Int32))), E4)))))))))))))))) := (pEg m234 (d := 3) 82 _ _ _ _).trans rfl
set_option maxRecDepth 100000 in
set_option maxHeartbeats 4000000 in
theorem e_Mo_right (x1 : Int32) (x2 : Int32) (x3 : Int32) (D : pD) (E : pDL) : Mo_right x1 x2 x3 D E = (pB1 (Mo_in x1 (D 100 0 50) (999 : Int32) D E) fun y1 D1 E1 => (if y1 = 0 then (some (some (.inl (-2 : Int32)), D1, E1)) else (pB1 (Mo_in x2 (0 : Int32) ((D1 100 0 48) - (1 : Int32)) D1 E1) fun y2 D2 E2 => (if y2 = 0 then (some (some (.inl (-2 : Int32)), D2, E2)) else (pB1 (Mo_in x3 (0 : Int32) (1 : Int32) D2 E2) fun y3 D3 E3 => (if y3 = 0 then (some (some (.inl (-2 : Int32)), D3, E3)) else (if (D3 100 0 49) = (20 : Int32) then (some (some (.inl (-3 : Int32)), D3, E3)) else (if (D3 100 0 49) < 0 ∨ 20 ≤ (D3 100 0 49).toNatClampNeg then none else (if (D3 100 0 49) < 0 ∨ 20 ≤ (D3 100 0 49).toNatClampNeg then none else (if (D3 100 0 49) < 0 ∨ 20 ≤ (D3 100 0 49).toNatClampNeg then none else (Mo_right_103 x2 (0 : Int32) (0 : Int32) (dset (dset (dset (dset (dset D3 100 0 50 x1) 139 0 (D3 100 0 49).toNatClampNeg x1) 140 0 (D3 100 0 49).toNatClampNeg x2) 141 0 (D3 100 0 49).toNatClampNeg x3) 100 0 49 ((D3 100 0 49) + (1 : Int32))) E3))))))))))) := (pEg m235 (d := 1) 67 _ _ _ _).trans rfl
set_option maxRecDepth 100000 in
set_option maxHeartbeats 4000000 in
theorem e_Mo_fit (x1 : Int32) (x2 : Int32) (D : pD) (E : pDL) : Mo_fit x1 x2 D E = (pB1 (Mo_isHearer x1 D E) fun y1 D1 E1 => (if y1 = 0 then (some (some (.inl (-2 : Int32)), D1, E1)) else (pB1 (Mo_in x2 (0 : Int32) (999 : Int32) D1 E1) fun y2 D2 E2 => (if y2 = 0 then (some (some (.inl (-2 : Int32)), D2, E2)) else (pB1 (Mo_makeFits x1 x2 D2 E2) fun y3 D3 E3 => (some (some (.inl y3), D3, E3))))))) := (pEg m238 (d := 2) 24 _ _ _ _).trans rfl
set_option maxRecDepth 100000 in
set_option maxHeartbeats 4000000 in
theorem e_Mo_surely (x1 : Int32) (x2 : Int32) (x3 : Int32) (D : pD) (E : pDL) : Mo_surely x1 x2 x3 D E = (pB1 (Mo_isHearer x1 D E) fun y1 D1 E1 => (if y1 = 0 then (some (some (.inl (-2 : Int32)), D1, E1)) else (pB1 (Mo_in x2 (0 : Int32) (23 : Int32) D1 E1) fun y2 D2 E2 => (if y2 = 0 then (some (some (.inl (-2 : Int32)), D2, E2)) else (pB1 (Mo_in x3 (0 : Int32) (999 : Int32) D2 E2) fun y3 D3 E3 => (if y3 = 0 then (some (some (.inl (-2 : Int32)), D3, E3)) else (pB1 (Mo_makeFits x1 x3 D3 E3) fun y4 D4 E4 => (Mo_surely_46 x2 y4 (0 : Int32) (0 : Int32) D4 E4)))))))) := (pEg m239 (d := 2) 34 _ _ _ _).trans rfl
set_option maxRecDepth 100000 in
set_option maxHeartbeats 4000000 in
theorem e_Mo_next (x1 : Int32) (D : pD) (E : pDL) : Mo_next x1 D E = (pB1 (Mo_isHearer x1 D E) fun y1 D1 E1 => (if y1 = 0 then (some (some (.inl (-2 : Int32)), D1, E1)) else (pB1 (Mo_makeFits x1 (999 : Int32) D1 E1) fun y2 D2 E2 => (Mo_next_28 y2 (-1 : Int32) y2 (0 : Int32) D2 E2)))) := (pEg m240 (d := 2) 22 _ _ _ _).trans rfl
set_option maxRecDepth 100000 in
set_option maxHeartbeats 4000000 in
theorem e_Mo_count (x1 : Int32) (D : pD) (E : pDL) : Mo_count x1 D E = (if x1.toInt = 0 then (Mo_count_42 (0 : Int32) (0 : Int32) D E) else (if x1.toInt = 1 then (pB1 (Mo_notedAll D E) fun y1 D1 E1 => (some (some (.inl y1), D1, E1))) else (if x1.toInt = 2 then (some (some (.inl (D 100 0 44)), D, E)) else (if x1.toInt = 3 then (some (some (.inl (D 100 0 48)), D, E)) else (if x1.toInt = 4 then (some (some (.inl (D 100 0 49)), D, E)) else (if x1.toInt = 5 then (some (some (.inl (D 100 0 1)), D, E)) else (some (some (.inl (-1 : Int32)), D, E)))))))) := (pEg m241 (d := 2) 28 _ _ _ _).trans rfl
set_option maxRecDepth 100000 in
set_option maxHeartbeats 4000000 in
theorem e_Ta_hasRoom (D : pD) (E : pDL) : Ta_hasRoom  D E = (if (1180 : Int32) < (D 1 0 1) then (some (some (.inl (0 : Int32)), D, E)) else (some (some (.inl (1 : Int32)), D, E))) := (pEg m92 (d := 0) 14 _ _ _ _).trans rfl
set_option maxRecDepth 100000 in
set_option maxHeartbeats 4000000 in
theorem e_Ta_append (x1 : Int32) (D : pD) (E : pDL) : Ta_append x1 D E = (Ta_append_3 x1 (24 : Int32) D E) := (pEg m93 (d := 0) 7 _ _ _ _).trans rfl
set_option maxRecDepth 100000 in
set_option maxHeartbeats 4000000 in
theorem e_Re_read (D : pD) (E : pDL) : Re_read  D E = (pB0 (Re_begin D E) fun D1 E1 => (Re_read_7 (0 : Int32) D1 E1)) := (pEg m37 (d := 5) 10 _ _ _ _).trans rfl
set_option maxRecDepth 100000 in
set_option maxHeartbeats 4000000 in
theorem e_Bk_copyFrom_draft (D : pD) (E : pDL) : Bk_copyFrom_draft  D E = (if (0 : Int32) < 0 ∨ (0 : Int32) < 0 ∨ (nI 5) < 0 ∨ 5 < (0 : Int32).toNatClampNeg + (nI 5).toNatClampNeg ∨ 5 < (0 : Int32).toNatClampNeg + (nI 5).toNatClampNeg then none else (if (0 : Int32) < 0 ∨ (0 : Int32) < 0 ∨ (nI 5) < 0 ∨ 5 < (0 : Int32).toNatClampNeg + (nI 5).toNatClampNeg ∨ 5 < (0 : Int32).toNatClampNeg + (nI 5).toNatClampNeg then none else (pB0 (Bk_sumGroups (dcpy (dcpy (dcpy D 19 (0 : Int32).toNatClampNeg 4 (0 : Int32).toNatClampNeg (nI 5).toNatClampNeg) 20 (0 : Int32).toNatClampNeg 5 (0 : Int32).toNatClampNeg (nI 5).toNatClampNeg) 21 0 6 0 24) E) fun D1 E1 => (some (none, (dcpy (dcpy (dcpy (dcpy (dcpy (dcpy (dcpy (dcpy (dcpy D1 23 0 8 0 12) 24 0 9 0 20) 25 0 10 0 24) 26 0 11 0 24) 27 0 12 0 20) 28 0 13 0 20) 29 0 14 0 20) 30 0 15 0 6) 31 0 16 0 6), E1))))) := (pEg m1 (d := 1) 108 _ _ _ _).trans rfl
set_option maxRecDepth 100000 in
set_option maxHeartbeats 4000000 in
theorem e_Rn_clear (D : pD) (E : pDL) : Rn_clear  D E = (pB0 (Ja_fillI_now_kinds (-1 : Int32) D E) fun D1 E1 => (pB0 (Ja_fillI_now_firsts (-1 : Int32) D1 E1) fun D2 E2 => (pB0 (Ja_fillI_now_seconds (-1 : Int32) D2 E2) fun D3 E3 => (pB0 (Ja_fillI_now_thirds (-1 : Int32) D3 E3) fun D4 E4 => (pB0 (Ja_fillI_now_notes (0 : Int32) D4 E4) fun D5 E5 => (some (none, D5, E5))))))) := (pEg m56 (d := 1) 26 _ _ _ _).trans rfl
set_option maxRecDepth 100000 in
set_option maxHeartbeats 4000000 in
theorem e_Hb_book_50 (x1 : Int32) (x2 : Int32) (D : pD) (E : pDL) : Hb_book_50 x1 x2 D E = (if (4 : Int32) ≤ x2 then (pB0 (Fo_clear D E) fun D1 E1 => (pB0 (Ye_clear D1 E1) fun D2 E2 => (pB0 (La_clear D2 E2) fun D3 E3 => (some (some (.inl x1), D3, E3))))) else (if x2 < 0 ∨ 4 ≤ x2.toNatClampNeg then none else (Hb_book_50 x1 (x2 + (1 : Int32)) (dset D 49 0 x2.toNatClampNeg ((0 : Int32) &&& 1)) E))) := (pEg m103 (d := 6) 26 _ _ _ _).trans rfl
set_option maxRecDepth 100000 in
set_option maxHeartbeats 4000000 in
theorem e_Hb_told_42 (x1 : Int32) (D : pD) (E : pDL) : Hb_told_42 x1 D E = (if x1 < (20 : Int32) then (some (some (.inl (-1 : Int32)), D, E)) else (if (44 : Int32) ≤ x1 then (some (some (.inl (-1 : Int32)), D, E)) else (if (x1 - (20 : Int32)) < 0 ∨ 24 ≤ (x1 - (20 : Int32)).toNatClampNeg then none else (some (some (.inl (D 6 0 (x1 - (20 : Int32)).toNatClampNeg)), D, E))))) := (pEg m105 (d := 0) 23 _ _ _ _).trans rfl
set_option maxRecDepth 100000 in
set_option maxHeartbeats 4000000 in
theorem e_Bk_has (x1 : Int32) (x2 : Int32) (D : pD) (E : pDL) : Bk_has x1 x2 D E = (if x2 < 0 then (some (some (.inl (0 : Int32)), D, E)) else (if x1 < 0 ∨ 5 ≤ x1.toNatClampNeg then none else (if (D 4 0 x1.toNatClampNeg) ≤ x2 then (some (some (.inl (0 : Int32)), D, E)) else (some (some (.inl (1 : Int32)), D, E))))) := (pEg m3 (d := 0) 20 _ _ _ _).trans rfl
set_option maxRecDepth 100000 in
set_option maxHeartbeats 4000000 in
theorem e_Hb_wordsAreFit (x1 : Int32) (x2 : Int32) (x3 : Int32) (x4 : Int32) (D : pD) (E : pDL) : Hb_wordsAreFit x1 x2 x3 x4 D E = (if x1.toInt = 0 then (pB1 (Bk_has (1 : Int32) x2 D E) fun y6 D6 E6 => (if y6 &&& 1 = y6 then some (some (.inl y6), D6, E6) else none)) else (if x1.toInt = 1 then (pB1 (Bk_has (1 : Int32) x2 D E) fun y4 D4 E4 => (if y4 = 0 then (some (some (.inl (0 : Int32)), D4, E4)) else (pB1 (Bk_has (1 : Int32) x3 D4 E4) fun y5 D5 E5 => (if y5 = 0 then (some (some (.inl (0 : Int32)), D5, E5)) else (if x2 = x3 then (some (some (.inl (0 : Int32)), D5, E5)) else (some (some (.inl (1 : Int32)), D5, E5))))))) else (if x1.toInt = 2 then (pB1 (Bk_has (1 : Int32) x2 D E) fun y1 D1 E1 => (if y1 = 0 then (some (some (.inl (0 : Int32)), D1, E1)) else (pB1 (Bk_has (1 : Int32) x3 D1 E1) fun y2 D2 E2 => (if y2 = 0 then (some (some (.inl (0 : Int32)), D2, E2)) else (if x4 = (-1 : Int32) then (some (some (.inl (1 : Int32)), D2, E2)) else (pB1 (Bk_has (1 : Int32) x4 D2 E2) fun y3 D3 E3 => (if y3 = 0 then (some (some (.inl (0 : Int32)), D3, E3)) else (some (some (.inl (1 : Int32)), D3, E3))))))))) else (if x1.toInt = 3 then (some (some (.inl (1 : Int32)), D, E)) else (some (some (.inl (0 : Int32)), D, E)))))) := (pEg m109 (d := 1) 74 _ _ _ _).trans rfl
set_option maxRecDepth 100000 in
set_option maxHeartbeats 4000000 in
theorem e_Hb_choose_60 (x1 : Int32) (x2 : Int32) (x5 : Int32) (s0 : Int32) (s1 : Int32) (s2 : Int32) (s3 : Int32) (D : pD) (E : pDL) : Hb_choose_60 x1 x2 x5 s0 s1 s2 s3 D E = (if x2 = (2 : Int32) then (pB0 (Rn_put s3 s2 s1 s0 x5 D E) fun D1 E1 => (pB1 (Rn_lostAt_held_wordTraits x1 D1 E1) fun y2 D2 E2 => (some (some (.inl y2), D2, E2)))) else (pB0 (Rn_put s3 s2 s1 s0 (-1 : Int32) D E) fun D3 E3 => (pB1 (Rn_lostAt_held_wordTraits x1 D3 E3) fun y4 D4 E4 => (some (some (.inl y4), D4, E4))))) := (pEg m108 (d := 4) 29 _ _ _ _).trans rfl
set_option maxRecDepth 100000 in
set_option maxHeartbeats 4000000 in
theorem e_Rn_isChosen (x1 : Int32) (D : pD) (E : pDL) : Rn_isChosen x1 D E = (if x1 < 0 ∨ 24 ≤ x1.toNatClampNeg then none else (if (D 43 0 x1.toNatClampNeg) = (-1 : Int32) then (some (some (.inl (0 : Int32)), D, E)) else (some (some (.inl (1 : Int32)), D, E)))) := (pEg m59 (d := 0) 16 _ _ _ _).trans rfl
set_option maxRecDepth 100000 in
set_option maxHeartbeats 4000000 in
theorem e_Rn_put (x1 : Int32) (x2 : Int32) (x3 : Int32) (x4 : Int32) (x5 : Int32) (D : pD) (E : pDL) : Rn_put x1 x2 x3 x4 x5 D E = (if x1 < 0 ∨ 24 ≤ x1.toNatClampNeg then none else (if x1 < 0 ∨ 24 ≤ x1.toNatClampNeg then none else (if x1 < 0 ∨ 24 ≤ x1.toNatClampNeg then none else (if x1 < 0 ∨ 24 ≤ x1.toNatClampNeg then none else (some (none, (dset (dset (dset (dset D 43 0 x1.toNatClampNeg x2) 44 0 x1.toNatClampNeg x3) 45 0 x1.toNatClampNeg x4) 46 0 x1.toNatClampNeg x5), E)))))) := (pEg m58 (d := 0) 26 _ _ _ _).trans rfl
set_option maxRecDepth 100000 in
set_option maxHeartbeats 4000000 in
theorem e_Rn_traitsAt_held_wordTraits (x1 : Int32) (D : pD) (E : pDL) : Rn_traitsAt_held_wordTraits x1 D E = (if x1 < 0 ∨ 24 ≤ x1.toNatClampNeg then none else (pB1 (Rn_traitsOf_held_wordTraits (D 44 0 x1.toNatClampNeg) D E) fun y1 D1 E1 => (if x1 < 0 ∨ 24 ≤ x1.toNatClampNeg then none else (pB1 (Rn_traitsOf_held_wordTraits (D1 45 0 x1.toNatClampNeg) D1 E1) fun y2 D2 E2 => (if x1 < 0 ∨ 24 ≤ x1.toNatClampNeg then none else (pB1 (Rn_traitsOf_held_wordTraits (D2 46 0 x1.toNatClampNeg) D2 E2) fun y3 D3 E3 => (some (some (.inl ((y1 ||| y2) ||| y3)), D3, E3)))))))) := (pEg m63 (d := 1) 26 _ _ _ _).trans rfl
set_option maxRecDepth 100000 in
set_option maxHeartbeats 4000000 in
theorem e_Rn_lostAt_held_wordTraits (x1 : Int32) (D : pD) (E : pDL) : Rn_lostAt_held_wordTraits x1 D E = (pB1 (Rn_isChosen x1 D E) fun y1 D1 E1 => (if y1 = 0 then (some (some (.inl (0 : Int32)), D1, E1)) else (if x1 < 0 ∨ 24 ≤ x1.toNatClampNeg then none else (if (D1 45 0 x1.toNatClampNeg) = (-1 : Int32) then (if x1 < 0 ∨ 24 ≤ x1.toNatClampNeg then none else (if (D1 46 0 x1.toNatClampNeg) = (-1 : Int32) then (Rn_lostAt_held_wordTraits_40 x1 (0 : Int32) (0 : Int32) D1 E1) else (Rn_lostAt_held_wordTraits_40 x1 (1 : Int32) (0 : Int32) D1 E1))) else (if x1 < 0 ∨ 24 ≤ x1.toNatClampNeg then none else (if (D1 46 0 x1.toNatClampNeg) = (-1 : Int32) then (Rn_lostAt_held_wordTraits_40 x1 (0 : Int32) (1 : Int32) D1 E1) else (Rn_lostAt_held_wordTraits_40 x1 (1 : Int32) (1 : Int32) D1 E1))))))) := (pEg m65 (d := 3) 38 _ _ _ _).trans rfl
set_option maxRecDepth 100000 in
set_option maxHeartbeats 4000000 in
theorem e_Bk_addsOf (x1 : Int32) (x2 : Int32) (D : pD) (E : pDL) : Bk_addsOf x1 x2 D E = (pB1 (Bk_traitsOfNotionAt x1 D E) fun y1 D1 E1 => (some (some (.inl (x2 &&& (y1 ^^^ (-1 : Int32)))), D1, E1))) := (pEg m11 (d := 1) 13 _ _ _ _).trans rfl
set_option maxRecDepth 100000 in
set_option maxHeartbeats 4000000 in
theorem e_Bk_lacksOf (x1 : Int32) (x2 : Int32) (D : pD) (E : pDL) : Bk_lacksOf x1 x2 D E = (if x1 < 0 ∨ 24 ≤ x1.toNatClampNeg then none else (some (some (.inl ((D 11 0 x1.toNatClampNeg) &&& (x2 ^^^ (-1 : Int32)))), D, E))) := (pEg m10 (d := 0) 14 _ _ _ _).trans rfl
set_option maxRecDepth 100000 in
set_option maxHeartbeats 4000000 in
theorem e_Bk_traitsOfNotionAt (x1 : Int32) (D : pD) (E : pDL) : Bk_traitsOfNotionAt x1 D E = (if x1 < 0 ∨ 24 ≤ x1.toNatClampNeg then none else (if (D 10 0 x1.toNatClampNeg) < 0 ∨ 12 ≤ (D 10 0 x1.toNatClampNeg).toNatClampNeg then none else (some (some (.inl (D 8 0 (D 10 0 x1.toNatClampNeg).toNatClampNeg)), D, E)))) := (pEg m9 (d := 0) 13 _ _ _ _).trans rfl
set_option maxRecDepth 100000 in
set_option maxHeartbeats 4000000 in
theorem e_Rn_noted (D : pD) (E : pDL) : Rn_noted  D E = (Rn_noted_4 (0 : Int32) (0 : Int32) D E) := (pEg m62 (d := 1) 9 _ _ _ _).trans rfl
set_option maxRecDepth 100000 in
set_option maxHeartbeats 4000000 in
theorem e_Ji_bitCount (x0 : Int32) (D : pD) (E : pDL) : Ji_bitCount x0 D E = (some (some (.inl ((((((((x0 - ((x0.toUInt32 >>> ((1 : Int32).toUInt32 &&& Int32.toUInt32 31)).toInt32 &&& (1431655765 : Int32))) &&& (858993459 : Int32)) + (((x0 - ((x0.toUInt32 >>> ((1 : Int32).toUInt32 &&& Int32.toUInt32 31)).toInt32 &&& (1431655765 : Int32))).toUInt32 >>> ((2 : Int32).toUInt32 &&& Int32.toUInt32 31)).toInt32 &&& (858993459 : Int32))) + ((((x0 - ((x0.toUInt32 >>> ((1 : Int32).toUInt32 &&& Int32.toUInt32 31)).toInt32 &&& (1431655765 : Int32))) &&& (858993459 : Int32)) + (((x0 - ((x0.toUInt32 >>> ((1 : Int32).toUInt32 &&& Int32.toUInt32 31)).toInt32 &&& (1431655765 : Int32))).toUInt32 >>> ((2 : Int32).toUInt32 &&& Int32.toUInt32 31)).toInt32 &&& (858993459 : Int32))).toUInt32 >>> ((4 : Int32).toUInt32 &&& Int32.toUInt32 31)).toInt32) &&& (252645135 : Int32)) + ((((((x0 - ((x0.toUInt32 >>> ((1 : Int32).toUInt32 &&& Int32.toUInt32 31)).toInt32 &&& (1431655765 : Int32))) &&& (858993459 : Int32)) + (((x0 - ((x0.toUInt32 >>> ((1 : Int32).toUInt32 &&& Int32.toUInt32 31)).toInt32 &&& (1431655765 : Int32))).toUInt32 >>> ((2 : Int32).toUInt32 &&& Int32.toUInt32 31)).toInt32 &&& (858993459 : Int32))) + ((((x0 - ((x0.toUInt32 >>> ((1 : Int32).toUInt32 &&& Int32.toUInt32 31)).toInt32 &&& (1431655765 : Int32))) &&& (858993459 : Int32)) + (((x0 - ((x0.toUInt32 >>> ((1 : Int32).toUInt32 &&& Int32.toUInt32 31)).toInt32 &&& (1431655765 : Int32))).toUInt32 >>> ((2 : Int32).toUInt32 &&& Int32.toUInt32 31)).toInt32 &&& (858993459 : Int32))).toUInt32 >>> ((4 : Int32).toUInt32 &&& Int32.toUInt32 31)).toInt32) &&& (252645135 : Int32)).toUInt32 >>> ((8 : Int32).toUInt32 &&& Int32.toUInt32 31)).toInt32) + (((((((x0 - ((x0.toUInt32 >>> ((1 : Int32).toUInt32 &&& Int32.toUInt32 31)).toInt32 &&& (1431655765 : Int32))) &&& (858993459 : Int32)) + (((x0 - ((x0.toUInt32 >>> ((1 : Int32).toUInt32 &&& Int32.toUInt32 31)).toInt32 &&& (1431655765 : Int32))).toUInt32 >>> ((2 : Int32).toUInt32 &&& Int32.toUInt32 31)).toInt32 &&& (858993459 : Int32))) + ((((x0 - ((x0.toUInt32 >>> ((1 : Int32).toUInt32 &&& Int32.toUInt32 31)).toInt32 &&& (1431655765 : Int32))) &&& (858993459 : Int32)) + (((x0 - ((x0.toUInt32 >>> ((1 : Int32).toUInt32 &&& Int32.toUInt32 31)).toInt32 &&& (1431655765 : Int32))).toUInt32 >>> ((2 : Int32).toUInt32 &&& Int32.toUInt32 31)).toInt32 &&& (858993459 : Int32))).toUInt32 >>> ((4 : Int32).toUInt32 &&& Int32.toUInt32 31)).toInt32) &&& (252645135 : Int32)) + ((((((x0 - ((x0.toUInt32 >>> ((1 : Int32).toUInt32 &&& Int32.toUInt32 31)).toInt32 &&& (1431655765 : Int32))) &&& (858993459 : Int32)) + (((x0 - ((x0.toUInt32 >>> ((1 : Int32).toUInt32 &&& Int32.toUInt32 31)).toInt32 &&& (1431655765 : Int32))).toUInt32 >>> ((2 : Int32).toUInt32 &&& Int32.toUInt32 31)).toInt32 &&& (858993459 : Int32))) + ((((x0 - ((x0.toUInt32 >>> ((1 : Int32).toUInt32 &&& Int32.toUInt32 31)).toInt32 &&& (1431655765 : Int32))) &&& (858993459 : Int32)) + (((x0 - ((x0.toUInt32 >>> ((1 : Int32).toUInt32 &&& Int32.toUInt32 31)).toInt32 &&& (1431655765 : Int32))).toUInt32 >>> ((2 : Int32).toUInt32 &&& Int32.toUInt32 31)).toInt32 &&& (858993459 : Int32))).toUInt32 >>> ((4 : Int32).toUInt32 &&& Int32.toUInt32 31)).toInt32) &&& (252645135 : Int32)).toUInt32 >>> ((8 : Int32).toUInt32 &&& Int32.toUInt32 31)).toInt32).toUInt32 >>> ((16 : Int32).toUInt32 &&& Int32.toUInt32 31)).toInt32) &&& (63 : Int32))), D, E)) := (pEg m242 (d := 0) 47 _ _ _ _).trans rfl
set_option maxRecDepth 100000 in
set_option maxHeartbeats 4000000 in
theorem e_Bk_setting (x1 : Int32) (D : pD) (E : pDL) : Bk_setting x1 D E = (if (x1 - (5 : Int32)) < 0 ∨ 5 ≤ (x1 - (5 : Int32)).toNatClampNeg then none else (some (some (.inl (D 5 0 (x1 - (5 : Int32)).toNatClampNeg)), D, E))) := (pEg m4 (d := 0) 12 _ _ _ _).trans rfl
set_option maxRecDepth 100000 in
set_option maxHeartbeats 4000000 in
theorem e_Rn_lostOfAll_held_wordTraits (D : pD) (E : pDL) : Rn_lostOfAll_held_wordTraits  D E = (Rn_lostOfAll_held_wordTraits_4 (0 : Int32) (0 : Int32) D E) := (pEg m66 (d := 4) 9 _ _ _ _).trans rfl
set_option maxRecDepth 100000 in
set_option maxHeartbeats 4000000 in
theorem e_Rn_clashBits (D : pD) (E : pDL) : Rn_clashBits  D E = (Rn_clashBits_4 (0 : Int32) (0 : Int32) D E) := (pEg m67 (d := 3) 9 _ _ _ _).trans rfl
set_option maxRecDepth 100000 in
set_option maxHeartbeats 4000000 in
theorem e_Bk_boundBy (x1 : Int32) (D : pD) (E : pDL) : Bk_boundBy x1 D E = (Bk_boundBy_9 ((1 : Int32) <<< (x1 &&& 31)) (0 : Int32) (0 : Int32) D E) := (pEg m15 (d := 0) 13 _ _ _ _).trans rfl
set_option maxRecDepth 100000 in
set_option maxHeartbeats 4000000 in
theorem e_Bk_allPlaces (D : pD) (E : pDL) : Bk_allPlaces  D E = (some (some (.inl (((1 : Int32) <<< ((D 4 0 2) &&& 31)) - (1 : Int32))), D, E)) := (pEg m5 (d := 0) 14 _ _ _ _).trans rfl
set_option maxRecDepth 100000 in
set_option maxHeartbeats 4000000 in
theorem e_Se_putBest (x2 : Int32) (D : pD) (E : pDL) : Se_putBest x2 D E = (pB0 (Se_begin x2 D E) fun D1 E1 => (Se_putBest_8 (0 : Int32) D1 E1)) := (pEg m83 (d := 9) 11 _ _ _ _).trans rfl
set_option maxRecDepth 100000 in
set_option maxHeartbeats 4000000 in
theorem e_Hb_exchange_4 (x1 : Int32) (x2 : Int32) (D : pD) (E : pDL) : Hb_exchange_4 x1 x2 D E = (if (10 : Int32) ≤ x2 then (pB1 (Rn_lostOfAll_held_wordTraits D E) fun y1 D1 E1 => (some (some (.inl y1), D1, E1))) else (if x1 = 0 then (pB1 (Rn_lostOfAll_held_wordTraits D E) fun y2 D2 E2 => (some (some (.inl y2), D2, E2))) else (pB1 (Rn_exchangeRound D E) fun y3 D3 E3 => (Hb_exchange_4 y3 (x2 + (1 : Int32)) D3 E3)))) := (pEg m118 (d := 6) 30 _ _ _ _).trans rfl
set_option maxRecDepth 100000 in
set_option maxHeartbeats 4000000 in
theorem e_Rn_oneWord (x1 : Int32) (D : pD) (E : pDL) : Rn_oneWord x1 D E = (Rn_oneWord_7 x1 (-1 : Int32) (0 : Int32) (0 : Int32) D E) := (pEg m78 (d := 5) 11 _ _ _ _).trans rfl
set_option maxRecDepth 100000 in
set_option maxHeartbeats 4000000 in
theorem e_Rn_lostWithWord (x1 : Int32) (x2 : Int32) (D : pD) (E : pDL) : Rn_lostWithWord x1 x2 D E = (Rn_lostWithWord_5 x1 x2 (0 : Int32) (0 : Int32) D E) := (pEg m76 (d := 4) 9 _ _ _ _).trans rfl
set_option maxRecDepth 100000 in
set_option maxHeartbeats 4000000 in
theorem e_Rn_lostWithLeast (x1 : Int32) (D : pD) (E : pDL) : Rn_lostWithLeast x1 D E = (Rn_lostWithLeast_4 x1 (0 : Int32) (0 : Int32) D E) := (pEg m77 (d := 4) 9 _ _ _ _).trans rfl
set_option maxRecDepth 100000 in
set_option maxHeartbeats 4000000 in
theorem e_Bk_wordForAll (x1 : Int32) (D : pD) (E : pDL) : Bk_wordForAll x1 D E = (Bk_wordForAll_4 x1 (0 : Int32) (0 : Int32) D E) := (pEg m16 (d := 0) 9 _ _ _ _).trans rfl
set_option maxRecDepth 100000 in
set_option maxHeartbeats 4000000 in
theorem e_Hb_mend_37 (x2 : Int32) (x3 : Int32) (D : pD) (E : pDL) : Hb_mend_37 x2 x3 D E = (if x2 ≤ x3 then (some (some (.inl x3), D, E)) else (pB1 (Rn_mendOnce D E) fun y1 D1 E1 => (if y1 = 0 then (some (some (.inl x3), D1, E1)) else (Hb_mend_37 x2 (x3 + (1 : Int32)) D1 E1)))) := (pEg m122 (d := 4) 18 _ _ _ _).trans rfl
set_option maxRecDepth 100000 in
set_option maxHeartbeats 4000000 in
theorem e_Hb_whyNotHeard (x1 : Int32) (x2 : Int32) (D : pD) (E : pDL) : Hb_whyNotHeard x1 x2 D E = (pB1 (Bk_has (4 : Int32) x1 D E) fun y1 D1 E1 => (if y1 = 0 then (some (some (.inl (-2 : Int32)), D1, E1)) else (pB1 (Bk_has (2 : Int32) x2 D1 E1) fun y2 D2 E2 => (if y2 = 0 then (some (some (.inl (-2 : Int32)), D2, E2)) else (pB1 (Rn_isChosen x2 D2 E2) fun y3 D3 E3 => (if y3 = 0 then (some (some (.inl (-1 : Int32)), D3, E3)) else (some (some (.inl (0 : Int32)), D3, E3)))))))) := (pEg m123 (d := 1) 31 _ _ _ _).trans rfl
set_option maxRecDepth 100000 in
set_option maxHeartbeats 4000000 in
theorem e_Rn_heardAt (x1 : Int32) (x2 : Int32) (D : pD) (E : pDL) : Rn_heardAt x1 x2 D E = (pB1 (Rn_traitsAt_held_wordTraits x2 D E) fun y1 D1 E1 => (if x2 < 0 ∨ 24 ≤ x2.toNatClampNeg then none else (if x1 < 0 ∨ 6 ≤ x1.toNatClampNeg then none else (some (some (.inl ((y1 ||| (D1 47 0 x2.toNatClampNeg)) &&& (D1 15 0 x1.toNatClampNeg))), D1, E1))))) := (pEg m81 (d := 2) 23 _ _ _ _).trans rfl
set_option maxRecDepth 100000 in
set_option maxHeartbeats 4000000 in
theorem e_Bk_toldBack (x1 : Int32) (D : pD) (E : pDL) : Bk_toldBack x1 D E = (Bk_toldBack_7 x1 (-1 : Int32) (0 : Int32) (0 : Int32) D E) := (pEg m17 (d := 1) 11 _ _ _ _).trans rfl
set_option maxRecDepth 100000 in
set_option maxHeartbeats 4000000 in
theorem e_Rn_rightOf (x1 : Int32) (D : pD) (E : pDL) : Rn_rightOf x1 D E = (Rn_rightOf_4 x1 (0 : Int32) (0 : Int32) D E) := (pEg m82 (d := 3) 9 _ _ _ _).trans rfl
set_option maxRecDepth 100000 in
set_option maxHeartbeats 4000000 in
theorem e_Bk_traitsSaidFor (x1 : Int32) (D : pD) (E : pDL) : Bk_traitsSaidFor x1 D E = (Bk_traitsSaidFor_7 x1 (0 : Int32) (-1 : Int32) (0 : Int32) D E) := (pEg m18 (d := 1) 11 _ _ _ _).trans rfl
set_option maxRecDepth 100000 in
set_option maxHeartbeats 4000000 in
theorem e_Rn_copyFrom_k0 (D : pD) (E : pDL) : Rn_copyFrom_k0  D E = (some (none, (dcpy (dcpy (dcpy (dcpy (dcpy D 43 0 77 0 24) 44 0 78 0 24) 45 0 79 0 24) 46 0 80 0 24) 47 0 81 0 24), E)) := (pEg m57 (d := 0) 46 _ _ _ _).trans rfl
set_option maxRecDepth 100000 in
set_option maxHeartbeats 4000000 in
theorem e_Rn_copyFrom_k1 (D : pD) (E : pDL) : Rn_copyFrom_k1  D E = (some (none, (dcpy (dcpy (dcpy (dcpy (dcpy D 43 0 83 0 24) 44 0 84 0 24) 45 0 85 0 24) 46 0 86 0 24) 47 0 87 0 24), E)) := (pEg m57 (d := 0) 46 _ _ _ _).trans rfl
set_option maxRecDepth 100000 in
set_option maxHeartbeats 4000000 in
theorem e_Rn_copyFrom_k2 (D : pD) (E : pDL) : Rn_copyFrom_k2  D E = (some (none, (dcpy (dcpy (dcpy (dcpy (dcpy D 43 0 89 0 24) 44 0 90 0 24) 45 0 91 0 24) 46 0 92 0 24) 47 0 93 0 24), E)) := (pEg m57 (d := 0) 46 _ _ _ _).trans rfl
