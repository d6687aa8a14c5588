set_option maxRecDepth 100000 in
set_option maxHeartbeats 4000000 in
theorem e_Rn_copyFrom_k3 (D : pD) (E : pDL) : Rn_copyFrom_k3  D E = (some (none, (dcpy (dcpy (dcpy (dcpy (dcpy D 43 0 95 0 24) 44 0 96 0 24) 45 0 97 0 24) 46 0 98 0 24) 47 0 99 0 24), E)) := (pEg m57 (d := 0) 46 _ _ _ _).trans rfl
set_option maxRecDepth 100000 in
set_option maxHeartbeats 4000000 in
theorem e_Rn_copyFrom_k0_v122 (D : pD) (E : pDL) : Rn_copyFrom_k0_v122  D E = (some (none, (dcpy (dcpy (dcpy (dcpy (dcpy D 77 0 43 0 24) 78 0 44 0 24) 79 0 45 0 24) 80 0 46 0 24) 81 0 47 0 24), E)) := (pEg m57 (d := 0) 46 _ _ _ _).trans rfl
set_option maxRecDepth 100000 in
set_option maxHeartbeats 4000000 in
theorem e_Rn_copyFrom_k1_v123 (D : pD) (E : pDL) : Rn_copyFrom_k1_v123  D E = (some (none, (dcpy (dcpy (dcpy (dcpy (dcpy D 83 0 43 0 24) 84 0 44 0 24) 85 0 45 0 24) 86 0 46 0 24) 87 0 47 0 24), E)) := (pEg m57 (d := 0) 46 _ _ _ _).trans rfl
set_option maxRecDepth 100000 in
set_option maxHeartbeats 4000000 in
theorem e_Rn_copyFrom_k2_v124 (D : pD) (E : pDL) : Rn_copyFrom_k2_v124  D E = (some (none, (dcpy (dcpy (dcpy (dcpy (dcpy D 89 0 43 0 24) 90 0 44 0 24) 91 0 45 0 24) 92 0 46 0 24) 93 0 47 0 24), E)) := (pEg m57 (d := 0) 46 _ _ _ _).trans rfl
set_option maxRecDepth 100000 in
set_option maxHeartbeats 4000000 in
theorem e_Rn_copyFrom_k3_v125 (D : pD) (E : pDL) : Rn_copyFrom_k3_v125  D E = (some (none, (dcpy (dcpy (dcpy (dcpy (dcpy D 95 0 43 0 24) 96 0 44 0 24) 97 0 45 0 24) 98 0 46 0 24) 99 0 47 0 24), E)) := (pEg m57 (d := 0) 46 _ _ _ _).trans rfl
set_option maxRecDepth 100000 in
set_option maxHeartbeats 4000000 in
theorem e_Rn_rightOf_k0 (x1 : Int32) (D : pD) (E : pDL) : Rn_rightOf_k0 x1 D E = (Rn_rightOf_k0_4 x1 (0 : Int32) (0 : Int32) D E) := (pEg m82 (d := 3) 9 _ _ _ _).trans rfl
set_option maxRecDepth 100000 in
set_option maxHeartbeats 4000000 in
theorem e_Hb_nearer_64 (x1 : Int32) (x2 : Int32) (x3 : Int32) (s0 : Int32) (D : pD) (E : pDL) : Hb_nearer_64 x1 x2 x3 s0 D E = (if x2 < 0 ∨ 4 ≤ x2.toNatClampNeg then none else (if x2.toNatClampNeg = 0 then (pB1 (Rn_rightOf_k0 x3 D E) fun y1 D1 E1 => (Hb_nearer_77 x1 x2 (s0 - y1) D1 E1)) else (if x2.toNatClampNeg - 1 = 0 then (pB1 (Rn_rightOf_k1 x3 D E) fun y2 D2 E2 => (Hb_nearer_77 x1 x2 (s0 - y2) D2 E2)) else (if x2.toNatClampNeg - 1 - 1 = 0 then (pB1 (Rn_rightOf_k2 x3 D E) fun y3 D3 E3 => (Hb_nearer_77 x1 x2 (s0 - y3) D3 E3)) else (if x2.toNatClampNeg - 1 - 1 - 1 = 0 then (pB1 (Rn_rightOf_k3 x3 D E) fun y4 D4 E4 => (Hb_nearer_77 x1 x2 (s0 - y4) D4 E4)) else none))))) := (pEg m131 (d := 5) 25 _ _ _ _).trans rfl
set_option maxRecDepth 100000 in
set_option maxHeartbeats 4000000 in
theorem e_Rn_rightOf_k1 (x1 : Int32) (D : pD) (E : pDL) : Rn_rightOf_k1 x1 D E = (Rn_rightOf_k1_4 x1 (0 : Int32) (0 : Int32) D E) := (pEg m82 (d := 3) 9 _ _ _ _).trans rfl
set_option maxRecDepth 100000 in
set_option maxHeartbeats 4000000 in
theorem e_Rn_rightOf_k2 (x1 : Int32) (D : pD) (E : pDL) : Rn_rightOf_k2 x1 D E = (Rn_rightOf_k2_4 x1 (0 : Int32) (0 : Int32) D E) := (pEg m82 (d := 3) 9 _ _ _ _).trans rfl
set_option maxRecDepth 100000 in
set_option maxHeartbeats 4000000 in
theorem e_Rn_rightOf_k3 (x1 : Int32) (D : pD) (E : pDL) : Rn_rightOf_k3 x1 D E = (Rn_rightOf_k3_4 x1 (0 : Int32) (0 : Int32) D E) := (pEg m82 (d := 3) 9 _ _ _ _).trans rfl
set_option maxRecDepth 100000 in
set_option maxHeartbeats 4000000 in
theorem e_Fo_put (x1 : Int32) (x2 : Int32) (x3 : Int32) (x4 : Int32) (D : pD) (E : pDL) : Fo_put x1 x2 x3 x4 D E = (pB1 (Fo_indexOf x1 x2 x3 D E) fun y1 D1 E1 => (if y1 < 0 ∨ 1920 ≤ y1.toNatClampNeg then none else (if y1 < 0 ∨ 1920 ≤ y1.toNatClampNeg then none else (some (some (.inl (D1 58 0 y1.toNatClampNeg)), (dset D1 58 0 y1.toNatClampNeg x4.toInt8.toInt32.toInt8.toInt32), E1))))) := (pEg m21 (d := 1) 23 _ _ _ _).trans rfl
set_option maxRecDepth 100000 in
set_option maxHeartbeats 4000000 in
theorem e_Fo_agreed (x1 : Int32) (x2 : Int32) (D : pD) (E : pDL) : Fo_agreed x1 x2 D E = (Fo_agreed_8 x1 x2 (-1 : Int32) (0 : Int32) (0 : Int32) D E) := (pEg m22 (d := 2) 11 _ _ _ _).trans rfl
set_option maxRecDepth 100000 in
set_option maxHeartbeats 4000000 in
theorem e_Ye_latestOf (x1 : Int32) (D : pD) (E : pDL) : Ye_latestOf x1 D E = (Ye_latestOf_4 x1 (0 : Int32) (0 : Int32) D E) := (pEg m96 (d := 0) 9 _ _ _ _).trans rfl
set_option maxRecDepth 100000 in
set_option maxHeartbeats 4000000 in
theorem e_Ye_isFull (D : pD) (E : pDL) : Ye_isFull  D E = (if (D 59 0 6) < (40 : Int32) then (some (some (.inl (0 : Int32)), D, E)) else (some (some (.inl (1 : Int32)), D, E))) := (pEg m95 (d := 0) 14 _ _ _ _).trans rfl
set_option maxRecDepth 100000 in
set_option maxHeartbeats 4000000 in
theorem e_Ye_append (x1 : Int32) (x2 : Int32) (x3 : Int32) (D : pD) (E : pDL) : Ye_append x1 x2 x3 D E = (if (40 : Int32) ≤ (D 59 0 6) then (some (some (.inl (D 59 0 6)), D, E)) else (if (D 59 0 6) < 0 ∨ 40 ≤ (D 59 0 6).toNatClampNeg then none else (if (D 59 0 6) < 0 ∨ 40 ≤ (D 59 0 6).toNatClampNeg then none else (if (D 59 0 6) < 0 ∨ 40 ≤ (D 59 0 6).toNatClampNeg then none else (some (some (.inl ((D 59 0 6) + (1 : Int32))), (dset (dset (dset (dset D 60 0 (D 59 0 6).toNatClampNeg x1) 61 0 (D 59 0 6).toNatClampNeg x2) 62 0 (D 59 0 6).toNatClampNeg x3) 59 0 6 ((D 59 0 6) + (1 : Int32))), E)))))) := (pEg m97 (d := 0) 39 _ _ _ _).trans rfl
set_option maxRecDepth 100000 in
set_option maxHeartbeats 4000000 in
theorem e_Hb_isYear (x0 : Int32) (D : pD) (E : pDL) : Hb_isYear x0 D E = (if x0 < 0 then (some (some (.inl (0 : Int32)), D, E)) else (if (2000 : Int32) < x0 then (some (some (.inl (0 : Int32)), D, E)) else (some (some (.inl (1 : Int32)), D, E)))) := (pEg m138 (d := 0) 17 _ _ _ _).trans rfl
set_option maxRecDepth 100000 in
set_option maxHeartbeats 4000000 in
theorem e_Ye_wordsIn (x1 : Int32) (D : pD) (E : pDL) : Ye_wordsIn x1 D E = (Ye_wordsIn_20 x1 (0 : Int32) (dcpy D 9 0 63 0 20) E) := (pEg m98 (d := 0) 16 _ _ _ _).trans rfl
set_option maxRecDepth 100000 in
set_option maxHeartbeats 4000000 in
theorem e_Rn_lostOfAll_years_words (D : pD) (E : pDL) : Rn_lostOfAll_years_words  D E = (Rn_lostOfAll_years_words_4 (0 : Int32) (0 : Int32) D E) := (pEg m66 (d := 4) 9 _ _ _ _).trans rfl
set_option maxRecDepth 100000 in
set_option maxHeartbeats 4000000 in
theorem e_Ye_turns (x2 : Int32) (D : pD) (E : pDL) : Ye_turns x2 D E = (pB2 (Ye_wordsIn (x2 - (1 : Int32)) D E) 63 fun D1 E1 => (Ye_turns_years_words_11 x2 (0 : Int32) D1 E1)) := (pEg m99 (d := 4) 13 _ _ _ _).trans rfl
set_option maxRecDepth 100000 in
set_option maxHeartbeats 4000000 in
theorem e_Ye_firstAbove (x2 : Int32) (D : pD) (E : pDL) : Ye_firstAbove x2 D E = (pB2 (Ye_wordsIn (0 : Int32) D E) 63 fun D1 E1 => (pB1 (Rn_lostOfAll_years_words D1 E1) fun y2 D2 E2 => (if y2 ≤ x2 then (Ye_firstAbove_20 x2 (-1 : Int32) (0 : Int32) D2 E2) else (some (some (.inl (0 : Int32)), D2, E2))))) := (pEg m100 (d := 5) 18 _ _ _ _).trans rfl
set_option maxRecDepth 100000 in
set_option maxHeartbeats 4000000 in
theorem e_La_mayTell (x1 : Int32) (x2 : Int32) (D : pD) (E : pDL) : La_mayTell x1 x2 D E = (if x1 < (D 65 0 11) then (some (some (.inl (0 : Int32)), D, E)) else (if (999 : Int32) < x1 then (some (some (.inl (0 : Int32)), D, E)) else (if x2 < 0 then (some (some (.inl (0 : Int32)), D, E)) else (if (1 : Int32) < x2 then (some (some (.inl (0 : Int32)), D, E)) else (some (some (.inl (1 : Int32)), D, E)))))) := (pEg m25 (d := 0) 28 _ _ _ _).trans rfl
set_option maxRecDepth 100000 in
set_option maxHeartbeats 4000000 in
theorem e_La_isFull (D : pD) (E : pDL) : La_isFull  D E = (if (D 65 0 12) < (30 : Int32) then (some (some (.inl (0 : Int32)), D, E)) else (some (some (.inl (1 : Int32)), D, E))) := (pEg m26 (d := 0) 14 _ _ _ _).trans rfl
set_option maxRecDepth 100000 in
set_option maxHeartbeats 4000000 in
theorem e_La_append (x1 : Int32) (x2 : Int32) (x3 : Int32) (x4 : Int32) (D : pD) (E : pDL) : La_append x1 x2 x3 x4 D E = (if (30 : Int32) ≤ (D 65 0 12) then (some (some (.inl (D 65 0 12)), D, E)) else (if (D 65 0 12) < 0 ∨ 30 ≤ (D 65 0 12).toNatClampNeg then none else (if (D 65 0 12) < 0 ∨ 30 ≤ (D 65 0 12).toNatClampNeg then none else (if (D 65 0 12) < 0 ∨ 30 ≤ (D 65 0 12).toNatClampNeg then none else (if (D 65 0 12) < 0 ∨ 30 ≤ (D 65 0 12).toNatClampNeg then none else (if (D 65 0 12) < 0 ∨ 30 ≤ (D 65 0 12).toNatClampNeg then none else (some (some (.inl (D 65 0 12)), (dset (dset (dset (dset (dset (dset (dset D 66 0 (D 65 0 12).toNatClampNeg x2) 67 0 (D 65 0 12).toNatClampNeg x3) 68 0 (D 65 0 12).toNatClampNeg x4) 69 0 (D 65 0 12).toNatClampNeg x1) 70 0 (D 65 0 12).toNatClampNeg (0 : Int32)) 65 0 11 x1) 65 0 12 ((D 65 0 12) + (1 : Int32))), E)))))))) := (pEg m28 (d := 0) 49 _ _ _ _).trans rfl
set_option maxRecDepth 100000 in
set_option maxHeartbeats 4000000 in
theorem e_La_isFullOfRights (D : pD) (E : pDL) : La_isFullOfRights  D E = (if (D 65 0 13) < (20 : Int32) then (some (some (.inl (0 : Int32)), D, E)) else (some (some (.inl (1 : Int32)), D, E))) := (pEg m27 (d := 0) 14 _ _ _ _).trans rfl
set_option maxRecDepth 100000 in
set_option maxHeartbeats 4000000 in
theorem e_La_putRight (x1 : Int32) (x2 : Int32) (x3 : Int32) (D : pD) (E : pDL) : La_putRight x1 x2 x3 D E = (if (20 : Int32) ≤ (D 65 0 13) then (if x2 < 0 ∨ 30 ≤ x2.toNatClampNeg then none else (some (some (.inl (D 70 0 x2.toNatClampNeg)), D, E))) else (if (D 65 0 13) < 0 ∨ 20 ≤ (D 65 0 13).toNatClampNeg then none else (if (D 65 0 13) < 0 ∨ 20 ≤ (D 65 0 13).toNatClampNeg then none else (if (D 65 0 13) < 0 ∨ 20 ≤ (D 65 0 13).toNatClampNeg then none else (if x2 < 0 ∨ 30 ≤ x2.toNatClampNeg then none else (if x2 < 0 ∨ 30 ≤ x2.toNatClampNeg then none else (if x2 < 0 ∨ 30 ≤ x2.toNatClampNeg then none else (some (some (.inl ((dset (dset (dset (dset (dset D 71 0 (D 65 0 13).toNatClampNeg x2) 72 0 (D 65 0 13).toNatClampNeg x3) 73 0 (D 65 0 13).toNatClampNeg x1) 65 0 11 x1) 70 0 x2.toNatClampNeg ((D 70 0 x2.toNatClampNeg) + (1 : Int32))) 70 0 x2.toNatClampNeg)), (dset (dset (dset (dset (dset (dset D 71 0 (D 65 0 13).toNatClampNeg x2) 72 0 (D 65 0 13).toNatClampNeg x3) 73 0 (D 65 0 13).toNatClampNeg x1) 65 0 11 x1) 70 0 x2.toNatClampNeg ((D 70 0 x2.toNatClampNeg) + (1 : Int32))) 65 0 13 ((D 65 0 13) + (1 : Int32))), E))))))))) := (pEg m29 (d := 0) 54 _ _ _ _).trans rfl
set_option maxRecDepth 100000 in
set_option maxHeartbeats 4000000 in
theorem e_Hb_isStep (x0 : Int32) (D : pD) (E : pDL) : Hb_isStep x0 D E = (if x0 < 0 then (some (some (.inl (0 : Int32)), D, E)) else (if (999 : Int32) < x0 then (some (some (.inl (0 : Int32)), D, E)) else (some (some (.inl (1 : Int32)), D, E)))) := (pEg m144 (d := 0) 17 _ _ _ _).trans rfl
set_option maxRecDepth 100000 in
set_option maxHeartbeats 4000000 in
theorem e_La_gather (x1 : Int32) (x2 : Int32) (D : pD) (E : pDL) : La_gather x1 x2 D E = (La_gather_17 x1 x2 (0 : Int32) (dcpy D 68 0 74 0 30) E) := (pEg m30 (d := 1) 15 _ _ _ _).trans rfl
set_option maxRecDepth 100000 in
set_option maxHeartbeats 4000000 in
theorem e_La_setsWith (x1 : Int32) (D : pD) (E : pDL) : La_setsWith x1 D E = (La_setsWith_4 x1 (0 : Int32) (0 : Int32) D E) := (pEg m32 (d := 0) 9 _ _ _ _).trans rfl
set_option maxRecDepth 100000 in
set_option maxHeartbeats 4000000 in
theorem e_Hb_next_35 (x2 : Int32) (x3 : Int32) (x4 : Int32) (x5 : Int32) (D : pD) (E : pDL) : Hb_next_35 x2 x3 x4 x5 D E = (if (D 4 0 2) ≤ x5 then (some (some (.inl x4), D, E)) else (pB1 (Rn_isChosen x5 D E) fun y1 D1 E1 => (if y1 = 0 then (Hb_next_35 x2 x3 x4 (x5 + (1 : Int32)) D1 E1) else (pB1 (Rn_traitsAt_held_wordTraits x5 D1 E1) fun y2 D2 E2 => (pB1 (La_setsWithin y2 D2 E2) fun y3 D3 E3 => (if x3 ≤ (if y3 < (x2 - y3) then (x2 - y3) else y3) then (Hb_next_35 x2 x3 x4 (x5 + (1 : Int32)) D3 E3) else (Hb_next_35 x2 (if y3 < (x2 - y3) then (x2 - y3) else y3) x5 (x5 + (1 : Int32)) D3 E3))))))) := (pEg m143 (d := 2) 49 _ _ _ _).trans rfl
set_option maxRecDepth 100000 in
set_option maxHeartbeats 4000000 in
theorem e_Rn_chosen (D : pD) (E : pDL) : Rn_chosen  D E = (Rn_chosen_4 (0 : Int32) (0 : Int32) D E) := (pEg m61 (d := 1) 9 _ _ _ _).trans rfl
set_option maxRecDepth 100000 in
set_option maxHeartbeats 4000000 in
theorem e_Mo_feed_19 (x1 : Int32) (x2 : Int32) (x3 : Int32) (x4 : Int32) (x5 : Int32) (x6 : Int32) (D : pD) (E : pDL) : Mo_feed_19 x1 x2 x3 x4 x5 x6 D E = (if (5 : Int32) ≤ x6 then (some (some (.inl (D 100 0 1)), D, E)) else (if x6 = 0 then (Mo_feed_73 x1 x2 x3 x4 x5 x6 x1 (24 : Int32) D E) else (if x6 = (1 : Int32) then (Mo_feed_73 x1 x2 x3 x4 x5 x6 x2 (24 : Int32) D E) else (if x6 = (2 : Int32) then (Mo_feed_73 x1 x2 x3 x4 x5 x6 x3 (24 : Int32) D E) else (if x6 = (3 : Int32) then (Mo_feed_73 x1 x2 x3 x4 x5 x6 x4 (24 : Int32) D E) else (Mo_feed_73 x1 x2 x3 x4 x5 x6 x5 (24 : Int32) D E)))))) := (pEg m147 (d := 0) 46 _ _ _ _).trans rfl
set_option maxRecDepth 100000 in
set_option maxHeartbeats 4000000 in
theorem e_Mo_scan (D : pD) (E : pDL) : Mo_scan  D E = (Mo_scan_5 (D 100 0 6) D E) := (pEg m153 (d := 2) 8 _ _ _ _).trans rfl
set_option maxRecDepth 100000 in
set_option maxHeartbeats 4000000 in
theorem e_Mo_begin (D : pD) (E : pDL) : Mo_begin  D E = (Mo_begin_2 (0 : Int32) D E) := (pEg m159 (d := 0) 7 _ _ _ _).trans rfl
set_option maxRecDepth 100000 in
set_option maxHeartbeats 4000000 in
theorem e_Mo_book_38 (x1 : Int32) (D : pD) (E : pDL) : Mo_book_38 x1 D E = (if (D 100 0 3) = (5 : Int32) then (pB0 (Mo_settle D E) fun D1 E1 => (some (some (.inl x1), D1, E1))) else (pB1 (Mo_readClause D E) fun y2 D2 E2 => (if y2 = 0 then (some (some (.inl (-1 : Int32)), D2, E2)) else (if (D2 100 0 3) = (3 : Int32) then (pB0 (Mo_scan D2 E2) fun D3 E3 => (Mo_book_38 (x1 + (1 : Int32)) D3 E3)) else (pB1 (Mo_fails (1 : Int32) D2 E2) fun y4 D4 E4 => (some (some (.inl (-1 : Int32)), D4, E4))))))) := (pEg m170 (d := 6) 32 _ _ _ _).trans rfl
set_option maxRecDepth 100000 in
set_option maxHeartbeats 4000000 in
theorem e_Mo_in (x0 : Int32) (x1 : Int32) (x2 : Int32) (D : pD) (E : pDL) : Mo_in x0 x1 x2 D E = (if x0 < x1 then (some (some (.inl (0 : Int32)), D, E)) else (if x2 < x0 then (some (some (.inl (0 : Int32)), D, E)) else (some (some (.inl (1 : Int32)), D, E)))) := (pEg m146 (d := 0) 18 _ _ _ _).trans rfl
set_option maxRecDepth 100000 in
set_option maxHeartbeats 4000000 in
theorem e_Mo_isHearer (x1 : Int32) (D : pD) (E : pDL) : Mo_isHearer x1 D E = (pB1 (Mo_in x1 (0 : Int32) ((D 102 0 4) - (1 : Int32)) D E) fun y1 D1 E1 => (if y1 &&& 1 = y1 then some (some (.inl y1), D1, E1) else none)) := (pEg m176 (d := 1) 15 _ _ _ _).trans rfl
set_option maxRecDepth 100000 in
set_option maxHeartbeats 4000000 in
theorem e_Mo_isTie (x1 : Int32) (D : pD) (E : pDL) : Mo_isTie x1 D E = (pB1 (Mo_in x1 (0 : Int32) ((D 102 0 3) - (1 : Int32)) D E) fun y1 D1 E1 => (if y1 &&& 1 = y1 then some (some (.inl y1), D1, E1) else none)) := (pEg m175 (d := 1) 15 _ _ _ _).trans rfl
set_option maxRecDepth 100000 in
set_option maxHeartbeats 4000000 in
theorem e_Mo_isPlace (x1 : Int32) (D : pD) (E : pDL) : Mo_isPlace x1 D E = (pB1 (Mo_in x1 (0 : Int32) ((D 102 0 2) - (1 : Int32)) D E) fun y1 D1 E1 => (if y1 &&& 1 = y1 then some (some (.inl y1), D1, E1) else none)) := (pEg m174 (d := 1) 15 _ _ _ _).trans rfl
set_option maxRecDepth 100000 in
set_option maxHeartbeats 4000000 in
theorem e_Mo_isWord (x1 : Int32) (D : pD) (E : pDL) : Mo_isWord x1 D E = (pB1 (Mo_in x1 (0 : Int32) ((D 102 0 1) - (1 : Int32)) D E) fun y1 D1 E1 => (if y1 &&& 1 = y1 then some (some (.inl y1), D1, E1) else none)) := (pEg m173 (d := 1) 15 _ _ _ _).trans rfl
set_option maxRecDepth 100000 in
set_option maxHeartbeats 4000000 in
theorem e_Mo_isNotion (x1 : Int32) (D : pD) (E : pDL) : Mo_isNotion x1 D E = (pB1 (Mo_in x1 (0 : Int32) ((D 102 0 0) - (1 : Int32)) D E) fun y1 D1 E1 => (if y1 &&& 1 = y1 then some (some (.inl y1), D1, E1) else none)) := (pEg m172 (d := 1) 15 _ _ _ _).trans rfl
set_option maxRecDepth 100000 in
set_option maxHeartbeats 4000000 in
theorem e_Mo_choose_36 (x1 : Int32) (x2 : Int32) (x3 : Int32) (x4 : Int32) (x5 : Int32) (D : pD) (E : pDL) : Mo_choose_36 x1 x2 x3 x4 x5 D E = (if x2 = (1 : Int32) then (pB1 (Mo_isWord x4 D E) fun y1 D1 E1 => (if y1 = 0 then (some (some (.inl (-2 : Int32)), D1, E1)) else (if x2 = (1 : Int32) then (if x3 = x4 then (some (some (.inl (-2 : Int32)), D1, E1)) else (Mo_choose_69 x1 x2 x3 x4 x5 D1 E1)) else (Mo_choose_69 x1 x2 x3 x4 x5 D1 E1)))) else (if x2 = (2 : Int32) then (pB1 (Mo_isWord x4 D E) fun y2 D2 E2 => (if y2 = 0 then (some (some (.inl (-2 : Int32)), D2, E2)) else (if x2 = (1 : Int32) then (if x3 = x4 then (some (some (.inl (-2 : Int32)), D2, E2)) else (Mo_choose_69 x1 x2 x3 x4 x5 D2 E2)) else (Mo_choose_69 x1 x2 x3 x4 x5 D2 E2)))) else (if x2 = (1 : Int32) then (if x3 = x4 then (some (some (.inl (-2 : Int32)), D, E)) else (Mo_choose_69 x1 x2 x3 x4 x5 D E)) else (Mo_choose_69 x1 x2 x3 x4 x5 D E)))) := (pEg m187 (d := 4) 47 _ _ _ _).trans rfl
set_option maxRecDepth 100000 in
set_option maxHeartbeats 4000000 in
theorem e_Mo_had (x1 : Int32) (x2 : Int32) (D : pD) (E : pDL) : Mo_had x1 x2 D E = (if x1 < 0 ∨ 24 ≤ x1.toNatClampNeg then none else (if (D 115 0 x1.toNatClampNeg) = (-1 : Int32) then (some (some (.inl (0 : Int32)), D, E)) else (if x1 < 0 ∨ 24 ≤ x1.toNatClampNeg then none else (if (D 115 0 x1.toNatClampNeg) = (3 : Int32) then (some (some (.inl (0 : Int32)), D, E)) else (if x1 < 0 ∨ 24 ≤ x1.toNatClampNeg then none else (pB1 (Mo_traitsOf (D 116 0 x1.toNatClampNeg) x2 D E) fun y1 D1 E1 => (if x1 < 0 ∨ 24 ≤ x1.toNatClampNeg then none else (if (D1 115 0 x1.toNatClampNeg) = 0 then (some (some (.inl y1), D1, E1)) else (if x1 < 0 ∨ 24 ≤ x1.toNatClampNeg then none else (pB1 (Mo_traitsOf (D1 117 0 x1.toNatClampNeg) x2 D1 E1) fun y2 D2 E2 => (if x1 < 0 ∨ 24 ≤ x1.toNatClampNeg then none else (if (D2 115 0 x1.toNatClampNeg) = (2 : Int32) then (if x1 < 0 ∨ 24 ≤ x1.toNatClampNeg then none else (if (D2 118 0 x1.toNatClampNeg) = (-1 : Int32) then (some (some (.inl (y1 ||| y2)), D2, E2)) else (if x1 < 0 ∨ 24 ≤ x1.toNatClampNeg then none else (pB1 (Mo_traitsOf (D2 118 0 x1.toNatClampNeg) x2 D2 E2) fun y3 D3 E3 => (some (some (.inl ((y1 ||| y2) ||| y3)), D3, E3)))))) else (some (some (.inl (y1 ||| y2)), D2, E2)))))))))))))) := (pEg m181 (d := 1) 73 _ _ _ _).trans rfl
set_option maxRecDepth 100000 in
set_option maxHeartbeats 4000000 in
theorem e_Mo_lackAt (x1 : Int32) (x2 : Int32) (D : pD) (E : pDL) : Mo_lackAt x1 x2 D E = (if x1 < 0 ∨ 48 ≤ x1.toNatClampNeg then none else (pB1 (Mo_had x1 x2 D E) fun y1 D1 E1 => (some (some (.inl ((D 108 0 x1.toNatClampNeg) &&& (y1 ^^^ (-1 : Int32)))), D1, E1)))) := (pEg m182 (d := 2) 17 _ _ _ _).trans rfl
set_option maxRecDepth 100000 in
set_option maxHeartbeats 4000000 in
theorem e_Mo_addAt (x1 : Int32) (x2 : Int32) (D : pD) (E : pDL) : Mo_addAt x1 x2 D E = (pB1 (Mo_had x1 x2 D E) fun y1 D1 E1 => (if x1 < 0 ∨ 48 ≤ x1.toNatClampNeg then none else (if (D1 107 0 x1.toNatClampNeg) < 0 ∨ 24 ≤ (D1 107 0 x1.toNatClampNeg).toNatClampNeg then none else (some (some (.inl (y1 &&& ((D1 105 0 (D1 107 0 x1.toNatClampNeg).toNatClampNeg) ^^^ (-1 : Int32)))), D1, E1))))) := (pEg m183 (d := 2) 20 _ _ _ _).trans rfl
set_option maxRecDepth 100000 in
set_option maxHeartbeats 4000000 in
theorem e_Mo_lostAt (x1 : Int32) (x2 : Int32) (D : pD) (E : pDL) : Mo_lostAt x1 x2 D E = (if x1 < 0 ∨ 24 ≤ x1.toNatClampNeg then none else (if (D 115 0 x1.toNatClampNeg) = (-1 : Int32) then (some (some (.inl (0 : Int32)), D, E)) else (if x1 < 0 ∨ 24 ≤ x1.toNatClampNeg then none else (if (D 115 0 x1.toNatClampNeg) = (1 : Int32) then (Mo_lostAt_55 x1 x2 (1 : Int32) D E) else (if x1 < 0 ∨ 24 ≤ x1.toNatClampNeg then none else (if (D 115 0 x1.toNatClampNeg) = (2 : Int32) then (if x1 < 0 ∨ 24 ≤ x1.toNatClampNeg then none else (if (D 118 0 x1.toNatClampNeg) = (-1 : Int32) then (Mo_lostAt_55 x1 x2 (1 : Int32) D E) else (Mo_lostAt_55 x1 x2 (2 : Int32) D E))) else (Mo_lostAt_55 x1 x2 (0 : Int32) D E))))))) := (pEg m184 (d := 3) 38 _ _ _ _).trans rfl
set_option maxRecDepth 100000 in
set_option maxHeartbeats 4000000 in
theorem e_Mo_notedAll (D : pD) (E : pDL) : Mo_notedAll  D E = (Mo_notedAll_4 (0 : Int32) (0 : Int32) D E) := (pEg m192 (d := 1) 9 _ _ _ _).trans rfl
set_option maxRecDepth 100000 in
set_option maxHeartbeats 4000000 in
theorem e_Mo_bits (x0 : Int32) (D : pD) (E : pDL) : Mo_bits x0 D E = (Mo_bits_4 (0 : Int32) x0 D E) := (pEg m191 (d := 0) 9 _ _ _ _).trans rfl
set_option maxRecDepth 100000 in
set_option maxHeartbeats 4000000 in
theorem e_Mo_lostAll (x1 : Int32) (D : pD) (E : pDL) : Mo_lostAll x1 D E = (Mo_lostAll_4 x1 (0 : Int32) (0 : Int32) D E) := (pEg m185 (d := 4) 9 _ _ _ _).trans rfl
set_option maxRecDepth 100000 in
set_option maxHeartbeats 4000000 in
theorem e_Mo_clashes_4 (x1 : Int32) (x2 : Int32) (D : pD) (E : pDL) : Mo_clashes_4 x1 x2 D E = (if (D 102 0 3) ≤ x2 then (some (some (.inl x1), D, E)) else (pB1 (Mo_isClash x2 D E) fun y1 D1 E1 => (if y1 = 0 then (Mo_clashes_4 (x1 ||| (0 : Int32)) (x2 + (1 : Int32)) D1 E1) else (Mo_clashes_4 (x1 ||| ((1 : Int32) <<< (x2 &&& 31))) (x2 + (1 : Int32)) D1 E1)))) := (pEg m196 (d := 3) 31 _ _ _ _).trans rfl
set_option maxRecDepth 100000 in
set_option maxHeartbeats 4000000 in
theorem e_Mo_bound_17 (x2 : Int32) (x3 : Int32) (D : pD) (E : pDL) : Mo_bound_17 x2 x3 D E = (if x3 = x2 then (some (some (.inl x2), D, E)) else (Mo_bound_27 x2 x2 (0 : Int32) D E)) := (pEg m197 (d := 2) 14 _ _ _ _).trans rfl
set_option maxRecDepth 100000 in
set_option maxHeartbeats 4000000 in
theorem e_Mo_best_4 (x1 : Int32) (x2 : Int32) (x3 : Int32) (D : pD) (E : pDL) : Mo_best_4 x1 x2 x3 D E = (if (32 : Int32) ≤ x3 then (if x2 = 0 then (some (some (.inl (-2 : Int32)), D, E)) else (Mo_best_65 x1 x2 (1 : Int32) (0 : Int32) D E)) else (if ((x1 >>> (x3 &&& 31)) &&& (1 : Int32)) = 0 then (Mo_best_4 x1 x2 (x3 + (1 : Int32)) D E) else (pB1 (Mo_isPlace x3 D E) fun y1 D1 E1 => (if y1 = 0 then (some (some (.inl (-2 : Int32)), D1, E1)) else (if x2 = (4 : Int32) then (some (some (.inl (-2 : Int32)), D1, E1)) else (if x2 < 0 ∨ 4 ≤ x2.toNatClampNeg then none else (Mo_best_4 x1 (x2 + (1 : Int32)) (x3 + (1 : Int32)) (dset D1 120 0 x2.toNatClampNeg x3) E1))))))) := (pEg m200 (d := 5) 44 _ _ _ _).trans rfl
set_option maxRecDepth 100000 in
set_option maxHeartbeats 4000000 in
theorem e_Mo_exchange_4 (x1 : Int32) (x2 : Int32) (D : pD) (E : pDL) : Mo_exchange_4 x1 x2 D E = (if (10 : Int32) ≤ x2 then (pB1 (Mo_lostAll (-1 : Int32) D E) fun y1 D1 E1 => (some (some (.inl y1), D1, E1))) else (if x1 = 0 then (pB1 (Mo_lostAll (-1 : Int32) D E) fun y2 D2 E2 => (some (some (.inl y2), D2, E2))) else (Mo_exchange_18 (0 : Int32) x2 (0 : Int32) D E))) := (pEg m203 (d := 6) 22 _ _ _ _).trans rfl
set_option maxRecDepth 100000 in
set_option maxHeartbeats 4000000 in
theorem e_Mo_oneOf (x1 : Int32) (D : pD) (E : pDL) : Mo_oneOf x1 D E = (Mo_oneOf_4 x1 (-1 : Int32) (0 : Int32) D E) := (pEg m206 (d := 3) 9 _ _ _ _).trans rfl
set_option maxRecDepth 100000 in
set_option maxHeartbeats 4000000 in
theorem e_Mo_plainSum (x1 : Int32) (x2 : Int32) (D : pD) (E : pDL) : Mo_plainSum x1 x2 D E = (Mo_plainSum_5 x1 x2 (0 : Int32) (0 : Int32) D E) := (pEg m205 (d := 2) 9 _ _ _ _).trans rfl
set_option maxRecDepth 100000 in
set_option maxHeartbeats 4000000 in
theorem e_Mo_price_34 (x1 : Int32) (x3 : Int32) (x4 : Int32) (D : pD) (E : pDL) : Mo_price_34 x1 x3 x4 D E = (if (D 102 0 2) ≤ x4 then (some (some (.inl x3), D, E)) else (if x4 < 0 ∨ 48 ≤ x4.toNatClampNeg then none else (if (D 107 0 x4.toNatClampNeg) = x1 then (pB1 (Mo_plainAt x4 (0 : Int32) D E) fun y1 D1 E1 => (Mo_price_71 x1 x3 x4 y1 (1 : Int32) D1 E1)) else (Mo_price_34 x1 x3 (x4 + (1 : Int32)) D E)))) := (pEg m208 (d := 4) 29 _ _ _ _).trans rfl
set_option maxRecDepth 100000 in
set_option maxHeartbeats 4000000 in
theorem e_Mo_swap_15 (x1 : Int32) (x2 : Int32) (x3 : Int32) (D : pD) (E : pDL) : Mo_swap_15 x1 x2 x3 D E = (if (D 102 0 2) ≤ x3 then (Mo_swap_56 x2 (0 : Int32) D E) else (if x3 < 0 ∨ 48 ≤ x3.toNatClampNeg then none else (if (D 107 0 x3.toNatClampNeg) = x1 then (if x3 < 0 ∨ 48 ≤ x3.toNatClampNeg then none else (Mo_swap_15 x1 (x2 ||| (D 108 0 x3.toNatClampNeg)) (x3 + (1 : Int32)) D E)) else (Mo_swap_15 x1 (x2 ||| (0 : Int32)) (x3 + (1 : Int32)) D E)))) := (pEg m209 (d := 2) 34 _ _ _ _).trans rfl
set_option maxRecDepth 100000 in
set_option maxHeartbeats 4000000 in
theorem e_Mo_mend_15 (x1 : Int32) (x2 : Int32) (D : pD) (E : pDL) : Mo_mend_15 x1 x2 D E = (if x1 ≤ x2 then (some (some (.inl x2), D, E)) else (pB1 (Mo_notedAll D E) fun y1 D1 E1 => (if (D1 102 0 9) ≤ y1 then (some (some (.inl x2), D1, E1)) else (Mo_mend_42 x1 x2 (-1 : Int32) (0 : Int32) (0 : Int32) D1 E1)))) := (pEg m210 (d := 3) 25 _ _ _ _).trans rfl
set_option maxRecDepth 100000 in
set_option maxHeartbeats 4000000 in
theorem e_Mo_isAsked (x1 : Int32) (x2 : Int32) (D : pD) (E : pDL) : Mo_isAsked x1 x2 D E = (pB1 (Mo_isHearer x1 D E) fun y1 D1 E1 => (if y1 = 0 then (some (some (.inl (0 : Int32)), D1, E1)) else (pB1 (Mo_isPlace x2 D1 E1) fun y2 D2 E2 => (if y2 = 0 then (some (some (.inl (0 : Int32)), D2, E2)) else (some (some (.inl (1 : Int32)), D2, E2)))))) := (pEg m214 (d := 2) 20 _ _ _ _).trans rfl
set_option maxRecDepth 100000 in
set_option maxHeartbeats 4000000 in
theorem e_Mo_heardBy (x1 : Int32) (x2 : Int32) (D : pD) (E : pDL) : Mo_heardBy x1 x2 D E = (pB1 (Mo_had x2 (-1 : Int32) D E) fun y1 D1 E1 => (if x2 < 0 ∨ 24 ≤ x2.toNatClampNeg then none else (if x1 < 0 ∨ 12 ≤ x1.toNatClampNeg then none else (some (some (.inl ((y1 ||| (D1 119 0 x2.toNatClampNeg)) &&& (D1 112 0 x1.toNatClampNeg))), D1, E1))))) := (pEg m211 (d := 2) 20 _ _ _ _).trans rfl
set_option maxRecDepth 100000 in
set_option maxHeartbeats 4000000 in
theorem e_Mo_backOf (x1 : Int32) (D : pD) (E : pDL) : Mo_backOf x1 D E = (Mo_backOf_7 x1 (-1 : Int32) (0 : Int32) (0 : Int32) D E) := (pEg m212 (d := 1) 11 _ _ _ _).trans rfl
set_option maxRecDepth 100000 in
set_option maxHeartbeats 4000000 in
theorem e_Mo_isLaugh (x1 : Int32) (x2 : Int32) (D : pD) (E : pDL) : Mo_isLaugh x1 x2 D E = (if x1 < 0 ∨ 12 ≤ x1.toNatClampNeg then none else (if (D 113 0 x1.toNatClampNeg) = 0 then (some (some (.inl (0 : Int32)), D, E)) else (if x1 < 0 ∨ 12 ≤ x1.toNatClampNeg then none else (if ((D 113 0 x1.toNatClampNeg) &&& (x2 ^^^ (-1 : Int32))) = 0 then (some (some (.inl (1 : Int32)), D, E)) else (some (some (.inl (0 : Int32)), D, E)))))) := (pEg m213 (d := 0) 26 _ _ _ _).trans rfl
set_option maxRecDepth 100000 in
set_option maxHeartbeats 4000000 in
theorem e_Mo_hitsOf (x1 : Int32) (D : pD) (E : pDL) : Mo_hitsOf x1 D E = (Mo_hitsOf_4 x1 (0 : Int32) (0 : Int32) D E) := (pEg m218 (d := 3) 9 _ _ _ _).trans rfl
set_option maxRecDepth 100000 in
set_option maxHeartbeats 4000000 in
theorem e_Mo_on_58 (x2 : Int32) (x4 : Int32) (x5 : Int32) (x6 : Int32) (x7 : Int32) (D : pD) (E : pDL) : Mo_on_58 x2 x4 x5 x6 x7 D E = (if (D 102 0 1) ≤ x7 then (if x5 = (-1 : Int32) then (pB1 (Mo_backOf (0 : Int32) D E) fun y1 D1 E1 => (some (some (.inl y1), D1, E1))) else (if x5 < 0 ∨ 40 ≤ x5.toNatClampNeg then none else (if x2 < 0 ∨ 12 ≤ x2.toNatClampNeg then none else (pB1 (Mo_backOf ((D 106 0 x5.toNatClampNeg) &&& (D 112 0 x2.toNatClampNeg)) D E) fun y2 D2 E2 => (some (some (.inl y2), D2, E2)))))) else (if x7 < 0 ∨ 40 ≤ x7.toNatClampNeg then none else (pB1 (Mo_weigh (x4 &&& ((D 106 0 x7.toNatClampNeg) ^^^ (-1 : Int32))) D E) fun y3 D3 E3 => (if x7 < 0 ∨ 40 ≤ x7.toNatClampNeg then none else (pB1 (Mo_weigh ((D3 106 0 x7.toNatClampNeg) &&& (x4 ^^^ (-1 : Int32))) D3 E3) fun y4 D4 E4 => (if x5 = (-1 : Int32) then (Mo_on_58 x2 x4 x7 (((D 102 0 5) * y3) + ((D3 102 0 6) * y4)) (x7 + (1 : Int32)) D4 E4) else (if (((D 102 0 5) * y3) + ((D3 102 0 6) * y4)) < x6 then (Mo_on_58 x2 x4 x7 (((D 102 0 5) * y3) + ((D3 102 0 6) * y4)) (x7 + (1 : Int32)) D4 E4) else (Mo_on_58 x2 x4 x5 x6 (x7 + (1 : Int32)) D4 E4)))))))) := (pEg m220 (d := 3) 83 _ _ _ _).trans rfl
set_option maxRecDepth 100000 in
set_option maxHeartbeats 4000000 in
theorem e_Mo_isSlot (x0 : Int32) (D : pD) (E : pDL) : Mo_isSlot x0 D E = (pB1 (Mo_in x0 (0 : Int32) (3 : Int32) D E) fun y1 D1 E1 => (if y1 &&& 1 = y1 then some (some (.inl y1), D1, E1) else none)) := (pEg m223 (d := 1) 10 _ _ _ _).trans rfl
set_option maxRecDepth 100000 in
set_option maxHeartbeats 4000000 in
theorem e_Mo_store (x1 : Int32) (D : pD) (E : pDL) : Mo_store x1 D E = (Mo_store_2 x1 (0 : Int32) D E) := (pEg m221 (d := 0) 7 _ _ _ _).trans rfl
set_option maxRecDepth 100000 in
set_option maxHeartbeats 4000000 in
theorem e_Mo_load (x1 : Int32) (D : pD) (E : pDL) : Mo_load x1 D E = (Mo_load_2 x1 (0 : Int32) D E) := (pEg m222 (d := 0) 7 _ _ _ _).trans rfl
set_option maxRecDepth 100000 in
set_option maxHeartbeats 4000000 in
theorem e_Mo_cellOf (x0 : Int32) (x1 : Int32) (x2 : Int32) (D : pD) (E : pDL) : Mo_cellOf x0 x1 x2 D E = (some (some (.inl ((((x0 * (24 : Int32)) + x1) * (20 : Int32)) + x2)), D, E)) := (pEg m227 (d := 0) 15 _ _ _ _).trans rfl
set_option maxRecDepth 100000 in
set_option maxHeartbeats 4000000 in
theorem e_Mo_agree_18 (x1 : Int32) (x2 : Int32) (x3 : Int32) (x4 : Int32) (D : pD) (E : pDL) : Mo_agree_18 x1 x2 x3 x4 D E = (if (D 102 0 1) ≤ x4 then (some (some (.inl x2), D, E)) else (Mo_agree_38 x1 x2 x3 x4 (0 : Int32) (0 : Int32) (0 : Int32) D E)) := (pEg m229 (d := 2) 19 _ _ _ _).trans rfl
set_option maxRecDepth 100000 in
set_option maxHeartbeats 4000000 in
theorem e_Mo_moves_36 (x1 : Int32) (x2 : Int32) (x3 : Int32) (x4 : Int32) (D : pD) (E : pDL) : Mo_moves_36 x1 x2 x3 x4 D E = (if (D 100 0 44) ≤ x4 then (if (D 100 0 44) = (40 : Int32) then (some (some (.inl (-3 : Int32)), D, E)) else (if (D 100 0 44) < 0 ∨ 40 ≤ (D 100 0 44).toNatClampNeg then none else (if (D 100 0 44) < 0 ∨ 40 ≤ (D 100 0 44).toNatClampNeg then none else (if (D 100 0 44) < 0 ∨ 40 ≤ (D 100 0 44).toNatClampNeg then none else (some (some (.inl ((D 100 0 44) + (1 : Int32))), (dset (dset (dset (dset D 132 0 (D 100 0 44).toNatClampNeg x1) 133 0 (D 100 0 44).toNatClampNeg x2) 134 0 (D 100 0 44).toNatClampNeg x3) 100 0 44 ((D 100 0 44) + (1 : Int32))), E)))))) else (if x4 < 0 ∨ 40 ≤ x4.toNatClampNeg then none else (if (D 132 0 x4.toNatClampNeg) = x1 then (if x4 < 0 ∨ 40 ≤ x4.toNatClampNeg then none else (if (D 133 0 x4.toNatClampNeg) ≤ x2 then (Mo_moves_36 x1 x2 x3 (x4 + (1 : Int32)) D E) else (some (some (.inl (-2 : Int32)), D, E)))) else (Mo_moves_36 x1 x2 x3 (x4 + (1 : Int32)) D E)))) := (pEg m230 (d := 2) 60 _ _ _ _).trans rfl
set_option maxRecDepth 100000 in
set_option maxHeartbeats 4000000 in
theorem e_Mo_turned_18 (x1 : Int32) (x2 : Int32) (x3 : Int32) (D : pD) (E : pDL) : Mo_turned_18 x1 x2 x3 D E = (if (D 102 0 2) ≤ x3 then (some (some (.inl x2), D, E)) else (if x1 ≤ 0 then (some (some (.inl x2), D, E)) else (pB1 (Mo_lostAt x3 x1 D E) fun y1 D1 E1 => (pB1 (Mo_lostAt x3 (x1 - (1 : Int32)) D1 E1) fun y2 D2 E2 => (if y1 = y2 then (Mo_turned_18 x1 (x2 + (0 : Int32)) (x3 + (1 : Int32)) D2 E2) else (Mo_turned_18 x1 (x2 + (1 : Int32)) (x3 + (1 : Int32)) D2 E2)))))) := (pEg m232 (d := 4) 40 _ _ _ _).trans rfl
set_option maxRecDepth 100000 in
set_option maxHeartbeats 4000000 in
theorem e_Mo_until_22 (x1 : Int32) (x2 : Int32) (x3 : Int32) (D : pD) (E : pDL) : Mo_until_22 x1 x2 x3 D E = (if (D 100 0 44) ≤ x3 then (some (some (.inl x2), D, E)) else (if x2 = (-1 : Int32) then (Mo_until_45 x1 x2 x3 D E) else (if x3 < 0 ∨ 40 ≤ x3.toNatClampNeg then none else (if x2 ≤ (D 133 0 x3.toNatClampNeg) then (Mo_until_22 x1 x2 (x3 + (1 : Int32)) D E) else (Mo_until_45 x1 x2 x3 D E))))) := (pEg m233 (d := 5) 22 _ _ _ _).trans rfl
set_option maxRecDepth 100000 in
set_option maxHeartbeats 4000000 in
theorem e_Mo_right_103 (x2 : Int32) (x4 : Int32) (x5 : Int32) (D : pD) (E : pDL) : Mo_right_103 x2 x4 x5 D E = (if (D 100 0 49) ≤ x5 then (some (some (.inl x4), D, E)) else (if x5 < 0 ∨ 20 ≤ x5.toNatClampNeg then none else (if (D 140 0 x5.toNatClampNeg) = x2 then (Mo_right_103 x2 (x4 + (1 : Int32)) (x5 + (1 : Int32)) D E) else (Mo_right_103 x2 (x4 + (0 : Int32)) (x5 + (1 : Int32)) D E)))) := (pEg m235 (d := 1) 29 _ _ _ _).trans rfl
set_option maxRecDepth 100000 in
set_option maxHeartbeats 4000000 in
theorem e_Mo_makeFits (x1 : Int32) (x2 : Int32) (D : pD) (E : pDL) : Mo_makeFits x1 x2 D E = (Mo_makeFits_5 x1 x2 (0 : Int32) (0 : Int32) D E) := (pEg m237 (d := 1) 9 _ _ _ _).trans rfl
set_option maxRecDepth 100000 in
set_option maxHeartbeats 4000000 in
theorem e_Mo_surely_46 (x2 : Int32) (x4 : Int32) (x5 : Int32) (x6 : Int32) (D : pD) (E : pDL) : Mo_surely_46 x2 x4 x5 x6 D E = (if (300 : Int32) ≤ x6 then (if x4 = 0 then (some (some (.inl (-1 : Int32)), D, E)) else (if x5 = x4 then (some (some (.inl (1 : Int32)), D, E)) else (if x5 = 0 then (some (some (.inl (0 : Int32)), D, E)) else (some (some (.inl (2 : Int32)), D, E))))) else (if x6 < 0 ∨ 300 ≤ x6.toNatClampNeg then none else (if (D 142 0 x6.toNatClampNeg) = 0 then (Mo_surely_46 x2 x4 (x5 + (0 : Int32)) (x6 + (1 : Int32)) D E) else (pB1 (Mo_setOf x6 D E) fun y1 D1 E1 => (if ((y1 >>> (x2 &&& 31)) &&& (1 : Int32)) = (1 : Int32) then (Mo_surely_46 x2 x4 (x5 + (1 : Int32)) (x6 + (1 : Int32)) D1 E1) else (Mo_surely_46 x2 x4 (x5 + (0 : Int32)) (x6 + (1 : Int32)) D1 E1)))))) := (pEg m239 (d := 2) 56 _ _ _ _).trans rfl
set_option maxRecDepth 100000 in
set_option maxHeartbeats 4000000 in
theorem e_Mo_next_28 (x2 : Int32) (x3 : Int32) (x4 : Int32) (x5 : Int32) (D : pD) (E : pDL) : Mo_next_28 x2 x3 x4 x5 D E = (if (D 102 0 2) ≤ x5 then (some (some (.inl x3), D, E)) else (if x5 < 0 ∨ 24 ≤ x5.toNatClampNeg then none else (if (D 115 0 x5.toNatClampNeg) = (-1 : Int32) then (Mo_next_28 x2 x3 x4 (x5 + (1 : Int32)) D E) else (Mo_next_59 x2 x3 x4 x5 (0 : Int32) (0 : Int32) D E)))) := (pEg m240 (d := 2) 26 _ _ _ _).trans rfl
set_option maxRecDepth 100000 in
set_option maxHeartbeats 4000000 in
theorem e_Mo_count_42 (x2 : Int32) (x3 : Int32) (D : pD) (E : pDL) : Mo_count_42 x2 x3 D E = (if (D 102 0 2) ≤ x3 then (some (some (.inl x2), D, E)) else (if x3 < 0 ∨ 24 ≤ x3.toNatClampNeg then none else (if (D 115 0 x3.toNatClampNeg) = (-1 : Int32) then (Mo_count_42 (x2 + (0 : Int32)) (x3 + (1 : Int32)) D E) else (Mo_count_42 (x2 + (1 : Int32)) (x3 + (1 : Int32)) D E)))) := (pEg m241 (d := 2) 31 _ _ _ _).trans rfl
set_option maxRecDepth 100000 in
set_option maxHeartbeats 4000000 in
theorem e_Ta_append_3 (x1 : Int32) (x2 : Int32) (D : pD) (E : pDL) : Ta_append_3 x1 x2 D E = (if x2 < 0 then (some (none, D, E)) else (if (1200 : Int32) ≤ (D 1 0 1) then (Ta_append_3 x1 (x2 + (-8 : Int32)) D E) else (if (D 1 0 1) < 0 ∨ 1200 ≤ (D 1 0 1).toNatClampNeg then none else (Ta_append_3 x1 (x2 + (-8 : Int32)) (dset (dset D 2 0 (D 1 0 1).toNatClampNeg (x1 >>> (x2 &&& 31)).toInt8.toInt32.toInt8.toInt32) 1 0 1 ((D 1 0 1) + (1 : Int32))) E)))) := (pEg m93 (d := 0) 31 _ _ _ _).trans rfl
set_option maxRecDepth 100000 in
set_option maxHeartbeats 4000000 in
theorem e_Re_begin (D : pD) (E : pDL) : Re_begin  D E = (pB0 (Bk_clear_draft D E) fun D1 E1 => (some (none, (dset (dset (dset (dset (dset (dset (dset (dset (dset D1 32 0 2 (0 : Int32)) 35 0 2 (0 : Int32)) 38 0 2 (0 : Int32)) 17 0 4 (0 : Int32)) 17 0 5 (-1 : Int32)) 17 0 6 1) 17 0 7 (D1 1 0 1)) 17 0 9 (0 : Int32)) 17 0 13 (0 : Int32)), E1))) := (pEg m38 (d := 2) 41 _ _ _ _).trans rfl
set_option maxRecDepth 100000 in
set_option maxHeartbeats 4000000 in
theorem e_Re_read_7 (x2 : Int32) (D : pD) (E : pDL) : Re_read_7 x2 D E = (if (1200 : Int32) < x2 then (some (some (.inl (-1 : Int32)), D, E)) else (pB0 (Re_advance D E) fun D1 E1 => (if (D1 17 0 10) = (69 : Int32) then (some (some (.inl x2), D1, E1)) else (pB1 (Re_keyword D1 E1) fun y2 D2 E2 => (pB1 (Re_mayBegin y2 D2 E2) fun y3 D3 E3 => (if y3 = 0 then (some (some (.inl (-1 : Int32)), D3, E3)) else (pB1 (Re_readBody y2 D3 E3) fun y4 D4 E4 => (if y4 = 0 then (some (some (.inl (-1 : Int32)), D4, E4)) else (pB1 (Re_readSemicolon D4 E4) fun y5 D5 E5 => (if y5 = 0 then (some (some (.inl (-1 : Int32)), D5, E5)) else (Re_read_7 (x2 + (1 : Int32)) D5 E5))))))))))) := (pEg m37 (d := 5) 40 _ _ _ _).trans rfl
set_option maxRecDepth 100000 in
set_option maxHeartbeats 4000000 in
theorem e_Bk_sumGroups (D : pD) (E : pDL) : Bk_sumGroups  D E = (Bk_sumGroups_2 (0 : Int32) D E) := (pEg m7 (d := 0) 7 _ _ _ _).trans rfl
set_option maxRecDepth 100000 in
set_option maxHeartbeats 4000000 in
theorem e_Ja_fillI_now_kinds (x1 : Int32) (D : pD) (E : pDL) : Ja_fillI_now_kinds x1 D E = (Ja_fillI_now_kinds_5 x1 (0 : Int32) (nI 24) D E) := (pEg m243 (d := 0) 10 _ _ _ _).trans rfl
set_option maxRecDepth 100000 in
set_option maxHeartbeats 4000000 in
theorem e_Ja_fillI_now_firsts (x1 : Int32) (D : pD) (E : pDL) : Ja_fillI_now_firsts x1 D E = (Ja_fillI_now_firsts_5 x1 (0 : Int32) (nI 24) D E) := (pEg m243 (d := 0) 10 _ _ _ _).trans rfl
set_option maxRecDepth 100000 in
set_option maxHeartbeats 4000000 in
theorem e_Ja_fillI_now_seconds (x1 : Int32) (D : pD) (E : pDL) : Ja_fillI_now_seconds x1 D E = (Ja_fillI_now_seconds_5 x1 (0 : Int32) (nI 24) D E) := (pEg m243 (d := 0) 10 _ _ _ _).trans rfl
set_option maxRecDepth 100000 in
set_option maxHeartbeats 4000000 in
theorem e_Ja_fillI_now_thirds (x1 : Int32) (D : pD) (E : pDL) : Ja_fillI_now_thirds x1 D E = (Ja_fillI_now_thirds_5 x1 (0 : Int32) (nI 24) D E) := (pEg m243 (d := 0) 10 _ _ _ _).trans rfl
set_option maxRecDepth 100000 in
set_option maxHeartbeats 4000000 in
theorem e_Ja_fillI_now_notes (x1 : Int32) (D : pD) (E : pDL) : Ja_fillI_now_notes x1 D E = (Ja_fillI_now_notes_5 x1 (0 : Int32) (nI 24) D E) := (pEg m243 (d := 0) 10 _ _ _ _).trans rfl
set_option maxRecDepth 100000 in
set_option maxHeartbeats 4000000 in
theorem e_Fo_clear (D : pD) (E : pDL) : Fo_clear  D E = (pB0 (Ja_fillB_four_given (0 : Int32) D E) fun D1 E1 => (some (none, D1, E1))) := (pEg m19 (d := 1) 10 _ _ _ _).trans rfl
set_option maxRecDepth 100000 in
set_option maxHeartbeats 4000000 in
theorem e_Ye_clear (D : pD) (E : pDL) : Ye_clear  D E = (some (none, (dset D 59 0 6 (0 : Int32)), E)) := (pEg m94 (d := 0) 9 _ _ _ _).trans rfl
set_option maxRecDepth 100000 in
set_option maxHeartbeats 4000000 in
theorem e_La_clear (D : pD) (E : pDL) : La_clear  D E = (some (none, (dset (dset (dset D 65 0 12 (0 : Int32)) 65 0 13 (0 : Int32)) 65 0 11 (0 : Int32)), E)) := (pEg m24 (d := 0) 15 _ _ _ _).trans rfl
set_option maxRecDepth 100000 in
set_option maxHeartbeats 4000000 in
theorem e_Rn_traitsOf_held_wordTraits (x0 : Int32) (D : pD) (E : pDL) : Rn_traitsOf_held_wordTraits x0 D E = (if x0 < 0 then (some (some (.inl (0 : Int32)), D, E)) else (if (nI 20) ≤ x0 then (some (some (.inl (0 : Int32)), D, E)) else (if x0 < 0 ∨ 20 ≤ x0.toNatClampNeg then none else (some (some (.inl (D 9 0 x0.toNatClampNeg)), D, E))))) := (pEg m64 (d := 0) 20 _ _ _ _).trans rfl
set_option maxRecDepth 100000 in
set_option maxHeartbeats 4000000 in
theorem e_Rn_lostAt_held_wordTraits_40 (x1 : Int32) (s0 : Int32) (s1 : Int32) (D : pD) (E : pDL) : Rn_lostAt_held_wordTraits_40 x1 s0 s1 D E = (pB1 (Rn_traitsAt_held_wordTraits x1 D E) fun y1 D1 E1 => (if x1 < 0 ∨ 24 ≤ x1.toNatClampNeg then none else (pB1 (Bk_lostByTraits x1 y1 (D1 47 0 x1.toNatClampNeg) D1 E1) fun y2 D2 E2 => (pB1 (Bk_setting (8 : Int32) D2 E2) fun y3 D3 E3 => (pB1 (Rn_isBorrowed x1 D3 E3) fun y4 D4 E4 => (if y4 = 0 then (some (some (.inl ((y2 + ((s1 + s0) * y3)) + (0 : Int32))), D4, E4)) else (pB1 (Bk_setting (7 : Int32) D4 E4) fun y5 D5 E5 => (some (some (.inl ((y2 + ((s1 + s0) * y3)) + y5)), D5, E5))))))))) := (pEg m65 (d := 3) 40 _ _ _ _).trans rfl
set_option maxRecDepth 100000 in
set_option maxHeartbeats 4000000 in
theorem e_Rn_noted_4 (x1 : Int32) (x2 : Int32) (D : pD) (E : pDL) : Rn_noted_4 x1 x2 D E = (if (24 : Int32) ≤ x2 then (some (some (.inl x1), D, E)) else (if x2 < 0 ∨ 24 ≤ x2.toNatClampNeg then none else (pB1 (Ji_bitCount (D 47 0 x2.toNatClampNeg) D E) fun y1 D1 E1 => (Rn_noted_4 (x1 + y1) (x2 + (1 : Int32)) D1 E1)))) := (pEg m62 (d := 1) 20 _ _ _ _).trans rfl
set_option maxRecDepth 100000 in
set_option maxHeartbeats 4000000 in
theorem e_Rn_lostOfAll_held_wordTraits_4 (x2 : Int32) (x3 : Int32) (D : pD) (E : pDL) : Rn_lostOfAll_held_wordTraits_4 x2 x3 D E = (if (D 4 0 2) ≤ x3 then (some (some (.inl x2), D, E)) else (pB1 (Rn_lostAt_held_wordTraits x3 D E) fun y1 D1 E1 => (Rn_lostOfAll_held_wordTraits_4 (x2 + y1) (x3 + (1 : Int32)) D1 E1))) := (pEg m66 (d := 4) 23 _ _ _ _).trans rfl
set_option maxRecDepth 100000 in
set_option maxHeartbeats 4000000 in
theorem e_Rn_clashBits_4 (x1 : Int32) (x2 : Int32) (D : pD) (E : pDL) : Rn_clashBits_4 x1 x2 D E = (if (D 4 0 3) ≤ x2 then (some (some (.inl x1), D, E)) else (if x2 < 0 ∨ 20 ≤ x2.toNatClampNeg then none else (pB1 (Rn_isChosen (D 12 0 x2.toNatClampNeg) D E) fun y1 D1 E1 => (if y1 = 0 then (Rn_clashBits_4 x1 (x2 + (1 : Int32)) D1 E1) else (pB1 (Rn_traitsAt_held_wordTraits (D 12 0 x2.toNatClampNeg) D1 E1) fun y2 D2 E2 => (pB1 (Rn_isBorrowed (D 12 0 x2.toNatClampNeg) D2 E2) fun y3 D3 E3 => (pB1 (Rn_isClashing x2 (D 12 0 x2.toNatClampNeg) y2 y3 D3 E3) fun y4 D4 E4 => (if y4 = 0 then (Rn_clashBits_4 x1 (x2 + (1 : Int32)) D4 E4) else (Rn_clashBits_4 (x1 ||| ((1 : Int32) <<< (x2 &&& 31))) (x2 + (1 : Int32)) D4 E4))))))))) := (pEg m67 (d := 3) 50 _ _ _ _).trans rfl
set_option maxRecDepth 100000 in
set_option maxHeartbeats 4000000 in
theorem e_Bk_boundBy_9 (x2 : Int32) (x3 : Int32) (x4 : Int32) (D : pD) (E : pDL) : Bk_boundBy_9 x2 x3 x4 D E = (if (24 : Int32) ≤ x4 then (some (some (.inl x2), D, E)) else (if x2 = x3 then (some (some (.inl x2), D, E)) else (Bk_boundBy_26 x2 x2 x4 (0 : Int32) D E))) := (pEg m15 (d := 0) 19 _ _ _ _).trans rfl
set_option maxRecDepth 100000 in
set_option maxHeartbeats 4000000 in
theorem e_Se_begin (x2 : Int32) (D : pD) (E : pDL) : Se_begin x2 D E = (Se_begin_28 x2 (0 : Int32) (dset (dset (dset D 50 0 9 (16777216 : Int32)) 50 0 8 ((D 4 0 1) + (1 : Int32))) 50 0 7 (0 : Int32)) E) := (pEg m84 (d := 4) 22 _ _ _ _).trans rfl
set_option maxRecDepth 100000 in
set_option maxHeartbeats 4000000 in
theorem e_Se_putBest_8 (x3 : Int32) (D : pD) (E : pDL) : Se_putBest_8 x3 D E = (if (D 4 0 3) ≤ x3 then (pB0 (Se_settle 8 (0 : Int32) (0 : Int32) D E) fun D1 E1 => (if (D1 50 0 9) = (16777216 : Int32) then (some (some (.inl (0 : Int32)), D1, E1)) else (Se_putBest_52 (0 : Int32) D1 E1))) else (pB0 (Se_obeyTie x3 D E) fun D2 E2 => (Se_putBest_8 (x3 + (1 : Int32)) D2 E2))) := (pEg m83 (d := 9) 30 _ _ _ _).trans rfl
set_option maxRecDepth 100000 in
set_option maxHeartbeats 4000000 in
theorem e_Rn_exchangeRound (D : pD) (E : pDL) : Rn_exchangeRound  D E = (Rn_exchangeRound_4 (0 : Int32) (0 : Int32) D E) := (pEg m74 (d := 5) 9 _ _ _ _).trans rfl
set_option maxRecDepth 100000 in
set_option maxHeartbeats 4000000 in
theorem e_Rn_oneWord_7 (x1 : Int32) (x2 : Int32) (x3 : Int32) (x4 : Int32) (D : pD) (E : pDL) : Rn_oneWord_7 x1 x2 x3 x4 D E = (if (D 4 0 1) ≤ x4 then (some (some (.inl x2), D, E)) else (pB1 (Rn_lostWithWord x1 x4 D E) fun y1 D1 E1 => (if x2 = (-1 : Int32) then (Rn_oneWord_7 x1 x4 y1 (x4 + (1 : Int32)) D1 E1) else (if x3 ≤ y1 then (Rn_oneWord_7 x1 x2 x3 (x4 + (1 : Int32)) D1 E1) else (Rn_oneWord_7 x1 x4 y1 (x4 + (1 : Int32)) D1 E1))))) := (pEg m78 (d := 5) 39 _ _ _ _).trans rfl
set_option maxRecDepth 100000 in
set_option maxHeartbeats 4000000 in
theorem e_Rn_lostWithWord_5 (x1 : Int32) (x2 : Int32) (x3 : Int32) (x4 : Int32) (D : pD) (E : pDL) : Rn_lostWithWord_5 x1 x2 x3 x4 D E = (if (D 4 0 2) ≤ x4 then (some (some (.inl x3), D, E)) else (if x4 < 0 ∨ 24 ≤ x4.toNatClampNeg then none else (if (D 10 0 x4.toNatClampNeg) = x1 then (pB1 (Rn_lostWithOption x4 x2 D E) fun y1 D1 E1 => (Rn_lostWithWord_5 x1 x2 (x3 + y1) (x4 + (1 : Int32)) D1 E1)) else (Rn_lostWithWord_5 x1 x2 x3 (x4 + (1 : Int32)) D E)))) := (pEg m76 (d := 4) 32 _ _ _ _).trans rfl
set_option maxRecDepth 100000 in
set_option maxHeartbeats 4000000 in
theorem e_Rn_lostWithLeast_4 (x1 : Int32) (x2 : Int32) (x3 : Int32) (D : pD) (E : pDL) : Rn_lostWithLeast_4 x1 x2 x3 D E = (if (D 4 0 2) ≤ x3 then (some (some (.inl x2), D, E)) else (if x3 < 0 ∨ 24 ≤ x3.toNatClampNeg then none else (if (D 10 0 x3.toNatClampNeg) = x1 then (if (D 4 0 1) ≤ 0 then (Rn_lostWithLeast_4 x1 x2 (x3 + (1 : Int32)) D E) else (pB1 (Rn_lostWithOption x3 (0 : Int32) D E) fun y1 D1 E1 => (Rn_lostWithLeast_53 x1 x2 x3 y1 (1 : Int32) D1 E1))) else (Rn_lostWithLeast_4 x1 x2 (x3 + (1 : Int32)) D E)))) := (pEg m77 (d := 4) 38 _ _ _ _).trans rfl
set_option maxRecDepth 100000 in
set_option maxHeartbeats 4000000 in
theorem e_Bk_wordForAll_4 (x1 : Int32) (x2 : Int32) (x3 : Int32) (D : pD) (E : pDL) : Bk_wordForAll_4 x1 x2 x3 D E = (if (D 4 0 2) ≤ x3 then (Bk_wordForAll_41 x2 (0 : Int32) D E) else (if x3 < 0 ∨ 24 ≤ x3.toNatClampNeg then none else (if (D 10 0 x3.toNatClampNeg) = x1 then (if x3 < 0 ∨ 24 ≤ x3.toNatClampNeg then none else (Bk_wordForAll_4 x1 (x2 ||| (D 11 0 x3.toNatClampNeg)) (x3 + (1 : Int32)) D E)) else (Bk_wordForAll_4 x1 x2 (x3 + (1 : Int32)) D E)))) := (pEg m16 (d := 0) 30 _ _ _ _).trans rfl
set_option maxRecDepth 100000 in
set_option maxHeartbeats 4000000 in
theorem e_Rn_mendOnce (D : pD) (E : pDL) : Rn_mendOnce  D E = (Rn_mendOnce_9 (0 : Int32) (0 : Int32) (0 : Int32) (0 : Int32) D E) := (pEg m79 (d := 3) 13 _ _ _ _).trans rfl
set_option maxRecDepth 100000 in
set_option maxHeartbeats 4000000 in
theorem e_Bk_toldBack_7 (x1 : Int32) (x2 : Int32) (x3 : Int32) (x4 : Int32) (D : pD) (E : pDL) : Bk_toldBack_7 x1 x2 x3 x4 D E = (if (D 4 0 0) ≤ x4 then (some (some (.inl x2), D, E)) else (if x4 < 0 ∨ 12 ≤ x4.toNatClampNeg then none else (pB1 (Bk_weightsOf ((D 8 0 x4.toNatClampNeg) &&& x1) D E) fun y1 D1 E1 => (pB1 (Bk_weightsOf ((D 8 0 x4.toNatClampNeg) ^^^ x1) D1 E1) fun y2 D2 E2 => (if x2 = (-1 : Int32) then (Bk_toldBack_7 x1 x4 (((2 : Int32) * y1) - y2) (x4 + (1 : Int32)) D2 E2) else (if (((2 : Int32) * y1) - y2) ≤ x3 then (Bk_toldBack_7 x1 x2 x3 (x4 + (1 : Int32)) D2 E2) else (Bk_toldBack_7 x1 x4 (((2 : Int32) * y1) - y2) (x4 + (1 : Int32)) D2 E2))))))) := (pEg m17 (d := 1) 52 _ _ _ _).trans rfl
set_option maxRecDepth 100000 in
set_option maxHeartbeats 4000000 in
theorem e_Rn_rightOf_4 (x1 : Int32) (x2 : Int32) (x3 : Int32) (D : pD) (E : pDL) : Rn_rightOf_4 x1 x2 x3 D E = (if (D 4 0 2) ≤ x3 then (some (some (.inl x2), D, E)) else (pB1 (Rn_isChosen x3 D E) fun y1 D1 E1 => (if y1 = 0 then (Rn_rightOf_4 x1 x2 (x3 + (1 : Int32)) D1 E1) else (pB1 (Rn_heardAt x1 x3 D1 E1) fun y2 D2 E2 => (pB1 (Bk_toldBack y2 D2 E2) fun y3 D3 E3 => (if x3 < 0 ∨ 24 ≤ x3.toNatClampNeg then none else (if y3 = (D3 10 0 x3.toNatClampNeg) then (Rn_rightOf_4 x1 (x2 + (1 : Int32)) (x3 + (1 : Int32)) D3 E3) else (Rn_rightOf_4 x1 x2 (x3 + (1 : Int32)) D3 E3)))))))) := (pEg m82 (d := 3) 38 _ _ _ _).trans rfl
set_option maxRecDepth 100000 in
set_option maxHeartbeats 4000000 in
theorem e_Bk_traitsSaidFor_7 (x1 : Int32) (x2 : Int32) (x3 : Int32) (x4 : Int32) (D : pD) (E : pDL) : Bk_traitsSaidFor_7 x1 x2 x3 x4 D E = (if (D 4 0 1) ≤ x4 then (some (some (.inl x2), D, E)) else (pB1 (Bk_has (0 : Int32) x1 D E) fun y1 D1 E1 => (if y1 = 0 then (some (some (.inl x2), D1, E1)) else (pB1 (Bk_setting (5 : Int32) D1 E1) fun y2 D2 E2 => (if x1 < 0 ∨ 12 ≤ x1.toNatClampNeg then none else (if x4 < 0 ∨ 20 ≤ x4.toNatClampNeg then none else (pB1 (Bk_weightsOf ((D2 8 0 x1.toNatClampNeg) &&& ((D2 9 0 x4.toNatClampNeg) ^^^ (-1 : Int32))) D2 E2) fun y3 D3 E3 => (pB1 (Bk_setting (6 : Int32) D3 E3) fun y4 D4 E4 => (if x4 < 0 ∨ 20 ≤ x4.toNatClampNeg then none else (if x1 < 0 ∨ 12 ≤ x1.toNatClampNeg then none else (pB1 (Bk_weightsOf ((D4 9 0 x4.toNatClampNeg) &&& ((D4 8 0 x1.toNatClampNeg) ^^^ (-1 : Int32))) D4 E4) fun y5 D5 E5 => (if x3 < 0 then (if x4 < 0 ∨ 20 ≤ x4.toNatClampNeg then none else (Bk_traitsSaidFor_7 x1 (D5 9 0 x4.toNatClampNeg) ((y2 * y3) + (y4 * y5)) (x4 + (1 : Int32)) D5 E5)) else (if x3 ≤ ((y2 * y3) + (y4 * y5)) then (Bk_traitsSaidFor_7 x1 x2 x3 (x4 + (1 : Int32)) D5 E5) else (if x4 < 0 ∨ 20 ≤ x4.toNatClampNeg then none else (Bk_traitsSaidFor_7 x1 (D5 9 0 x4.toNatClampNeg) ((y2 * y3) + (y4 * y5)) (x4 + (1 : Int32)) D5 E5))))))))))))))) := (pEg m18 (d := 1) 81 _ _ _ _).trans rfl
set_option maxRecDepth 100000 in
set_option maxHeartbeats 4000000 in
theorem e_Rn_rightOf_k0_4 (x1 : Int32) (x2 : Int32) (x3 : Int32) (D : pD) (E : pDL) : Rn_rightOf_k0_4 x1 x2 x3 D E = (if (D 4 0 2) ≤ x3 then (some (some (.inl x2), D, E)) else (pB1 (Rn_isChosen_k0 x3 D E) fun y1 D1 E1 => (if y1 = 0 then (Rn_rightOf_k0_4 x1 x2 (x3 + (1 : Int32)) D1 E1) else (pB1 (Rn_heardAt_k0 x1 x3 D1 E1) fun y2 D2 E2 => (pB1 (Bk_toldBack y2 D2 E2) fun y3 D3 E3 => (if x3 < 0 ∨ 24 ≤ x3.toNatClampNeg then none else (if y3 = (D3 10 0 x3.toNatClampNeg) then (Rn_rightOf_k0_4 x1 (x2 + (1 : Int32)) (x3 + (1 : Int32)) D3 E3) else (Rn_rightOf_k0_4 x1 x2 (x3 + (1 : Int32)) D3 E3)))))))) := (pEg m82 (d := 3) 38 _ _ _ _).trans rfl
set_option maxRecDepth 100000 in
set_option maxHeartbeats 4000000 in
theorem e_Hb_nearer_77 (x1 : Int32) (x2 : Int32) (x4 : Int32) (D : pD) (E : pDL) : Hb_nearer_77 x1 x2 x4 D E = (if x4 = 0 then (if x2 < 0 ∨ 4 ≤ x2.toNatClampNeg then none else (if x2.toNatClampNeg = 0 then (pB1 (Rn_lostOfAll_k0_held_wordTraits D E) fun y1 D1 E1 => (Hb_nearer_98 x1 x2 y1 D1 E1)) else (if x2.toNatClampNeg - 1 = 0 then (pB1 (Rn_lostOfAll_k1_held_wordTraits D E) fun y2 D2 E2 => (Hb_nearer_98 x1 x2 y2 D2 E2)) else (if x2.toNatClampNeg - 1 - 1 = 0 then (pB1 (Rn_lostOfAll_k2_held_wordTraits D E) fun y3 D3 E3 => (Hb_nearer_98 x1 x2 y3 D3 E3)) else (if x2.toNatClampNeg - 1 - 1 - 1 = 0 then (pB1 (Rn_lostOfAll_k3_held_wordTraits D E) fun y4 D4 E4 => (Hb_nearer_98 x1 x2 y4 D4 E4)) else none))))) else (Hb_nearer_117 x1 x2 x4 D E)) := (pEg m131 (d := 5) 27 _ _ _ _).trans rfl
set_option maxRecDepth 100000 in
set_option maxHeartbeats 4000000 in
theorem e_Rn_rightOf_k1_4 (x1 : Int32) (x2 : Int32) (x3 : Int32) (D : pD) (E : pDL) : Rn_rightOf_k1_4 x1 x2 x3 D E = (if (D 4 0 2) ≤ x3 then (some (some (.inl x2), D, E)) else (pB1 (Rn_isChosen_k1 x3 D E) fun y1 D1 E1 => (if y1 = 0 then (Rn_rightOf_k1_4 x1 x2 (x3 + (1 : Int32)) D1 E1) else (pB1 (Rn_heardAt_k1 x1 x3 D1 E1) fun y2 D2 E2 => (pB1 (Bk_toldBack y2 D2 E2) fun y3 D3 E3 => (if x3 < 0 ∨ 24 ≤ x3.toNatClampNeg then none else (if y3 = (D3 10 0 x3.toNatClampNeg) then (Rn_rightOf_k1_4 x1 (x2 + (1 : Int32)) (x3 + (1 : Int32)) D3 E3) else (Rn_rightOf_k1_4 x1 x2 (x3 + (1 : Int32)) D3 E3)))))))) := (pEg m82 (d := 3) 38 _ _ _ _).trans rfl
set_option maxRecDepth 100000 in
set_option maxHeartbeats 4000000 in
theorem e_Rn_rightOf_k2_4 (x1 : Int32) (x2 : Int32) (x3 : Int32) (D : pD) (E : pDL) : Rn_rightOf_k2_4 x1 x2 x3 D E = (if (D 4 0 2) ≤ x3 then (some (some (.inl x2), D, E)) else (pB1 (Rn_isChosen_k2 x3 D E) fun y1 D1 E1 => (if y1 = 0 then (Rn_rightOf_k2_4 x1 x2 (x3 + (1 : Int32)) D1 E1) else (pB1 (Rn_heardAt_k2 x1 x3 D1 E1) fun y2 D2 E2 => (pB1 (Bk_toldBack y2 D2 E2) fun y3 D3 E3 => (if x3 < 0 ∨ 24 ≤ x3.toNatClampNeg then none else (if y3 = (D3 10 0 x3.toNatClampNeg) then (Rn_rightOf_k2_4 x1 (x2 + (1 : Int32)) (x3 + (1 : Int32)) D3 E3) else (Rn_rightOf_k2_4 x1 x2 (x3 + (1 : Int32)) D3 E3)))))))) := (pEg m82 (d := 3) 38 _ _ _ _).trans rfl
set_option maxRecDepth 100000 in
set_option maxHeartbeats 4000000 in
theorem e_Rn_rightOf_k3_4 (x1 : Int32) (x2 : Int32) (x3 : Int32) (D : pD) (E : pDL) : Rn_rightOf_k3_4 x1 x2 x3 D E = (if (D 4 0 2) ≤ x3 then (some (some (.inl x2), D, E)) else (pB1 (Rn_isChosen_k3 x3 D E) fun y1 D1 E1 => (if y1 = 0 then (Rn_rightOf_k3_4 x1 x2 (x3 + (1 : Int32)) D1 E1) else (pB1 (Rn_heardAt_k3 x1 x3 D1 E1) fun y2 D2 E2 => (pB1 (Bk_toldBack y2 D2 E2) fun y3 D3 E3 => (if x3 < 0 ∨ 24 ≤ x3.toNatClampNeg then none else (if y3 = (D3 10 0 x3.toNatClampNeg) then (Rn_rightOf_k3_4 x1 (x2 + (1 : Int32)) (x3 + (1 : Int32)) D3 E3) else (Rn_rightOf_k3_4 x1 x2 (x3 + (1 : Int32)) D3 E3)))))))) := (pEg m82 (d := 3) 38 _ _ _ _).trans rfl
set_option maxRecDepth 100000 in
set_option maxHeartbeats 4000000 in
theorem e_Fo_indexOf (x0 : Int32) (x1 : Int32) (x2 : Int32) (D : pD) (E : pDL) : Fo_indexOf x0 x1 x2 D E = (some (some (.inl ((((x1 * (20 : Int32)) + x2) * (4 : Int32)) + x0)), D, E)) := (pEg m20 (d := 0) 15 _ _ _ _).trans rfl
set_option maxRecDepth 100000 in
set_option maxHeartbeats 4000000 in
theorem e_Fo_agreed_8 (x1 : Int32) (x2 : Int32) (x3 : Int32) (x4 : Int32) (x5 : Int32) (D : pD) (E : pDL) : Fo_agreed_8 x1 x2 x3 x4 x5 D E = (if x2 ≤ x5 then (some (some (.inl x3), D, E)) else (pB1 (Fo_costOf x1 x5 D E) fun y1 D1 E1 => (if x3 = (-1 : Int32) then (Fo_agreed_8 x1 x2 x5 y1 (x5 + (1 : Int32)) D1 E1) else (if x4 ≤ y1 then (Fo_agreed_8 x1 x2 x3 x4 (x5 + (1 : Int32)) D1 E1) else (Fo_agreed_8 x1 x2 x5 y1 (x5 + (1 : Int32)) D1 E1))))) := (pEg m22 (d := 2) 35 _ _ _ _).trans rfl
set_option maxRecDepth 100000 in
set_option maxHeartbeats 4000000 in
theorem e_Ye_latestOf_4 (x1 : Int32) (x2 : Int32) (x3 : Int32) (D : pD) (E : pDL) : Ye_latestOf_4 x1 x2 x3 D E = (if (D 59 0 6) ≤ x3 then (some (some (.inl x2), D, E)) else (if x3 < 0 ∨ 40 ≤ x3.toNatClampNeg then none else (if (D 60 0 x3.toNatClampNeg) = x1 then (if x3 < 0 ∨ 40 ≤ x3.toNatClampNeg then none else (Ye_latestOf_4 x1 (D 61 0 x3.toNatClampNeg) (x3 + (1 : Int32)) D E)) else (Ye_latestOf_4 x1 x2 (x3 + (1 : Int32)) D E)))) := (pEg m96 (d := 0) 26 _ _ _ _).trans rfl
set_option maxRecDepth 100000 in
set_option maxHeartbeats 4000000 in
theorem e_Ye_wordsIn_20 (x1 : Int32) (x2 : Int32) (D : pD) (E : pDL) : Ye_wordsIn_20 x1 x2 D E = (if (D 59 0 6) ≤ x2 then (some (some (.inr (.inr (63, 0))), D, E)) else (if x2 < 0 ∨ 40 ≤ x2.toNatClampNeg then none else (if x1 < (D 61 0 x2.toNatClampNeg) then (Ye_wordsIn_20 x1 (x2 + (1 : Int32)) D E) else (if x2 < 0 ∨ 40 ≤ x2.toNatClampNeg then none else (if x2 < 0 ∨ 40 ≤ x2.toNatClampNeg then none else (if (D 60 0 x2.toNatClampNeg) < 0 ∨ 20 ≤ (D 60 0 x2.toNatClampNeg).toNatClampNeg then none else (Ye_wordsIn_20 x1 (x2 + (1 : Int32)) (dset D 63 0 (D 60 0 x2.toNatClampNeg).toNatClampNeg (D 62 0 x2.toNatClampNeg)) E))))))) := (pEg m98 (d := 0) 33 _ _ _ _).trans rfl
set_option maxRecDepth 100000 in
set_option maxHeartbeats 4000000 in
theorem e_Rn_lostOfAll_years_words_4 (x2 : Int32) (x3 : Int32) (D : pD) (E : pDL) : Rn_lostOfAll_years_words_4 x2 x3 D E = (if (D 4 0 2) ≤ x3 then (some (some (.inl x2), D, E)) else (pB1 (Rn_lostAt_years_words x3 D E) fun y1 D1 E1 => (Rn_lostOfAll_years_words_4 (x2 + y1) (x3 + (1 : Int32)) D1 E1))) := (pEg m66 (d := 4) 23 _ _ _ _).trans rfl
set_option maxRecDepth 100000 in
set_option maxHeartbeats 4000000 in
theorem e_Ye_turns_years_words_11 (x2 : Int32) (x4 : Int32) (D : pD) (E : pDL) : Ye_turns_years_words_11 x2 x4 D E = (if (D 4 0 2) ≤ x4 then (pB2 (Ye_wordsIn x2 D E) 63 fun D1 E1 => (Ye_turns_years_words_58 (0 : Int32) (0 : Int32) D1 E1)) else (pB1 (Rn_lostAt_years_words x4 D E) fun y2 D2 E2 => (if x4 < 0 ∨ 24 ≤ x4.toNatClampNeg then none else (Ye_turns_years_words_11 x2 (x4 + (1 : Int32)) (dset D2 64 0 x4.toNatClampNeg y2) E2)))) := (pEg m99 (d := 4) 30 _ _ _ _).trans rfl
set_option maxRecDepth 100000 in
set_option maxHeartbeats 4000000 in
theorem e_Ye_firstAbove_20 (x2 : Int32) (x3 : Int32) (x4 : Int32) (D : pD) (E : pDL) : Ye_firstAbove_20 x2 x3 x4 D E = (if (D 59 0 6) ≤ x4 then (some (some (.inl x3), D, E)) else (if x4 < 0 ∨ 40 ≤ x4.toNatClampNeg then none else (if x3 = (-1 : Int32) then (pB2 (Ye_wordsIn (D 61 0 x4.toNatClampNeg) D E) 63 fun D1 E1 => (pB1 (Rn_lostOfAll_years_words D1 E1) fun y2 D2 E2 => (if y2 ≤ x2 then (Ye_firstAbove_20 x2 x3 (x4 + (1 : Int32)) D2 E2) else (Ye_firstAbove_20 x2 (D 61 0 x4.toNatClampNeg) (x4 + (1 : Int32)) D2 E2)))) else (if x3 ≤ (D 61 0 x4.toNatClampNeg) then (Ye_firstAbove_20 x2 x3 (x4 + (1 : Int32)) D E) else (pB2 (Ye_wordsIn (D 61 0 x4.toNatClampNeg) D E) 63 fun D3 E3 => (pB1 (Rn_lostOfAll_years_words D3 E3) fun y4 D4 E4 => (if y4 ≤ x2 then (Ye_firstAbove_20 x2 x3 (x4 + (1 : Int32)) D4 E4) else (Ye_firstAbove_20 x2 (D 61 0 x4.toNatClampNeg) (x4 + (1 : Int32)) D4 E4)))))))) := (pEg m100 (d := 5) 50 _ _ _ _).trans rfl
set_option maxRecDepth 100000 in
set_option maxHeartbeats 4000000 in
theorem e_La_gather_17 (x1 : Int32) (x2 : Int32) (x3 : Int32) (D : pD) (E : pDL) : La_gather_17 x1 x2 x3 D E = (if (D 65 0 13) ≤ x3 then (La_gather_65 x1 x2 (0 : Int32) (dset D 65 0 10 (0 : Int32)) E) else (if x3 < 0 ∨ 20 ≤ x3.toNatClampNeg then none else (if x2 < (D 73 0 x3.toNatClampNeg) then (La_gather_17 x1 x2 (x3 + (1 : Int32)) D E) else (if x3 < 0 ∨ 20 ≤ x3.toNatClampNeg then none else (if x3 < 0 ∨ 20 ≤ x3.toNatClampNeg then none else (if (D 71 0 x3.toNatClampNeg) < 0 ∨ 30 ≤ (D 71 0 x3.toNatClampNeg).toNatClampNeg then none else (La_gather_17 x1 x2 (x3 + (1 : Int32)) (dset D 74 0 (D 71 0 x3.toNatClampNeg).toNatClampNeg (D 72 0 x3.toNatClampNeg)) E))))))) := (pEg m30 (d := 1) 35 _ _ _ _).trans rfl
set_option maxRecDepth 100000 in
set_option maxHeartbeats 4000000 in
theorem e_La_setsWith_4 (x1 : Int32) (x2 : Int32) (x3 : Int32) (D : pD) (E : pDL) : La_setsWith_4 x1 x2 x3 D E = (if (D 65 0 10) ≤ x3 then (some (some (.inl x2), D, E)) else (if x3 < 0 ∨ 300 ≤ x3.toNatClampNeg then none else (if ((D 75 0 x3.toNatClampNeg) &&& x1) = 0 then (La_setsWith_4 x1 (x2 + (0 : Int32)) (x3 + (1 : Int32)) D E) else (La_setsWith_4 x1 (x2 + (1 : Int32)) (x3 + (1 : Int32)) D E)))) := (pEg m32 (d := 0) 30 _ _ _ _).trans rfl
set_option maxRecDepth 100000 in
set_option maxHeartbeats 4000000 in
theorem e_La_setsWithin (x1 : Int32) (D : pD) (E : pDL) : La_setsWithin x1 D E = (La_setsWithin_4 x1 (0 : Int32) (0 : Int32) D E) := (pEg m33 (d := 0) 9 _ _ _ _).trans rfl
set_option maxRecDepth 100000 in
set_option maxHeartbeats 4000000 in
theorem e_Rn_chosen_4 (x1 : Int32) (x2 : Int32) (D : pD) (E : pDL) : Rn_chosen_4 x1 x2 D E = (if (24 : Int32) ≤ x2 then (some (some (.inl x1), D, E)) else (pB1 (Rn_isChosen x2 D E) fun y1 D1 E1 => (if y1 = 0 then (Rn_chosen_4 (x1 + (0 : Int32)) (x2 + (1 : Int32)) D1 E1) else (Rn_chosen_4 (x1 + (1 : Int32)) (x2 + (1 : Int32)) D1 E1)))) := (pEg m61 (d := 1) 26 _ _ _ _).trans rfl
set_option maxRecDepth 100000 in
set_option maxHeartbeats 4000000 in
theorem e_Mo_feed_73 (x1 : Int32) (x2 : Int32) (x3 : Int32) (x4 : Int32) (x5 : Int32) (x6 : Int32) (x7 : Int32) (x8 : Int32) (D : pD) (E : pDL) : Mo_feed_73 x1 x2 x3 x4 x5 x6 x7 x8 D E = (if x8 < 0 then (Mo_feed_19 x1 x2 x3 x4 x5 (x6 + (1 : Int32)) D E) else (if (D 100 0 1) < 0 ∨ 1200 ≤ (D 100 0 1).toNatClampNeg then none else (Mo_feed_73 x1 x2 x3 x4 x5 x6 x7 (x8 + (-8 : Int32)) (dset (dset D 101 0 (D 100 0 1).toNatClampNeg (x7 >>> (x8 &&& 31)).toInt8.toInt32.toInt8.toInt32) 100 0 1 ((D 100 0 1) + (1 : Int32))) E))) := (pEg m147 (d := 0) 26 _ _ _ _).trans rfl
set_option maxRecDepth 100000 in
set_option maxHeartbeats 4000000 in
theorem e_Mo_scan_5 (x1 : Int32) (D : pD) (E : pDL) : Mo_scan_5 x1 D E = (pB1 (Mo_see x1 D E) fun y1 D1 E1 => (if y1 = (32 : Int32) then (Mo_scan_5 (x1 + (1 : Int32)) D1 E1) else (pB1 (Mo_see x1 D1 E1) fun y2 D2 E2 => (if y2 = (10 : Int32) then (Mo_scan_5 (x1 + (1 : Int32)) D2 E2) else (pB1 (Mo_see x1 (dset D2 100 0 5 x1) E2) fun y3 D3 E3 => (if y3 = (-1 : Int32) then (some (none, (dset (dset (dset D3 100 0 4 (-1 : Int32)) 100 0 3 (5 : Int32)) 100 0 6 x1), E3)) else (pB1 (Mo_isSmall y3 (dset D3 100 0 4 (-1 : Int32)) E3) fun y4 D4 E4 => (if y4 = 0 then (pB1 (Mo_isDigit y3 D4 E4) fun y5 D5 E5 => (if y5 = 0 then (if y3 = (59 : Int32) then (some (none, (dset (dset D5 100 0 3 (3 : Int32)) 100 0 6 (x1 + (1 : Int32))), E5)) else (if y3 = (45 : Int32) then (some (none, (dset (dset D5 100 0 3 (4 : Int32)) 100 0 6 (x1 + (1 : Int32))), E5)) else (some (none, (dset (dset D5 100 0 3 (0 : Int32)) 100 0 6 (x1 + (1 : Int32))), E5)))) else (Mo_scan_226 x1 (x1 + (1 : Int32)) (dset D5 100 0 7 (y3 - (48 : Int32))) E5))) else (Mo_scan_85 x1 x1 D4 (lset (lset E4 100 10 (lN 0)) 100 11 (lN 0))))))))))) := (pEg m153 (d := 2) 92 _ _ _ _).trans rfl
set_option maxRecDepth 100000 in
set_option maxHeartbeats 4000000 in
theorem e_Mo_begin_2 (x1 : Int32) (D : pD) (E : pDL) : Mo_begin_2 x1 D E = (if (5 : Int32) ≤ x1 then (Mo_begin_66 (0 : Int32) (dset (dset (dset (dset (dset D 102 0 15 (2 : Int32)) 102 0 16 (1 : Int32)) 102 0 17 (5 : Int32)) 102 0 18 (1 : Int32)) 102 0 19 (6 : Int32)) E) else (if ((10 : Int32) + x1) < 0 ∨ 20 ≤ ((10 : Int32) + x1).toNatClampNeg then none else (Mo_begin_2 (x1 + (1 : Int32)) (dset D 102 0 ((10 : Int32) + x1).toNatClampNeg (0 : Int32)) E))) := (pEg m159 (d := 0) 44 _ _ _ _).trans rfl
set_option maxRecDepth 100000 in
set_option maxHeartbeats 4000000 in
theorem e_Mo_settle (D : pD) (E : pDL) : Mo_settle  D E = (pB0 (Mo_comes_m_num (10 : Int32) D E) fun D1 E1 => (pB0 (Mo_comes_m_notionTraits (12 : Int32) D1 E1) fun D2 E2 => (pB0 (Mo_comes_m_wordTraits (20 : Int32) D2 E2) fun D3 E3 => (pB0 (Mo_comes_m_placeNotion (24 : Int32) D3 E3) fun D4 E4 => (pB0 (Mo_comes_m_placeBears (24 : Int32) D4 E4) fun D5 E5 => (pB0 (Mo_comes_m_tieOne (20 : Int32) D5 E5) fun D6 E6 => (pB0 (Mo_comes_m_tieTwo (20 : Int32) D6 E6) fun D7 E7 => (pB0 (Mo_comes_m_tieTraits (20 : Int32) D7 E7) fun D8 E8 => (pB0 (Mo_comes_m_knows (6 : Int32) D8 E8) fun D9 E9 => (pB0 (Mo_comes_m_laughsAt (6 : Int32) D9 E9) fun D10 E10 => (pB0 (Mo_comes_m_weight (24 : Int32) D10 E10) fun D11 E11 => (Mo_settle_101 (0 : Int32) D11 E11)))))))))))) := (pEg m161 (d := 1) 51 _ _ _ _).trans rfl
set_option maxRecDepth 100000 in
set_option maxHeartbeats 4000000 in
theorem e_Mo_readClause (D : pD) (E : pDL) : Mo_readClause  D E = (if (D 100 0 3) = (1 : Int32) then (Mo_readClause_16 (D 100 0 4) D E) else (Mo_readClause_16 (-1 : Int32) D E)) := (pEg m169 (d := 5) 13 _ _ _ _).trans rfl
set_option maxRecDepth 100000 in
set_option maxHeartbeats 4000000 in
theorem e_Mo_fails (x1 : Int32) (D : pD) (E : pDL) : Mo_fails x1 D E = (some (some (.inl (0 : Int32)), (dset (dset D 100 0 8 x1) 100 0 9 (D 100 0 5)), E)) := (pEg m154 (d := 0) 14 _ _ _ _).trans rfl
set_option maxRecDepth 100000 in
set_option maxHeartbeats 4000000 in
theorem e_Mo_choose_69 (x1 : Int32) (x2 : Int32) (x3 : Int32) (x4 : Int32) (x5 : Int32) (D : pD) (E : pDL) : Mo_choose_69 x1 x2 x3 x4 x5 D E = (if x2 = (2 : Int32) then (if x5 = (-1 : Int32) then (pB0 (Mo_put x1 x2 x3 x4 x5 D E) fun D1 E1 => (pB1 (Mo_lostAt x1 (-1 : Int32) D1 E1) fun y2 D2 E2 => (some (some (.inl y2), D2, E2)))) else (pB1 (Mo_isWord x5 D E) fun y3 D3 E3 => (if y3 = 0 then (some (some (.inl (-2 : Int32)), D3, E3)) else (pB0 (Mo_put x1 x2 x3 x4 x5 D3 E3) fun D4 E4 => (pB1 (Mo_lostAt x1 (-1 : Int32) D4 E4) fun y5 D5 E5 => (some (some (.inl y5), D5, E5))))))) else (pB0 (Mo_put x1 x2 x3 x4 x5 D E) fun D6 E6 => (pB1 (Mo_lostAt x1 (-1 : Int32) D6 E6) fun y7 D7 E7 => (some (some (.inl y7), D7, E7))))) := (pEg m187 (d := 4) 53 _ _ _ _).trans rfl
set_option maxRecDepth 100000 in
set_option maxHeartbeats 4000000 in
theorem e_Mo_traitsOf (x1 : Int32) (x2 : Int32) (D : pD) (E : pDL) : Mo_traitsOf x1 x2 D E = (if x1 < 0 ∨ 40 ≤ x1.toNatClampNeg then none else (Mo_traitsOf_10 x1 x2 (D 106 0 x1.toNatClampNeg) (0 : Int32) D E)) := (pEg m180 (d := 0) 12 _ _ _ _).trans rfl
set_option maxRecDepth 100000 in
set_option maxHeartbeats 4000000 in
theorem e_Mo_lostAt_55 (x1 : Int32) (x2 : Int32) (s0 : Int32) (D : pD) (E : pDL) : Mo_lostAt_55 x1 x2 s0 D E = (pB1 (Mo_lackAt x1 x2 D E) fun y1 D1 E1 => (if x1 < 0 ∨ 24 ≤ x1.toNatClampNeg then none else (pB1 (Mo_weigh (y1 &&& ((D1 119 0 x1.toNatClampNeg) ^^^ (-1 : Int32))) D1 E1) fun y2 D2 E2 => (pB1 (Mo_addAt x1 x2 D2 E2) fun y3 D3 E3 => (pB1 (Mo_weigh y3 D3 E3) fun y4 D4 E4 => (if x1 < 0 ∨ 24 ≤ x1.toNatClampNeg then none else (if (D4 115 0 x1.toNatClampNeg) = (3 : Int32) then (some (some (.inl (((((D 102 0 5) * y2) + ((D2 102 0 6) * y4)) + ((D4 102 0 8) * s0)) + (D4 102 0 7))), D4, E4)) else (some (some (.inl (((((D 102 0 5) * y2) + ((D2 102 0 6) * y4)) + ((D4 102 0 8) * s0)) + (0 : Int32))), D4, E4))))))))) := (pEg m184 (d := 3) 59 _ _ _ _).trans rfl
set_option maxRecDepth 100000 in
set_option maxHeartbeats 4000000 in
theorem e_Mo_notedAll_4 (x1 : Int32) (x2 : Int32) (D : pD) (E : pDL) : Mo_notedAll_4 x1 x2 D E = (if (D 102 0 2) ≤ x2 then (some (some (.inl x1), D, E)) else (if x2 < 0 ∨ 24 ≤ x2.toNatClampNeg then none else (pB1 (Mo_bits (D 119 0 x2.toNatClampNeg) D E) fun y1 D1 E1 => (Mo_notedAll_4 (x1 + y1) (x2 + (1 : Int32)) D1 E1)))) := (pEg m192 (d := 1) 23 _ _ _ _).trans rfl
set_option maxRecDepth 100000 in
set_option maxHeartbeats 4000000 in
theorem e_Mo_bits_4 (x1 : Int32) (x2 : Int32) (D : pD) (E : pDL) : Mo_bits_4 x1 x2 D E = (if x2 = 0 then (some (some (.inl x1), D, E)) else (Mo_bits_4 (x1 + (1 : Int32)) (x2 &&& (x2 - (1 : Int32))) D E)) := (pEg m191 (d := 0) 17 _ _ _ _).trans rfl
set_option maxRecDepth 100000 in
set_option maxHeartbeats 4000000 in
theorem e_Mo_lostAll_4 (x1 : Int32) (x2 : Int32) (x3 : Int32) (D : pD) (E : pDL) : Mo_lostAll_4 x1 x2 x3 D E = (if (D 102 0 2) ≤ x3 then (some (some (.inl x2), D, E)) else (pB1 (Mo_lostAt x3 x1 D E) fun y1 D1 E1 => (Mo_lostAll_4 x1 (x2 + y1) (x3 + (1 : Int32)) D1 E1))) := (pEg m185 (d := 4) 22 _ _ _ _).trans rfl
set_option maxRecDepth 100000 in
set_option maxHeartbeats 4000000 in
theorem e_Mo_isClash (x1 : Int32) (D : pD) (E : pDL) : Mo_isClash x1 D E = (if x1 < 0 ∨ 40 ≤ x1.toNatClampNeg then none else (if x1 < 0 ∨ 40 ≤ x1.toNatClampNeg then none else (if (D 109 0 x1.toNatClampNeg) < 0 ∨ 24 ≤ (D 109 0 x1.toNatClampNeg).toNatClampNeg then none else (if (D 115 0 (D 109 0 x1.toNatClampNeg).toNatClampNeg) = (-1 : Int32) then (some (some (.inl (0 : Int32)), D, E)) else (if (D 110 0 x1.toNatClampNeg) < 0 ∨ 24 ≤ (D 110 0 x1.toNatClampNeg).toNatClampNeg then none else (if (D 115 0 (D 110 0 x1.toNatClampNeg).toNatClampNeg) = (-1 : Int32) then (some (some (.inl (0 : Int32)), D, E)) else (pB1 (Mo_had (D 109 0 x1.toNatClampNeg) (-1 : Int32) D E) fun y1 D1 E1 => (pB1 (Mo_had (D 110 0 x1.toNatClampNeg) (-1 : Int32) D1 E1) fun y2 D2 E2 => (if x1 < 0 ∨ 40 ≤ x1.toNatClampNeg then none else (if ((y1 &&& y2) &&& (D2 111 0 x1.toNatClampNeg)) = 0 then (if (D 109 0 x1.toNatClampNeg) < 0 ∨ 24 ≤ (D 109 0 x1.toNatClampNeg).toNatClampNeg then none else (if (D2 115 0 (D 109 0 x1.toNatClampNeg).toNatClampNeg) = (3 : Int32) then (if (D 110 0 x1.toNatClampNeg) < 0 ∨ 24 ≤ (D 110 0 x1.toNatClampNeg).toNatClampNeg then none else (if (D2 115 0 (D 110 0 x1.toNatClampNeg).toNatClampNeg) = (3 : Int32) then (if (D 109 0 x1.toNatClampNeg) < 0 ∨ 48 ≤ (D 109 0 x1.toNatClampNeg).toNatClampNeg then none else (if (D 110 0 x1.toNatClampNeg) < 0 ∨ 48 ≤ (D 110 0 x1.toNatClampNeg).toNatClampNeg then none else (if (D2 107 0 (D 109 0 x1.toNatClampNeg).toNatClampNeg) = (D2 107 0 (D 110 0 x1.toNatClampNeg).toNatClampNeg) then (some (some (.inl (0 : Int32)), D2, E2)) else (some (some (.inl (1 : Int32)), D2, E2))))) else (some (some (.inl (1 : Int32)), D2, E2)))) else (some (some (.inl (1 : Int32)), D2, E2)))) else (some (some (.inl (0 : Int32)), D2, E2)))))))))))) := (pEg m195 (d := 2) 80 _ _ _ _).trans rfl
set_option maxRecDepth 100000 in
set_option maxHeartbeats 4000000 in
theorem e_Mo_bound_27 (x2 : Int32) (x3 : Int32) (x4 : Int32) (D : pD) (E : pDL) : Mo_bound_27 x2 x3 x4 D E = (if (D 102 0 3) ≤ x4 then (Mo_bound_17 x2 x3 D E) else (if x4 < 0 ∨ 40 ≤ x4.toNatClampNeg then none else (if x4 < 0 ∨ 40 ≤ x4.toNatClampNeg then none else (if (((x2 >>> ((D 109 0 x4.toNatClampNeg) &&& 31)) ||| (x2 >>> ((D 110 0 x4.toNatClampNeg) &&& 31))) &&& (1 : Int32)) = (1 : Int32) then (if x4 < 0 ∨ 40 ≤ x4.toNatClampNeg then none else (if x4 < 0 ∨ 40 ≤ x4.toNatClampNeg then none else (Mo_bound_27 (x2 ||| (((1 : Int32) <<< ((D 109 0 x4.toNatClampNeg) &&& 31)) ||| ((1 : Int32) <<< ((D 110 0 x4.toNatClampNeg) &&& 31)))) x3 (x4 + (1 : Int32)) D E))) else (Mo_bound_27 x2 x3 (x4 + (1 : Int32)) D E))))) := (pEg m197 (d := 2) 49 _ _ _ _).trans rfl
set_option maxRecDepth 100000 in
set_option maxHeartbeats 4000000 in
theorem e_Mo_best_65 (x1 : Int32) (x2 : Int32) (x3 : Int32) (x4 : Int32) (D : pD) (E : pDL) : Mo_best_65 x1 x2 x3 x4 D E = (if x2 ≤ x4 then (Mo_best_162 x1 x2 x3 (-1 : Int32) (0 : Int32) (0 : Int32) D E) else (if x4 < 0 ∨ 4 ≤ x4.toNatClampNeg then none else (if (D 120 0 x4.toNatClampNeg) < 0 ∨ 24 ≤ (D 120 0 x4.toNatClampNeg).toNatClampNeg then none else (if x4 < 0 ∨ 4 ≤ x4.toNatClampNeg then none else (if (D 120 0 x4.toNatClampNeg) < 0 ∨ 24 ≤ (D 120 0 x4.toNatClampNeg).toNatClampNeg then none else (if x4 < 0 ∨ 4 ≤ x4.toNatClampNeg then none else (if (D 120 0 x4.toNatClampNeg) < 0 ∨ 24 ≤ (D 120 0 x4.toNatClampNeg).toNatClampNeg then none else (if x4 < 0 ∨ 4 ≤ x4.toNatClampNeg then none else (if (D 120 0 x4.toNatClampNeg) < 0 ∨ 24 ≤ (D 120 0 x4.toNatClampNeg).toNatClampNeg then none else (if x4 < 0 ∨ 4 ≤ x4.toNatClampNeg then none else (Mo_best_65 x1 x2 (x3 * ((D 102 0 1) + (1 : Int32))) (x4 + (1 : Int32)) (dset (dset (dset (dset D 121 0 x4.toNatClampNeg (D 115 0 (D 120 0 x4.toNatClampNeg).toNatClampNeg)) 122 0 x4.toNatClampNeg (D 116 0 (D 120 0 x4.toNatClampNeg).toNatClampNeg)) 123 0 x4.toNatClampNeg (D 117 0 (D 120 0 x4.toNatClampNeg).toNatClampNeg)) 124 0 x4.toNatClampNeg (D 118 0 (D 120 0 x4.toNatClampNeg).toNatClampNeg)) E))))))))))) := (pEg m200 (d := 5) 62 _ _ _ _).trans rfl
