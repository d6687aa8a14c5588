set_option maxRecDepth 100000 in
set_option maxHeartbeats 4000000 in
theorem e_Mo_exchange_18 (x1 : Int32) (x2 : Int32) (x3 : Int32) (D : pD) (E : pDL) : Mo_exchange_18 x1 x2 x3 D E = (if (D 102 0 2) ≤ x3 then (Mo_exchange_4 x1 (x2 + (1 : Int32)) D E) else (if x3 < 0 ∨ 24 ≤ x3.toNatClampNeg then none else (if (D 115 0 x3.toNatClampNeg) = (-1 : Int32) then (Mo_exchange_18 x1 x2 (x3 + (1 : Int32)) D E) else (pB1 (Mo_costs D E) fun y1 D1 E1 => (if x3 < 0 ∨ 24 ≤ x3.toNatClampNeg then none else (if x3 < 0 ∨ 24 ≤ x3.toNatClampNeg then none else (if x3 < 0 ∨ 24 ≤ x3.toNatClampNeg then none else (if x3 < 0 ∨ 24 ≤ x3.toNatClampNeg then none else (Mo_exchange_85 x1 x2 x3 y1 (D1 115 0 x3.toNatClampNeg) (D1 116 0 x3.toNatClampNeg) (D1 117 0 x3.toNatClampNeg) (D1 118 0 x3.toNatClampNeg) (-1 : Int32) (0 : Int32) D1 E1))))))))) := (pEg m203 (d := 6) 49 _ _ _ _).trans rfl
set_option maxRecDepth 100000 in
set_option maxHeartbeats 4000000 in
theorem e_Mo_oneOf_4 (x1 : Int32) (x2 : Int32) (x3 : Int32) (D : pD) (E : pDL) : Mo_oneOf_4 x1 x2 x3 D E = (if (D 102 0 1) ≤ x3 then (some (some (.inl x2), D, E)) else (if x2 = (-1 : Int32) then (Mo_oneOf_4 x1 x3 (x3 + (1 : Int32)) D E) else (pB1 (Mo_plainSum x1 x3 D E) fun y1 D1 E1 => (pB1 (Mo_plainSum x1 x2 D1 E1) fun y2 D2 E2 => (if y2 ≤ y1 then (Mo_oneOf_4 x1 x2 (x3 + (1 : Int32)) D2 E2) else (Mo_oneOf_4 x1 x3 (x3 + (1 : Int32)) D2 E2)))))) := (pEg m206 (d := 3) 35 _ _ _ _).trans rfl
set_option maxRecDepth 100000 in
set_option maxHeartbeats 4000000 in
theorem e_Mo_plainSum_5 (x1 : Int32) (x2 : Int32) (x3 : Int32) (x4 : Int32) (D : pD) (E : pDL) : Mo_plainSum_5 x1 x2 x3 x4 D E = (if (D 102 0 2) ≤ x4 then (some (some (.inl x3), D, E)) else (if x4 < 0 ∨ 48 ≤ x4.toNatClampNeg then none else (if (D 107 0 x4.toNatClampNeg) = x1 then (pB1 (Mo_plainAt x4 x2 D E) fun y1 D1 E1 => (Mo_plainSum_5 x1 x2 (x3 + y1) (x4 + (1 : Int32)) D1 E1)) else (Mo_plainSum_5 x1 x2 (x3 + (0 : Int32)) (x4 + (1 : Int32)) D E)))) := (pEg m205 (d := 2) 34 _ _ _ _).trans rfl
set_option maxRecDepth 100000 in
set_option maxHeartbeats 4000000 in
theorem e_Mo_plainAt (x1 : Int32) (x2 : Int32) (D : pD) (E : pDL) : Mo_plainAt x1 x2 D E = (if x1 < 0 ∨ 48 ≤ x1.toNatClampNeg then none else (if x2 < 0 ∨ 40 ≤ x2.toNatClampNeg then none else (if x1 < 0 ∨ 24 ≤ x1.toNatClampNeg then none else (pB1 (Mo_weigh (((D 108 0 x1.toNatClampNeg) &&& ((D 106 0 x2.toNatClampNeg) ^^^ (-1 : Int32))) &&& ((D 119 0 x1.toNatClampNeg) ^^^ (-1 : Int32))) D E) fun y1 D1 E1 => (if x2 < 0 ∨ 40 ≤ x2.toNatClampNeg then none else (if x1 < 0 ∨ 48 ≤ x1.toNatClampNeg then none else (if (D1 107 0 x1.toNatClampNeg) < 0 ∨ 24 ≤ (D1 107 0 x1.toNatClampNeg).toNatClampNeg then none else (pB1 (Mo_weigh ((D1 106 0 x2.toNatClampNeg) &&& ((D1 105 0 (D1 107 0 x1.toNatClampNeg).toNatClampNeg) ^^^ (-1 : Int32))) D1 E1) fun y2 D2 E2 => (some (some (.inl (((D 102 0 5) * y1) + ((D1 102 0 6) * y2))), D2, E2)))))))))) := (pEg m204 (d := 1) 53 _ _ _ _).trans rfl
set_option maxRecDepth 100000 in
set_option maxHeartbeats 4000000 in
theorem e_Mo_price_71 (x1 : Int32) (x3 : Int32) (x4 : Int32) (x5 : Int32) (x6 : Int32) (D : pD) (E : pDL) : Mo_price_71 x1 x3 x4 x5 x6 D E = (if (D 102 0 1) ≤ x6 then (Mo_price_34 x1 (x3 - x5) (x4 + (1 : Int32)) D E) else (pB1 (Mo_plainAt x4 x6 D E) fun y1 D1 E1 => (if x5 ≤ y1 then (Mo_price_71 x1 x3 x4 x5 (x6 + (1 : Int32)) D1 E1) else (pB1 (Mo_plainAt x4 x6 D1 E1) fun y2 D2 E2 => (Mo_price_71 x1 x3 x4 y2 (x6 + (1 : Int32)) D2 E2))))) := (pEg m208 (d := 4) 35 _ _ _ _).trans rfl
set_option maxRecDepth 100000 in
set_option maxHeartbeats 4000000 in
theorem e_Mo_swap_56 (x2 : Int32) (x3 : Int32) (D : pD) (E : pDL) : Mo_swap_56 x2 x3 D E = (if (D 102 0 1) ≤ x3 then (some (some (.inl (-1 : Int32)), D, E)) else (if x3 < 0 ∨ 40 ≤ x3.toNatClampNeg then none else (if (x2 &&& ((D 106 0 x3.toNatClampNeg) ^^^ (-1 : Int32))) = 0 then (some (some (.inl x3), D, E)) else (Mo_swap_56 x2 (x3 + (1 : Int32)) D E)))) := (pEg m209 (d := 2) 26 _ _ _ _).trans rfl
set_option maxRecDepth 100000 in
set_option maxHeartbeats 4000000 in
theorem e_Mo_mend_42 (x1 : Int32) (x2 : Int32) (x3 : Int32) (x4 : Int32) (x5 : Int32) (D : pD) (E : pDL) : Mo_mend_42 x1 x2 x3 x4 x5 D E = (if ((D 102 0 2) * (24 : Int32)) ≤ x5 then (if x3 = (-1 : Int32) then (some (some (.inl x2), D, E)) else (if (24 : Int32) = 0 then none else (if (x3 / (24 : Int32)) < 0 ∨ 24 ≤ (x3 / (24 : Int32)).toNatClampNeg then none else (if (24 : Int32) = 0 then none else (if (x3 / (24 : Int32)) < 0 ∨ 24 ≤ (x3 / (24 : Int32)).toNatClampNeg then none else (Mo_mend_15 x1 (x2 + (1 : Int32)) (dset D 119 0 (x3 / (24 : Int32)).toNatClampNeg ((D 119 0 (x3 / (24 : Int32)).toNatClampNeg) ||| ((1 : Int32) <<< ((x3 - x3 / (24 : Int32) * (24 : Int32)) &&& 31)))) E)))))) else (if (24 : Int32) = 0 then none else (if (24 : Int32) = 0 then none else (if (x5 / (24 : Int32)) < 0 ∨ 24 ≤ (x5 / (24 : Int32)).toNatClampNeg then none else (if (D 115 0 (x5 / (24 : Int32)).toNatClampNeg) = (-1 : Int32) then (Mo_mend_42 x1 x2 x3 x4 (x5 + (1 : Int32)) D E) else (pB1 (Mo_lackAt (x5 / (24 : Int32)) (-1 : Int32) D E) fun y1 D1 E1 => (if (x5 / (24 : Int32)) < 0 ∨ 24 ≤ (x5 / (24 : Int32)).toNatClampNeg then none else (if ((y1 &&& ((D1 119 0 (x5 / (24 : Int32)).toNatClampNeg) ^^^ (-1 : Int32))) &&& ((1 : Int32) <<< ((x5 - x5 / (24 : Int32) * (24 : Int32)) &&& 31))) = 0 then (Mo_mend_42 x1 x2 x3 x4 (x5 + (1 : Int32)) D1 E1) else (if (x5 - x5 / (24 : Int32) * (24 : Int32)) < 0 ∨ 48 ≤ (x5 - x5 / (24 : Int32) * (24 : Int32)).toNatClampNeg then none else (if x4 < (D1 114 0 (x5 - x5 / (24 : Int32) * (24 : Int32)).toNatClampNeg) then (if (x5 - x5 / (24 : Int32) * (24 : Int32)) < 0 ∨ 48 ≤ (x5 - x5 / (24 : Int32) * (24 : Int32)).toNatClampNeg then none else (Mo_mend_42 x1 x2 x5 (D1 114 0 (x5 - x5 / (24 : Int32) * (24 : Int32)).toNatClampNeg) (x5 + (1 : Int32)) D1 E1)) else (Mo_mend_42 x1 x2 x3 x4 (x5 + (1 : Int32)) D1 E1))))))))))) := (pEg m210 (d := 3) 86 _ _ _ _).trans rfl
set_option maxRecDepth 100000 in
set_option maxHeartbeats 4000000 in
theorem e_Mo_backOf_7 (x1 : Int32) (x2 : Int32) (x3 : Int32) (x4 : Int32) (D : pD) (E : pDL) : Mo_backOf_7 x1 x2 x3 x4 D E = (if (D 102 0 0) ≤ x4 then (some (some (.inl x2), D, E)) else (if x4 < 0 ∨ 24 ≤ x4.toNatClampNeg then none else (pB1 (Mo_weigh ((D 105 0 x4.toNatClampNeg) &&& x1) D E) fun y1 D1 E1 => (if x4 < 0 ∨ 24 ≤ x4.toNatClampNeg then none else (pB1 (Mo_weigh ((D1 105 0 x4.toNatClampNeg) &&& (x1 ^^^ (-1 : Int32))) D1 E1) fun y2 D2 E2 => (if x4 < 0 ∨ 24 ≤ x4.toNatClampNeg then none else (pB1 (Mo_weigh (x1 &&& ((D2 105 0 x4.toNatClampNeg) ^^^ (-1 : Int32))) D2 E2) fun y3 D3 E3 => (if x2 = (-1 : Int32) then (Mo_backOf_7 x1 x4 ((((2 : Int32) * y1) - y2) - y3) (x4 + (1 : Int32)) D3 E3) else (if x3 < ((((2 : Int32) * y1) - y2) - y3) then (Mo_backOf_7 x1 x4 ((((2 : Int32) * y1) - y2) - y3) (x4 + (1 : Int32)) D3 E3) else (Mo_backOf_7 x1 x2 x3 (x4 + (1 : Int32)) D3 E3)))))))))) := (pEg m212 (d := 1) 67 _ _ _ _).trans rfl
set_option maxRecDepth 100000 in
set_option maxHeartbeats 4000000 in
theorem e_Mo_hitsOf_4 (x1 : Int32) (x2 : Int32) (x3 : Int32) (D : pD) (E : pDL) : Mo_hitsOf_4 x1 x2 x3 D E = (if (D 102 0 2) ≤ x3 then (some (some (.inl x2), D, E)) else (if x3 < 0 ∨ 24 ≤ x3.toNatClampNeg then none else (if (D 115 0 x3.toNatClampNeg) = (-1 : Int32) then (Mo_hitsOf_4 x1 (x2 + (0 : Int32)) (x3 + (1 : Int32)) D E) else (pB1 (Mo_heardBy x1 x3 D E) fun y1 D1 E1 => (pB1 (Mo_backOf y1 D1 E1) fun y2 D2 E2 => (if x3 < 0 ∨ 48 ≤ x3.toNatClampNeg then none else (if y2 = (D2 107 0 x3.toNatClampNeg) then (Mo_hitsOf_4 x1 (x2 + (1 : Int32)) (x3 + (1 : Int32)) D2 E2) else (Mo_hitsOf_4 x1 (x2 + (0 : Int32)) (x3 + (1 : Int32)) D2 E2)))))))) := (pEg m218 (d := 3) 47 _ _ _ _).trans rfl
set_option maxRecDepth 100000 in
set_option maxHeartbeats 4000000 in
theorem e_Mo_weigh (x1 : Int32) (D : pD) (E : pDL) : Mo_weigh x1 D E = (Mo_weigh_4 x1 (0 : Int32) (0 : Int32) D E) := (pEg m179 (d := 0) 9 _ _ _ _).trans rfl
set_option maxRecDepth 100000 in
set_option maxHeartbeats 4000000 in
theorem e_Mo_store_2 (x1 : Int32) (x2 : Int32) (D : pD) (E : pDL) : Mo_store_2 x1 x2 D E = (if (24 : Int32) ≤ x2 then (some (none, D, E)) else (if x2 < 0 ∨ 24 ≤ x2.toNatClampNeg then none else (if (((24 : Int32) * x1) + x2) < 0 ∨ 120 ≤ (((24 : Int32) * x1) + x2).toNatClampNeg then none else (if x2 < 0 ∨ 24 ≤ x2.toNatClampNeg then none else (if (((24 : Int32) * x1) + x2) < 0 ∨ 120 ≤ (((24 : Int32) * x1) + x2).toNatClampNeg then none else (if x2 < 0 ∨ 24 ≤ x2.toNatClampNeg then none else (if (((24 : Int32) * x1) + x2) < 0 ∨ 120 ≤ (((24 : Int32) * x1) + x2).toNatClampNeg then none else (if x2 < 0 ∨ 24 ≤ x2.toNatClampNeg then none else (if (((24 : Int32) * x1) + x2) < 0 ∨ 120 ≤ (((24 : Int32) * x1) + x2).toNatClampNeg then none else (if x2 < 0 ∨ 24 ≤ x2.toNatClampNeg then none else (if (((24 : Int32) * x1) + x2) < 0 ∨ 120 ≤ (((24 : Int32) * x1) + x2).toNatClampNeg then none else (Mo_store_2 x1 (x2 + (1 : Int32)) (dset (dset (dset (dset (dset D 126 0 (((24 : Int32) * x1) + x2).toNatClampNeg (D 115 0 x2.toNatClampNeg)) 127 0 (((24 : Int32) * x1) + x2).toNatClampNeg (D 116 0 x2.toNatClampNeg)) 128 0 (((24 : Int32) * x1) + x2).toNatClampNeg (D 117 0 x2.toNatClampNeg)) 129 0 (((24 : Int32) * x1) + x2).toNatClampNeg (D 118 0 x2.toNatClampNeg)) 130 0 (((24 : Int32) * x1) + x2).toNatClampNeg (D 119 0 x2.toNatClampNeg)) E)))))))))))) := (pEg m221 (d := 0) 57 _ _ _ _).trans rfl
set_option maxRecDepth 100000 in
set_option maxHeartbeats 4000000 in
theorem e_Mo_load_2 (x1 : Int32) (x2 : Int32) (D : pD) (E : pDL) : Mo_load_2 x1 x2 D E = (if (24 : Int32) ≤ x2 then (some (none, D, E)) else (if (((24 : Int32) * x1) + x2) < 0 ∨ 120 ≤ (((24 : Int32) * x1) + x2).toNatClampNeg then none else (if x2 < 0 ∨ 24 ≤ x2.toNatClampNeg then none else (if (((24 : Int32) * x1) + x2) < 0 ∨ 120 ≤ (((24 : Int32) * x1) + x2).toNatClampNeg then none else (if x2 < 0 ∨ 24 ≤ x2.toNatClampNeg then none else (if (((24 : Int32) * x1) + x2) < 0 ∨ 120 ≤ (((24 : Int32) * x1) + x2).toNatClampNeg then none else (if x2 < 0 ∨ 24 ≤ x2.toNatClampNeg then none else (if (((24 : Int32) * x1) + x2) < 0 ∨ 120 ≤ (((24 : Int32) * x1) + x2).toNatClampNeg then none else (if x2 < 0 ∨ 24 ≤ x2.toNatClampNeg then none else (if (((24 : Int32) * x1) + x2) < 0 ∨ 120 ≤ (((24 : Int32) * x1) + x2).toNatClampNeg then none else (if x2 < 0 ∨ 24 ≤ x2.toNatClampNeg then none else (Mo_load_2 x1 (x2 + (1 : Int32)) (dset (dset (dset (dset (dset D 115 0 x2.toNatClampNeg (D 126 0 (((24 : Int32) * x1) + x2).toNatClampNeg)) 116 0 x2.toNatClampNeg (D 127 0 (((24 : Int32) * x1) + x2).toNatClampNeg)) 117 0 x2.toNatClampNeg (D 128 0 (((24 : Int32) * x1) + x2).toNatClampNeg)) 118 0 x2.toNatClampNeg (D 129 0 (((24 : Int32) * x1) + x2).toNatClampNeg)) 119 0 x2.toNatClampNeg (D 130 0 (((24 : Int32) * x1) + x2).toNatClampNeg)) E)))))))))))) := (pEg m222 (d := 0) 57 _ _ _ _).trans rfl
set_option maxRecDepth 100000 in
set_option maxHeartbeats 4000000 in
theorem e_Mo_agree_38 (x1 : Int32) (x2 : Int32) (x3 : Int32) (x4 : Int32) (x5 : Int32) (x6 : Int32) (x7 : Int32) (D : pD) (E : pDL) : Mo_agree_38 x1 x2 x3 x4 x5 x6 x7 D E = (if (4 : Int32) ≤ x7 then (if x2 = (-1 : Int32) then (Mo_agree_18 x1 x4 (((1000 : Int32) * x5) + x6) (x4 + (1 : Int32)) D E) else (if (((1000 : Int32) * x5) + x6) < x3 then (Mo_agree_18 x1 x4 (((1000 : Int32) * x5) + x6) (x4 + (1 : Int32)) D E) else (Mo_agree_18 x1 x2 x3 (x4 + (1 : Int32)) D E))) else (pB1 (Mo_cellOf x7 x1 x4 D E) fun y1 D1 E1 => (if y1 < 0 ∨ 1920 ≤ y1.toNatClampNeg then none else (if (D1 131 0 y1.toNatClampNeg) ≤ x5 then (Mo_agree_38 x1 x2 x3 x4 x5 (x6 + (D1 131 0 y1.toNatClampNeg)) (x7 + (1 : Int32)) D1 E1) else (Mo_agree_38 x1 x2 x3 x4 (D1 131 0 y1.toNatClampNeg) (x6 + (D1 131 0 y1.toNatClampNeg)) (x7 + (1 : Int32)) D1 E1))))) := (pEg m229 (d := 2) 69 _ _ _ _).trans rfl
set_option maxRecDepth 100000 in
set_option maxHeartbeats 4000000 in
theorem e_Mo_until_45 (x1 : Int32) (x2 : Int32) (x3 : Int32) (D : pD) (E : pDL) : Mo_until_45 x1 x2 x3 D E = (if x3 < 0 ∨ 40 ≤ x3.toNatClampNeg then none else (pB1 (Mo_lostAll (D 133 0 x3.toNatClampNeg) D E) fun y1 D1 E1 => (if y1 ≤ x1 then (Mo_until_22 x1 x2 (x3 + (1 : Int32)) D1 E1) else (if x3 < 0 ∨ 40 ≤ x3.toNatClampNeg then none else (Mo_until_22 x1 (D1 133 0 x3.toNatClampNeg) (x3 + (1 : Int32)) D1 E1))))) := (pEg m233 (d := 5) 22 _ _ _ _).trans rfl
set_option maxRecDepth 100000 in
set_option maxHeartbeats 4000000 in
theorem e_Mo_makeFits_5 (x1 : Int32) (x2 : Int32) (x3 : Int32) (x4 : Int32) (D : pD) (E : pDL) : Mo_makeFits_5 x1 x2 x3 x4 D E = (if (300 : Int32) ≤ x4 then (some (some (.inl x3), D, E)) else (if x4 < 0 ∨ 300 ≤ x4.toNatClampNeg then none else (pB1 (Mo_setOf x4 (dset D 142 0 x4.toNatClampNeg ((1 : Int32) &&& 1)) E) fun y1 D1 E1 => (Mo_makeFits_31 x1 x2 x3 x4 y1 (0 : Int32) D1 E1)))) := (pEg m237 (d := 1) 20 _ _ _ _).trans rfl
set_option maxRecDepth 100000 in
set_option maxHeartbeats 4000000 in
theorem e_Mo_setOf (x0 : Int32) (D : pD) (E : pDL) : Mo_setOf x0 D E = (if (24 : Int32) ≤ x0 then (Mo_setOf_17 (x0 - (24 : Int32)) (0 : Int32) D E) else (some (some (.inl ((1 : Int32) <<< (x0 &&& 31))), D, E))) := (pEg m236 (d := 0) 18 _ _ _ _).trans rfl
set_option maxRecDepth 100000 in
set_option maxHeartbeats 4000000 in
theorem e_Mo_next_59 (x2 : Int32) (x3 : Int32) (x4 : Int32) (x5 : Int32) (x6 : Int32) (x7 : Int32) (D : pD) (E : pDL) : Mo_next_59 x2 x3 x4 x5 x6 x7 D E = (if (300 : Int32) ≤ x7 then (if x6 ≤ (x2 - x6) then (if (x2 - x6) < x4 then (Mo_next_28 x2 x5 (x2 - x6) (x5 + (1 : Int32)) D E) else (Mo_next_28 x2 x3 x4 (x5 + (1 : Int32)) D E)) else (if x6 < x4 then (Mo_next_28 x2 x5 x6 (x5 + (1 : Int32)) D E) else (Mo_next_28 x2 x3 x4 (x5 + (1 : Int32)) D E))) else (if x7 < 0 ∨ 300 ≤ x7.toNatClampNeg then none else (if (D 142 0 x7.toNatClampNeg) = 0 then (Mo_next_59 x2 x3 x4 x5 (x6 + (0 : Int32)) (x7 + (1 : Int32)) D E) else (pB1 (Mo_setOf x7 D E) fun y1 D1 E1 => (pB1 (Mo_had x5 (-1 : Int32) D1 E1) fun y2 D2 E2 => (if (y1 &&& (y2 ^^^ (-1 : Int32))) = 0 then (Mo_next_59 x2 x3 x4 x5 (x6 + (1 : Int32)) (x7 + (1 : Int32)) D2 E2) else (Mo_next_59 x2 x3 x4 x5 (x6 + (0 : Int32)) (x7 + (1 : Int32)) D2 E2))))))) := (pEg m240 (d := 2) 76 _ _ _ _).trans rfl
set_option maxRecDepth 100000 in
set_option maxHeartbeats 4000000 in
theorem e_Bk_clear_draft (D : pD) (E : pDL) : Bk_clear_draft  D E = (pB0 (Ja_fillI_draft_counts (0 : Int32) D E) fun D1 E1 => (pB0 (Ja_fillI_draft_weights (1 : Int32) (dset (dset (dset (dset (dset D1 20 0 0 (2 : Int32)) 20 0 1 (1 : Int32)) 20 0 2 (5 : Int32)) 20 0 3 (1 : Int32)) 20 0 4 (6 : Int32)) E1) fun D2 E2 => (some (none, D2, E2)))) := (pEg m0 (d := 1) 39 _ _ _ _).trans rfl
set_option maxRecDepth 100000 in
set_option maxHeartbeats 4000000 in
theorem e_Re_advance (D : pD) (E : pDL) : Re_advance  D E = (Re_advance_8 (dset D 17 0 8 (D 17 0 9)) E) := (pEg m39 (d := 1) 9 _ _ _ _).trans rfl
set_option maxRecDepth 100000 in
set_option maxHeartbeats 4000000 in
theorem e_Re_keyword (D : pD) (E : pDL) : Re_keyword  D E = (if (D 17 0 10) = (97 : Int32) then (pB1 (Re_isWord_text0 D E) fun y1 D1 E1 => (if y1 = 0 then (pB1 (Re_isWord_text1 D1 E1) fun y2 D2 E2 => (if y2 = 0 then (pB1 (Re_isWord_text2 D2 E2) fun y3 D3 E3 => (if y3 = 0 then (pB1 (Re_isWord_text3 D3 E3) fun y4 D4 E4 => (if y4 = 0 then (pB1 (Re_isWord_text4 D4 E4) fun y5 D5 E5 => (if y5 = 0 then (pB1 (Re_isWord_text5 D5 E5) fun y6 D6 E6 => (if y6 = 0 then (pB1 (Re_isWord_text6 D6 E6) fun y7 D7 E7 => (if y7 = 0 then (pB1 (Re_isWord_text7 D7 E7) fun y8 D8 E8 => (if y8 = 0 then (pB1 (Re_isWord_text8 D8 E8) fun y9 D9 E9 => (if y9 = 0 then (pB1 (Re_isWord_text9 D9 E9) fun y10 D10 E10 => (if y10 = 0 then (pB1 (Re_isWord_text10 D10 E10) fun y11 D11 E11 => (if y11 = 0 then (some (some (.inl (-1 : Int32)), D11, E11)) else (some (some (.inl (10 : Int32)), D11, E11)))) else (some (some (.inl (9 : Int32)), D10, E10)))) else (some (some (.inl (8 : Int32)), D9, E9)))) else (some (some (.inl (7 : Int32)), D8, E8)))) else (some (some (.inl (6 : Int32)), D7, E7)))) else (some (some (.inl (5 : Int32)), D6, E6)))) else (some (some (.inl (4 : Int32)), D5, E5)))) else (some (some (.inl (3 : Int32)), D4, E4)))) else (some (some (.inl (2 : Int32)), D3, E3)))) else (some (some (.inl (1 : Int32)), D2, E2)))) else (some (some (.inl (0 : Int32)), D1, E1)))) else (some (some (.inl (-1 : Int32)), D, E))) := (pEg m44 (d := 1) 80 _ _ _ _).trans rfl
set_option maxRecDepth 100000 in
set_option maxHeartbeats 4000000 in
theorem e_Re_mayBegin (x1 : Int32) (D : pD) (E : pDL) : Re_mayBegin x1 D E = (if x1 = (-1 : Int32) then (pB1 (Re_refuse (1 : Int32) D E) fun y1 D1 E1 => (if y1 &&& 1 = y1 then some (some (.inl y1), D1, E1) else none)) else (if x1 < (5 : Int32) then (Re_mayBegin_39 x1 D E) else (if (9 : Int32) < x1 then (Re_mayBegin_39 x1 D E) else (if (((D 17 0 13) >>> (x1 &&& 31)) &&& (1 : Int32)) = 0 then (Re_mayBegin_39 x1 D E) else (pB1 (Re_refuse (3 : Int32) D E) fun y2 D2 E2 => (if y2 &&& 1 = y2 then some (some (.inl y2), D2, E2) else none)))))) := (pEg m42 (d := 1) 29 _ _ _ _).trans rfl
set_option maxRecDepth 100000 in
set_option maxHeartbeats 4000000 in
theorem e_Re_readBody (x1 : Int32) (D : pD) (E : pDL) : Re_readBody x1 D E = (if x1.toInt = 0 then (pB1 (Re_readTraits_nn_draft_notionTraits x1 D E) fun y12 D12 E12 => (if y12 &&& 1 = y12 then some (some (.inl y12), D12, E12) else none)) else (if x1.toInt = 1 then (pB1 (Re_readTraits_nw_draft_wordTraits x1 D E) fun y11 D11 E11 => (if y11 &&& 1 = y11 then some (some (.inl y11), D11, E11) else none)) else (if x1.toInt = 2 then (pB1 (Re_readPlace D E) fun y10 D10 E10 => (if y10 &&& 1 = y10 then some (some (.inl y10), D10, E10) else none)) else (if x1.toInt = 3 then (pB1 (Re_readTie D E) fun y9 D9 E9 => (if y9 &&& 1 = y9 then some (some (.inl y9), D9, E9) else none)) else (if x1.toInt = 4 then (pB1 (Re_readHearer D E) fun y8 D8 E8 => (if y8 &&& 1 = y8 then some (some (.inl y8), D8, E8) else none)) else (if x1.toInt = 5 then (pB1 (Re_readSetting x1 D E) fun y7 D7 E7 => (if y7 &&& 1 = y7 then some (some (.inl y7), D7, E7) else none)) else (if x1.toInt = 6 then (pB1 (Re_readSetting x1 D E) fun y6 D6 E6 => (if y6 &&& 1 = y6 then some (some (.inl y6), D6, E6) else none)) else (if x1.toInt = 7 then (pB1 (Re_readSetting x1 D E) fun y5 D5 E5 => (if y5 &&& 1 = y5 then some (some (.inl y5), D5, E5) else none)) else (if x1.toInt = 8 then (pB1 (Re_readSetting x1 D E) fun y4 D4 E4 => (if y4 &&& 1 = y4 then some (some (.inl y4), D4, E4) else none)) else (if x1.toInt = 9 then (pB1 (Re_readSetting x1 D E) fun y3 D3 E3 => (if y3 &&& 1 = y3 then some (some (.inl y3), D3, E3) else none)) else (if x1.toInt = 10 then (pB1 (Re_readWeight D E) fun y2 D2 E2 => (if y2 &&& 1 = y2 then some (some (.inl y2), D2, E2) else none)) else (pB1 (Re_readSetting x1 D E) fun y1 D1 E1 => (if y1 &&& 1 = y1 then some (some (.inl y1), D1, E1) else none))))))))))))) := (pEg m43 (d := 4) 61 _ _ _ _).trans rfl
set_option maxRecDepth 100000 in
set_option maxHeartbeats 4000000 in
theorem e_Re_readSemicolon (D : pD) (E : pDL) : Re_readSemicolon  D E = (pB0 (Re_advance D E) fun D1 E1 => (if (D1 17 0 10) = (59 : Int32) then (some (some (.inl (1 : Int32)), D1, E1)) else (pB1 (Re_refuse (1 : Int32) D1 E1) fun y2 D2 E2 => (if y2 = 0 then (some (some (.inl (0 : Int32)), D2, E2)) else (some (some (.inl (1 : Int32)), D2, E2)))))) := (pEg m46 (d := 2) 23 _ _ _ _).trans rfl
set_option maxRecDepth 100000 in
set_option maxHeartbeats 4000000 in
theorem e_Bk_sumGroups_2 (x1 : Int32) (D : pD) (E : pDL) : Bk_sumGroups_2 x1 D E = (if (24 : Int32) ≤ x1 then (some (none, D, E)) else (if (6 : Int32) = 0 then none else (if (6 : Int32) = 0 then none else (Bk_sumGroups_26 x1 ((x1 / (6 : Int32)) * (64 : Int32)) ((1 : Int32) <<< ((x1 - x1 / (6 : Int32) * (6 : Int32)) &&& 31)) (0 : Int32) D E)))) := (pEg m7 (d := 0) 23 _ _ _ _).trans rfl
set_option maxRecDepth 100000 in
set_option maxHeartbeats 4000000 in
theorem e_Ja_fillI_now_kinds_5 (x1 : Int32) (x2 : Int32) (x3 : Int32) (D : pD) (E : pDL) : Ja_fillI_now_kinds_5 x1 x2 x3 D E = (if x3 ≤ x2 then (some (none, D, E)) else (if x2 < 0 ∨ 24 ≤ x2.toNatClampNeg then none else (Ja_fillI_now_kinds_5 x1 (x2 + (1 : Int32)) x3 (dset D 43 0 x2.toNatClampNeg x1) E))) := (pEg m243 (d := 0) 15 _ _ _ _).trans rfl
set_option maxRecDepth 100000 in
set_option maxHeartbeats 4000000 in
theorem e_Ja_fillI_now_firsts_5 (x1 : Int32) (x2 : Int32) (x3 : Int32) (D : pD) (E : pDL) : Ja_fillI_now_firsts_5 x1 x2 x3 D E = (if x3 ≤ x2 then (some (none, D, E)) else (if x2 < 0 ∨ 24 ≤ x2.toNatClampNeg then none else (Ja_fillI_now_firsts_5 x1 (x2 + (1 : Int32)) x3 (dset D 44 0 x2.toNatClampNeg x1) E))) := (pEg m243 (d := 0) 15 _ _ _ _).trans rfl
set_option maxRecDepth 100000 in
set_option maxHeartbeats 4000000 in
theorem e_Ja_fillI_now_seconds_5 (x1 : Int32) (x2 : Int32) (x3 : Int32) (D : pD) (E : pDL) : Ja_fillI_now_seconds_5 x1 x2 x3 D E = (if x3 ≤ x2 then (some (none, D, E)) else (if x2 < 0 ∨ 24 ≤ x2.toNatClampNeg then none else (Ja_fillI_now_seconds_5 x1 (x2 + (1 : Int32)) x3 (dset D 45 0 x2.toNatClampNeg x1) E))) := (pEg m243 (d := 0) 15 _ _ _ _).trans rfl
set_option maxRecDepth 100000 in
set_option maxHeartbeats 4000000 in
theorem e_Ja_fillI_now_thirds_5 (x1 : Int32) (x2 : Int32) (x3 : Int32) (D : pD) (E : pDL) : Ja_fillI_now_thirds_5 x1 x2 x3 D E = (if x3 ≤ x2 then (some (none, D, E)) else (if x2 < 0 ∨ 24 ≤ x2.toNatClampNeg then none else (Ja_fillI_now_thirds_5 x1 (x2 + (1 : Int32)) x3 (dset D 46 0 x2.toNatClampNeg x1) E))) := (pEg m243 (d := 0) 15 _ _ _ _).trans rfl
set_option maxRecDepth 100000 in
set_option maxHeartbeats 4000000 in
theorem e_Ja_fillI_now_notes_5 (x1 : Int32) (x2 : Int32) (x3 : Int32) (D : pD) (E : pDL) : Ja_fillI_now_notes_5 x1 x2 x3 D E = (if x3 ≤ x2 then (some (none, D, E)) else (if x2 < 0 ∨ 24 ≤ x2.toNatClampNeg then none else (Ja_fillI_now_notes_5 x1 (x2 + (1 : Int32)) x3 (dset D 47 0 x2.toNatClampNeg x1) E))) := (pEg m243 (d := 0) 15 _ _ _ _).trans rfl
set_option maxRecDepth 100000 in
set_option maxHeartbeats 4000000 in
theorem e_Ja_fillB_four_given (x1 : Int32) (D : pD) (E : pDL) : Ja_fillB_four_given x1 D E = (Ja_fillB_four_given_5 x1 (0 : Int32) (nI 1920) D E) := (pEg m244 (d := 0) 10 _ _ _ _).trans rfl
set_option maxRecDepth 100000 in
set_option maxHeartbeats 4000000 in
theorem e_Bk_lostByTraits (x1 : Int32) (x2 : Int32) (x3 : Int32) (D : pD) (E : pDL) : Bk_lostByTraits x1 x2 x3 D E = (pB1 (Bk_setting (5 : Int32) D E) fun y1 D1 E1 => (pB1 (Bk_lacksOf x1 x2 D1 E1) fun y2 D2 E2 => (pB1 (Bk_weightsOf (y2 &&& (x3 ^^^ (-1 : Int32))) D2 E2) fun y3 D3 E3 => (pB1 (Bk_setting (6 : Int32) D3 E3) fun y4 D4 E4 => (pB1 (Bk_addsOf x1 x2 D4 E4) fun y5 D5 E5 => (pB1 (Bk_weightsOf y5 D5 E5) fun y6 D6 E6 => (some (some (.inl ((y1 * y3) + (y4 * y6))), D6, E6)))))))) := (pEg m12 (d := 2) 31 _ _ _ _).trans rfl
set_option maxRecDepth 100000 in
set_option maxHeartbeats 4000000 in
theorem e_Rn_isBorrowed (x1 : Int32) (D : pD) (E : pDL) : Rn_isBorrowed x1 D E = (if x1 < 0 ∨ 24 ≤ x1.toNatClampNeg then none else (if (D 43 0 x1.toNatClampNeg) = (3 : Int32) then (some (some (.inl (1 : Int32)), D, E)) else (some (some (.inl (0 : Int32)), D, E)))) := (pEg m60 (d := 0) 16 _ _ _ _).trans rfl
set_option maxRecDepth 100000 in
set_option maxHeartbeats 4000000 in
theorem e_Rn_isClashing (x1 : Int32) (x2 : Int32) (x3 : Int32) (x4 : Int32) (D : pD) (E : pDL) : Rn_isClashing x1 x2 x3 x4 D E = (pB1 (Bk_otherPlace x1 x2 D E) fun y1 D1 E1 => (if y1 = (-1 : Int32) then (some (some (.inl (0 : Int32)), D1, E1)) else (pB1 (Rn_isChosen y1 D1 E1) fun y2 D2 E2 => (if y2 = 0 then (some (some (.inl (0 : Int32)), D2, E2)) else (pB1 (Rn_traitsAt_held_wordTraits y1 D2 E2) fun y3 D3 E3 => (if x4 = 0 then (pB1 (Bk_wouldClash x1 x3 y3 (0 : Int32) D3 E3) fun y4 D4 E4 => (if y4 = 0 then (some (some (.inl (0 : Int32)), D4, E4)) else (some (some (.inl (1 : Int32)), D4, E4)))) else (pB1 (Rn_isBorrowed y1 D3 E3) fun y5 D5 E5 => (if y5 = 0 then (pB1 (Bk_wouldClash x1 x3 y3 (0 : Int32) D5 E5) fun y6 D6 E6 => (if y6 = 0 then (some (some (.inl (0 : Int32)), D6, E6)) else (some (some (.inl (1 : Int32)), D6, E6)))) else (pB1 (Bk_wouldClash x1 x3 y3 (1 : Int32) D5 E5) fun y7 D7 E7 => (if y7 = 0 then (some (some (.inl (0 : Int32)), D7, E7)) else (some (some (.inl (1 : Int32)), D7, E7)))))))))))) := (pEg m68 (d := 2) 63 _ _ _ _).trans rfl
set_option maxRecDepth 100000 in
set_option maxHeartbeats 4000000 in
theorem e_Bk_boundBy_26 (x2 : Int32) (x3 : Int32) (x4 : Int32) (x5 : Int32) (D : pD) (E : pDL) : Bk_boundBy_26 x2 x3 x4 x5 D E = (if (D 4 0 3) ≤ x5 then (Bk_boundBy_9 x2 x3 (x4 + (1 : Int32)) D E) else (if x5 < 0 ∨ 20 ≤ x5.toNatClampNeg then none else (if x5 < 0 ∨ 20 ≤ x5.toNatClampNeg then none else (if (x2 &&& (((1 : Int32) <<< ((D 12 0 x5.toNatClampNeg) &&& 31)) ||| ((1 : Int32) <<< ((D 13 0 x5.toNatClampNeg) &&& 31)))) = 0 then (Bk_boundBy_26 x2 x3 x4 (x5 + (1 : Int32)) D E) else (Bk_boundBy_26 (x2 ||| (((1 : Int32) <<< ((D 12 0 x5.toNatClampNeg) &&& 31)) ||| ((1 : Int32) <<< ((D 13 0 x5.toNatClampNeg) &&& 31)))) x3 x4 (x5 + (1 : Int32)) D E))))) := (pEg m15 (d := 0) 39 _ _ _ _).trans rfl
set_option maxRecDepth 100000 in
set_option maxHeartbeats 4000000 in
theorem e_Se_begin_28 (x2 : Int32) (x3 : Int32) (D : pD) (E : pDL) : Se_begin_28 x2 x3 D E = (if (D 4 0 2) ≤ x3 then (Se_begin_141 (0 : Int32) D E) else (if ((x2 >>> (x3 &&& 31)) &&& (1 : Int32)) = 0 then (Se_begin_28 x2 (x3 + (1 : Int32)) D E) else (if (4 : Int32) ≤ (D 50 0 7) then (Se_begin_28 x2 (x3 + (1 : Int32)) D E) else (if (D 50 0 7) < 0 ∨ 4 ≤ (D 50 0 7).toNatClampNeg then none else (Se_begin_70 x2 x3 (0 : Int32) (dset D 51 0 (D 50 0 7).toNatClampNeg x3) E))))) := (pEg m84 (d := 4) 36 _ _ _ _).trans rfl
set_option maxRecDepth 100000 in
set_option maxHeartbeats 4000000 in
theorem e_Se_settle (dd : Nat) (x1 : Int32) (x2 : Int32) (D : pD) (E : pDL) : Se_settle (dd + 8) x1 x2 D E = (if x1 < (D 50 0 7) then (Se_settle_30 (dd + 8) x1 x2 (0 : Int32) D E) else (some (none, (dcpy (dset D 50 0 9 x2) 55 0 56 0 4), E))) := (pEg m89 (d := dd + 8) 23 _ _ _ _).trans rfl
set_option maxRecDepth 100000 in
set_option maxHeartbeats 4000000 in
theorem e_Se_putBest_52 (x3 : Int32) (D : pD) (E : pDL) : Se_putBest_52 x3 D E = (if (D 50 0 7) ≤ x3 then (some (some (.inl (1 : Int32)), D, E)) else (if x3 < 0 ∨ 4 ≤ x3.toNatClampNeg then none else (if x3 < 0 ∨ 4 ≤ x3.toNatClampNeg then none else (pB0 (Rn_putOption (D 51 0 x3.toNatClampNeg) (D 56 0 x3.toNatClampNeg) D E) fun D1 E1 => (Se_putBest_52 (x3 + (1 : Int32)) D1 E1))))) := (pEg m83 (d := 9) 23 _ _ _ _).trans rfl
set_option maxRecDepth 100000 in
set_option maxHeartbeats 4000000 in
theorem e_Se_obeyTie (x2 : Int32) (D : pD) (E : pDL) : Se_obeyTie x2 D E = (if x2 < 0 ∨ 20 ≤ x2.toNatClampNeg then none else (pB1 (Se_levelOf (D 12 0 x2.toNatClampNeg) D E) fun y1 D1 E1 => (if x2 < 0 ∨ 20 ≤ x2.toNatClampNeg then none else (pB1 (Se_levelOf (D1 13 0 x2.toNatClampNeg) D1 E1) fun y2 D2 E2 => (if y1 = (-1 : Int32) then (Se_obeyTie_61 x2 y1 y2 D2 E2) else (if y2 = (-1 : Int32) then (Se_obeyTie_61 x2 y1 y2 D2 E2) else (pB0 (Se_obeyInside x2 (if y2 < y1 then y2 else y1) (if y1 < y2 then y2 else y1) D2 E2) fun D3 E3 => (some (none, D3, E3))))))))) := (pEg m86 (d := 4) 39 _ _ _ _).trans rfl
set_option maxRecDepth 100000 in
set_option maxHeartbeats 4000000 in
theorem e_Rn_exchangeRound_4 (x1 : Int32) (x2 : Int32) (D : pD) (E : pDL) : Rn_exchangeRound_4 x1 x2 D E = (if (D 4 0 2) ≤ x2 then (if x1 &&& 1 = x1 then some (some (.inl x1), D, E) else none) else (pB1 (Rn_isChosen x2 D E) fun y1 D1 E1 => (if y1 = 0 then (Rn_exchangeRound_4 x1 (x2 + (1 : Int32)) D1 E1) else (pB1 (Rn_exchangeAt x2 D1 E1) fun y2 D2 E2 => (if y2 = 0 then (Rn_exchangeRound_4 x1 (x2 + (1 : Int32)) D2 E2) else (Rn_exchangeRound_4 (1 : Int32) (x2 + (1 : Int32)) D2 E2)))))) := (pEg m74 (d := 5) 30 _ _ _ _).trans rfl
set_option maxRecDepth 100000 in
set_option maxHeartbeats 4000000 in
theorem e_Rn_lostWithOption (x1 : Int32) (x2 : Int32) (D : pD) (E : pDL) : Rn_lostWithOption x1 x2 D E = (pB1 (Rn_traitsOfOption x2 D E) fun y1 D1 E1 => (if x1 < 0 ∨ 24 ≤ x1.toNatClampNeg then none else (pB1 (Bk_lostByTraits x1 y1 (D1 47 0 x1.toNatClampNeg) D1 E1) fun y2 D2 E2 => (pB1 (Rn_isBorrowedOption x2 D2 E2) fun y3 D3 E3 => (if y3 = 0 then (some (some (.inl (y2 + (0 : Int32))), D3, E3)) else (pB1 (Bk_setting (7 : Int32) D3 E3) fun y4 D4 E4 => (some (some (.inl (y2 + y4)), D4, E4)))))))) := (pEg m72 (d := 3) 30 _ _ _ _).trans rfl
set_option maxRecDepth 100000 in
set_option maxHeartbeats 4000000 in
theorem e_Rn_lostWithLeast_53 (x1 : Int32) (x2 : Int32) (x3 : Int32) (x4 : Int32) (x5 : Int32) (D : pD) (E : pDL) : Rn_lostWithLeast_53 x1 x2 x3 x4 x5 D E = (if (D 4 0 1) ≤ x5 then (Rn_lostWithLeast_4 x1 (x2 + x4) (x3 + (1 : Int32)) D E) else (pB1 (Rn_lostWithOption x3 x5 D E) fun y1 D1 E1 => (Rn_lostWithLeast_53 x1 x2 x3 (if y1 < x4 then y1 else x4) (x5 + (1 : Int32)) D1 E1))) := (pEg m77 (d := 4) 27 _ _ _ _).trans rfl
set_option maxRecDepth 100000 in
set_option maxHeartbeats 4000000 in
theorem e_Bk_wordForAll_41 (x2 : Int32) (x3 : Int32) (D : pD) (E : pDL) : Bk_wordForAll_41 x2 x3 D E = (if (D 4 0 1) ≤ x3 then (some (some (.inl (-1 : Int32)), D, E)) else (if x3 < 0 ∨ 20 ≤ x3.toNatClampNeg then none else (if (x2 &&& ((D 9 0 x3.toNatClampNeg) ^^^ (-1 : Int32))) = 0 then (some (some (.inl x3), D, E)) else (Bk_wordForAll_41 x2 (x3 + (1 : Int32)) D E)))) := (pEg m16 (d := 0) 26 _ _ _ _).trans rfl
set_option maxRecDepth 100000 in
set_option maxHeartbeats 4000000 in
theorem e_Rn_mendOnce_9 (x1 : Int32) (x2 : Int32) (x3 : Int32) (x4 : Int32) (D : pD) (E : pDL) : Rn_mendOnce_9 x1 x2 x3 x4 D E = (if (D 4 0 2) ≤ x4 then (if x1 = 0 then (some (some (.inl (0 : Int32)), D, E)) else (if x2 < 0 ∨ 24 ≤ x2.toNatClampNeg then none else (if x2 < 0 ∨ 24 ≤ x2.toNatClampNeg then none else (some (some (.inl (1 : Int32)), (dset D 47 0 x2.toNatClampNeg ((D 47 0 x2.toNatClampNeg) ||| ((1 : Int32) <<< (x3 &&& 31)))), E))))) else (pB1 (Rn_untoldLacks x4 D E) fun y1 D1 E1 => (Rn_mendOnce_34 x1 x2 x3 x4 y1 (0 : Int32) D1 E1))) := (pEg m79 (d := 3) 34 _ _ _ _).trans rfl
set_option maxRecDepth 100000 in
set_option maxHeartbeats 4000000 in
theorem e_Bk_weightsOf (x1 : Int32) (D : pD) (E : pDL) : Bk_weightsOf x1 D E = (if (x1 &&& (63 : Int32)) < 0 ∨ 256 ≤ (x1 &&& (63 : Int32)).toNatClampNeg then none else (if ((64 : Int32) + ((x1 >>> ((6 : Int32) &&& 31)) &&& (63 : Int32))) < 0 ∨ 256 ≤ ((64 : Int32) + ((x1 >>> ((6 : Int32) &&& 31)) &&& (63 : Int32))).toNatClampNeg then none else (if ((128 : Int32) + ((x1 >>> ((12 : Int32) &&& 31)) &&& (63 : Int32))) < 0 ∨ 256 ≤ ((128 : Int32) + ((x1 >>> ((12 : Int32) &&& 31)) &&& (63 : Int32))).toNatClampNeg then none else (if ((192 : Int32) + ((x1 >>> ((18 : Int32) &&& 31)) &&& (63 : Int32))) < 0 ∨ 256 ≤ ((192 : Int32) + ((x1 >>> ((18 : Int32) &&& 31)) &&& (63 : Int32))).toNatClampNeg then none else (some (some (.inl ((((D 7 0 (x1 &&& (63 : Int32)).toNatClampNeg) + (D 7 0 ((64 : Int32) + ((x1 >>> ((6 : Int32) &&& 31)) &&& (63 : Int32))).toNatClampNeg)) + (D 7 0 ((128 : Int32) + ((x1 >>> ((12 : Int32) &&& 31)) &&& (63 : Int32))).toNatClampNeg)) + (D 7 0 ((192 : Int32) + ((x1 >>> ((18 : Int32) &&& 31)) &&& (63 : Int32))).toNatClampNeg))), D, E)))))) := (pEg m8 (d := 0) 47 _ _ _ _).trans rfl
set_option maxRecDepth 100000 in
set_option maxHeartbeats 4000000 in
theorem e_Rn_isChosen_k0 (x1 : Int32) (D : pD) (E : pDL) : Rn_isChosen_k0 x1 D E = (if x1 < 0 ∨ 24 ≤ x1.toNatClampNeg then none else (if (D 77 0 x1.toNatClampNeg) = (-1 : Int32) then (some (some (.inl (0 : Int32)), D, E)) else (some (some (.inl (1 : Int32)), D, E)))) := (pEg m59 (d := 0) 16 _ _ _ _).trans rfl
set_option maxRecDepth 100000 in
set_option maxHeartbeats 4000000 in
theorem e_Rn_heardAt_k0 (x1 : Int32) (x2 : Int32) (D : pD) (E : pDL) : Rn_heardAt_k0 x1 x2 D E = (pB1 (Rn_traitsAt_k0_held_wordTraits x2 D E) fun y1 D1 E1 => (if x2 < 0 ∨ 24 ≤ x2.toNatClampNeg then none else (if x1 < 0 ∨ 6 ≤ x1.toNatClampNeg then none else (some (some (.inl ((y1 ||| (D1 81 0 x2.toNatClampNeg)) &&& (D1 15 0 x1.toNatClampNeg))), D1, E1))))) := (pEg m81 (d := 2) 23 _ _ _ _).trans rfl
set_option maxRecDepth 100000 in
set_option maxHeartbeats 4000000 in
theorem e_Rn_lostOfAll_k0_held_wordTraits (D : pD) (E : pDL) : Rn_lostOfAll_k0_held_wordTraits  D E = (Rn_lostOfAll_k0_held_wordTraits_4 (0 : Int32) (0 : Int32) D E) := (pEg m66 (d := 4) 9 _ _ _ _).trans rfl
set_option maxRecDepth 100000 in
set_option maxHeartbeats 4000000 in
theorem e_Hb_nearer_98 (x1 : Int32) (x2 : Int32) (s0 : Int32) (D : pD) (E : pDL) : Hb_nearer_98 x1 x2 s0 D E = (if x1 < 0 ∨ 4 ≤ x1.toNatClampNeg then none else (if x1.toNatClampNeg = 0 then (pB1 (Rn_lostOfAll_k0_held_wordTraits D E) fun y1 D1 E1 => (Hb_nearer_117 x1 x2 (s0 - y1) D1 E1)) else (if x1.toNatClampNeg - 1 = 0 then (pB1 (Rn_lostOfAll_k1_held_wordTraits D E) fun y2 D2 E2 => (Hb_nearer_117 x1 x2 (s0 - y2) D2 E2)) else (if x1.toNatClampNeg - 1 - 1 = 0 then (pB1 (Rn_lostOfAll_k2_held_wordTraits D E) fun y3 D3 E3 => (Hb_nearer_117 x1 x2 (s0 - y3) D3 E3)) else (if x1.toNatClampNeg - 1 - 1 - 1 = 0 then (pB1 (Rn_lostOfAll_k3_held_wordTraits D E) fun y4 D4 E4 => (Hb_nearer_117 x1 x2 (s0 - y4) D4 E4)) else none))))) := (pEg m131 (d := 5) 33 _ _ _ _).trans rfl
set_option maxRecDepth 100000 in
set_option maxHeartbeats 4000000 in
theorem e_Rn_lostOfAll_k1_held_wordTraits (D : pD) (E : pDL) : Rn_lostOfAll_k1_held_wordTraits  D E = (Rn_lostOfAll_k1_held_wordTraits_4 (0 : Int32) (0 : Int32) D E) := (pEg m66 (d := 4) 9 _ _ _ _).trans rfl
set_option maxRecDepth 100000 in
set_option maxHeartbeats 4000000 in
theorem e_Rn_lostOfAll_k2_held_wordTraits (D : pD) (E : pDL) : Rn_lostOfAll_k2_held_wordTraits  D E = (Rn_lostOfAll_k2_held_wordTraits_4 (0 : Int32) (0 : Int32) D E) := (pEg m66 (d := 4) 9 _ _ _ _).trans rfl
set_option maxRecDepth 100000 in
set_option maxHeartbeats 4000000 in
theorem e_Rn_lostOfAll_k3_held_wordTraits (D : pD) (E : pDL) : Rn_lostOfAll_k3_held_wordTraits  D E = (Rn_lostOfAll_k3_held_wordTraits_4 (0 : Int32) (0 : Int32) D E) := (pEg m66 (d := 4) 9 _ _ _ _).trans rfl
set_option maxRecDepth 100000 in
set_option maxHeartbeats 4000000 in
theorem e_Hb_nearer_117 (x1 : Int32) (x2 : Int32) (x4 : Int32) (D : pD) (E : pDL) : Hb_nearer_117 x1 x2 x4 D E = (if x4 = 0 then (some (some (.inl (-1 : Int32)), D, E)) else (if x4 ≤ 0 then (some (some (.inl x2), D, E)) else (some (some (.inl x1), D, E)))) := (pEg m131 (d := 5) 16 _ _ _ _).trans rfl
set_option maxRecDepth 100000 in
set_option maxHeartbeats 4000000 in
theorem e_Rn_isChosen_k1 (x1 : Int32) (D : pD) (E : pDL) : Rn_isChosen_k1 x1 D E = (if x1 < 0 ∨ 24 ≤ x1.toNatClampNeg then none else (if (D 83 0 x1.toNatClampNeg) = (-1 : Int32) then (some (some (.inl (0 : Int32)), D, E)) else (some (some (.inl (1 : Int32)), D, E)))) := (pEg m59 (d := 0) 16 _ _ _ _).trans rfl
set_option maxRecDepth 100000 in
set_option maxHeartbeats 4000000 in
theorem e_Rn_heardAt_k1 (x1 : Int32) (x2 : Int32) (D : pD) (E : pDL) : Rn_heardAt_k1 x1 x2 D E = (pB1 (Rn_traitsAt_k1_held_wordTraits x2 D E) fun y1 D1 E1 => (if x2 < 0 ∨ 24 ≤ x2.toNatClampNeg then none else (if x1 < 0 ∨ 6 ≤ x1.toNatClampNeg then none else (some (some (.inl ((y1 ||| (D1 87 0 x2.toNatClampNeg)) &&& (D1 15 0 x1.toNatClampNeg))), D1, E1))))) := (pEg m81 (d := 2) 23 _ _ _ _).trans rfl
set_option maxRecDepth 100000 in
set_option maxHeartbeats 4000000 in
theorem e_Rn_isChosen_k2 (x1 : Int32) (D : pD) (E : pDL) : Rn_isChosen_k2 x1 D E = (if x1 < 0 ∨ 24 ≤ x1.toNatClampNeg then none else (if (D 89 0 x1.toNatClampNeg) = (-1 : Int32) then (some (some (.inl (0 : Int32)), D, E)) else (some (some (.inl (1 : Int32)), D, E)))) := (pEg m59 (d := 0) 16 _ _ _ _).trans rfl
set_option maxRecDepth 100000 in
set_option maxHeartbeats 4000000 in
theorem e_Rn_heardAt_k2 (x1 : Int32) (x2 : Int32) (D : pD) (E : pDL) : Rn_heardAt_k2 x1 x2 D E = (pB1 (Rn_traitsAt_k2_held_wordTraits x2 D E) fun y1 D1 E1 => (if x2 < 0 ∨ 24 ≤ x2.toNatClampNeg then none else (if x1 < 0 ∨ 6 ≤ x1.toNatClampNeg then none else (some (some (.inl ((y1 ||| (D1 93 0 x2.toNatClampNeg)) &&& (D1 15 0 x1.toNatClampNeg))), D1, E1))))) := (pEg m81 (d := 2) 23 _ _ _ _).trans rfl
set_option maxRecDepth 100000 in
set_option maxHeartbeats 4000000 in
theorem e_Rn_isChosen_k3 (x1 : Int32) (D : pD) (E : pDL) : Rn_isChosen_k3 x1 D E = (if x1 < 0 ∨ 24 ≤ x1.toNatClampNeg then none else (if (D 95 0 x1.toNatClampNeg) = (-1 : Int32) then (some (some (.inl (0 : Int32)), D, E)) else (some (some (.inl (1 : Int32)), D, E)))) := (pEg m59 (d := 0) 16 _ _ _ _).trans rfl
set_option maxRecDepth 100000 in
set_option maxHeartbeats 4000000 in
theorem e_Rn_heardAt_k3 (x1 : Int32) (x2 : Int32) (D : pD) (E : pDL) : Rn_heardAt_k3 x1 x2 D E = (pB1 (Rn_traitsAt_k3_held_wordTraits x2 D E) fun y1 D1 E1 => (if x2 < 0 ∨ 24 ≤ x2.toNatClampNeg then none else (if x1 < 0 ∨ 6 ≤ x1.toNatClampNeg then none else (some (some (.inl ((y1 ||| (D1 99 0 x2.toNatClampNeg)) &&& (D1 15 0 x1.toNatClampNeg))), D1, E1))))) := (pEg m81 (d := 2) 23 _ _ _ _).trans rfl
set_option maxRecDepth 100000 in
set_option maxHeartbeats 4000000 in
theorem e_Fo_costOf (x1 : Int32) (x2 : Int32) (D : pD) (E : pDL) : Fo_costOf x1 x2 D E = (Fo_costOf_8 x1 x2 (0 : Int32) (0 : Int32) (0 : Int32) D E) := (pEg m23 (d := 1) 11 _ _ _ _).trans rfl
set_option maxRecDepth 100000 in
set_option maxHeartbeats 4000000 in
theorem e_Rn_lostAt_years_words (x1 : Int32) (D : pD) (E : pDL) : Rn_lostAt_years_words x1 D E = (pB1 (Rn_isChosen x1 D E) fun y1 D1 E1 => (if y1 = 0 then (some (some (.inl (0 : Int32)), D1, E1)) else (if x1 < 0 ∨ 24 ≤ x1.toNatClampNeg then none else (if (D1 45 0 x1.toNatClampNeg) = (-1 : Int32) then (if x1 < 0 ∨ 24 ≤ x1.toNatClampNeg then none else (if (D1 46 0 x1.toNatClampNeg) = (-1 : Int32) then (Rn_lostAt_years_words_40 x1 (0 : Int32) (0 : Int32) D1 E1) else (Rn_lostAt_years_words_40 x1 (1 : Int32) (0 : Int32) D1 E1))) else (if x1 < 0 ∨ 24 ≤ x1.toNatClampNeg then none else (if (D1 46 0 x1.toNatClampNeg) = (-1 : Int32) then (Rn_lostAt_years_words_40 x1 (0 : Int32) (1 : Int32) D1 E1) else (Rn_lostAt_years_words_40 x1 (1 : Int32) (1 : Int32) D1 E1))))))) := (pEg m65 (d := 3) 38 _ _ _ _).trans rfl
set_option maxRecDepth 100000 in
set_option maxHeartbeats 4000000 in
theorem e_Ye_turns_years_words_58 (x5 : Int32) (x6 : Int32) (D : pD) (E : pDL) : Ye_turns_years_words_58 x5 x6 D E = (if (D 4 0 2) ≤ x6 then (some (some (.inl x5), D, E)) else (pB1 (Rn_lostAt_years_words x6 D E) fun y1 D1 E1 => (if x6 < 0 ∨ 24 ≤ x6.toNatClampNeg then none else (if y1 = (D1 64 0 x6.toNatClampNeg) then (Ye_turns_years_words_58 (x5 + (0 : Int32)) (x6 + (1 : Int32)) D1 E1) else (Ye_turns_years_words_58 (x5 + (1 : Int32)) (x6 + (1 : Int32)) D1 E1))))) := (pEg m99 (d := 4) 35 _ _ _ _).trans rfl
set_option maxRecDepth 100000 in
set_option maxHeartbeats 4000000 in
theorem e_La_gather_65 (x1 : Int32) (x2 : Int32) (x3 : Int32) (D : pD) (E : pDL) : La_gather_65 x1 x2 x3 D E = (if (24 : Int32) ≤ x3 then (some (some (.inl (D 65 0 10)), D, E)) else (La_gather_74 x1 x2 x3 x3 D E)) := (pEg m30 (d := 1) 13 _ _ _ _).trans rfl
set_option maxRecDepth 100000 in
set_option maxHeartbeats 4000000 in
theorem e_La_setsWithin_4 (x1 : Int32) (x2 : Int32) (x3 : Int32) (D : pD) (E : pDL) : La_setsWithin_4 x1 x2 x3 D E = (if (D 65 0 10) ≤ x3 then (some (some (.inl x2), D, E)) else (if x3 < 0 ∨ 300 ≤ x3.toNatClampNeg then none else (if ((D 75 0 x3.toNatClampNeg) &&& (x1 ^^^ (-1 : Int32))) = 0 then (La_setsWithin_4 x1 (x2 + (1 : Int32)) (x3 + (1 : Int32)) D E) else (La_setsWithin_4 x1 (x2 + (0 : Int32)) (x3 + (1 : Int32)) D E)))) := (pEg m33 (d := 0) 32 _ _ _ _).trans rfl
set_option maxRecDepth 100000 in
set_option maxHeartbeats 4000000 in
theorem e_Mo_see (x1 : Int32) (D : pD) (E : pDL) : Mo_see x1 D E = (if (D 100 0 2) ≤ x1 then (some (some (.inl (-1 : Int32)), D, E)) else (if x1 < 0 ∨ 1200 ≤ x1.toNatClampNeg then none else (some (some (.inl ((D 101 0 x1.toNatClampNeg) &&& (255 : Int32))), D, E)))) := (pEg m149 (d := 0) 19 _ _ _ _).trans rfl
set_option maxRecDepth 100000 in
set_option maxHeartbeats 4000000 in
theorem e_Mo_isSmall (x0 : Int32) (D : pD) (E : pDL) : Mo_isSmall x0 D E = (if x0 < (97 : Int32) then (some (some (.inl (0 : Int32)), D, E)) else (if (122 : Int32) < x0 then (some (some (.inl (0 : Int32)), D, E)) else (some (some (.inl (1 : Int32)), D, E)))) := (pEg m150 (d := 0) 18 _ _ _ _).trans rfl
set_option maxRecDepth 100000 in
set_option maxHeartbeats 4000000 in
theorem e_Mo_isDigit (x0 : Int32) (D : pD) (E : pDL) : Mo_isDigit x0 D E = (if x0 < (48 : Int32) then (some (some (.inl (0 : Int32)), D, E)) else (if (57 : Int32) < x0 then (some (some (.inl (0 : Int32)), D, E)) else (some (some (.inl (1 : Int32)), D, E)))) := (pEg m151 (d := 0) 18 _ _ _ _).trans rfl
set_option maxRecDepth 100000 in
set_option maxHeartbeats 4000000 in
theorem e_Mo_scan_226 (x1 : Int32) (x3 : Int32) (D : pD) (E : pDL) : Mo_scan_226 x1 x3 D E = (pB1 (Mo_see x3 D E) fun y1 D1 E1 => (pB1 (Mo_isDigit y1 D1 E1) fun y2 D2 E2 => (if y2 = 0 then (if (x3 - x1) ≤ (3 : Int32) then (some (none, (dset (dset D2 100 0 3 (2 : Int32)) 100 0 6 x3), E2)) else (some (none, (dset (dset D2 100 0 3 (0 : Int32)) 100 0 6 x3), E2))) else (if (3 : Int32) ≤ (x3 - x1) then (Mo_scan_226 x1 (x3 + (1 : Int32)) (dset D2 100 0 7 (D2 100 0 7)) E2) else (pB1 (Mo_see x3 D2 E2) fun y3 D3 E3 => (Mo_scan_226 x1 (x3 + (1 : Int32)) (dset D3 100 0 7 ((((10 : Int32) * (D2 100 0 7)) + y3) - (48 : Int32))) E3)))))) := (pEg m153 (d := 2) 56 _ _ _ _).trans rfl
set_option maxRecDepth 100000 in
set_option maxHeartbeats 4000000 in
theorem e_Mo_scan_85 (x1 : Int32) (x3 : Int32) (D : pD) (E : pDL) : Mo_scan_85 x1 x3 D E = (pB1 (Mo_see x3 D E) fun y1 D1 E1 => (pB1 (Mo_isSmall y1 D1 E1) fun y2 D2 E2 => (if y2 = 0 then (if (x3 - x1) ≤ (24 : Int32) then (Mo_scan_185 x1 x3 (1 : Int32) D2 E2) else (Mo_scan_185 x1 x3 (0 : Int32) D2 E2)) else (if (12 : Int32) ≤ (x3 - x1) then (if (24 : Int32) ≤ (x3 - x1) then (Mo_scan_85 x1 (x3 + (1 : Int32)) D2 E2) else (pB1 (Mo_see x3 D2 E2) fun y3 D3 E3 => (Mo_scan_85 x1 (x3 + (1 : Int32)) D3 (lset E3 100 11 (((((lN 32) * (E2 100 11)) + y3.toInt64) - (lN 97)) + (lN 1)))))) else (pB1 (Mo_see x3 D2 E2) fun y4 D4 E4 => (Mo_scan_85 x1 (x3 + (1 : Int32)) D4 (lset E4 100 10 (((((lN 32) * (E2 100 10)) + y4.toInt64) - (lN 97)) + (lN 1))))))))) := (pEg m153 (d := 2) 66 _ _ _ _).trans rfl
set_option maxRecDepth 100000 in
set_option maxHeartbeats 4000000 in
theorem e_Mo_begin_66 (x1 : Int32) (D : pD) (E : pDL) : Mo_begin_66 x1 D E = (if (24 : Int32) ≤ x1 then (some (none, (dset D 100 0 26 (0 : Int32)), E)) else (if ((24 : Int32) + x1) < 0 ∨ 48 ≤ ((24 : Int32) + x1).toNatClampNeg then none else (Mo_begin_66 (x1 + (1 : Int32)) (dset D 114 0 ((24 : Int32) + x1).toNatClampNeg (1 : Int32)) E))) := (pEg m159 (d := 0) 21 _ _ _ _).trans rfl
set_option maxRecDepth 100000 in
set_option maxHeartbeats 4000000 in
theorem e_Mo_comes_m_num (x1 : Int32) (D : pD) (E : pDL) : Mo_comes_m_num x1 D E = (Mo_comes_m_num_2 x1 (0 : Int32) D E) := (pEg m160 (d := 0) 7 _ _ _ _).trans rfl
set_option maxRecDepth 100000 in
set_option maxHeartbeats 4000000 in
theorem e_Mo_comes_m_notionTraits (x1 : Int32) (D : pD) (E : pDL) : Mo_comes_m_notionTraits x1 D E = (Mo_comes_m_notionTraits_2 x1 (0 : Int32) D E) := (pEg m160 (d := 0) 7 _ _ _ _).trans rfl
set_option maxRecDepth 100000 in
set_option maxHeartbeats 4000000 in
theorem e_Mo_comes_m_wordTraits (x1 : Int32) (D : pD) (E : pDL) : Mo_comes_m_wordTraits x1 D E = (Mo_comes_m_wordTraits_2 x1 (0 : Int32) D E) := (pEg m160 (d := 0) 7 _ _ _ _).trans rfl
set_option maxRecDepth 100000 in
set_option maxHeartbeats 4000000 in
theorem e_Mo_comes_m_placeNotion (x1 : Int32) (D : pD) (E : pDL) : Mo_comes_m_placeNotion x1 D E = (Mo_comes_m_placeNotion_2 x1 (0 : Int32) D E) := (pEg m160 (d := 0) 7 _ _ _ _).trans rfl
set_option maxRecDepth 100000 in
set_option maxHeartbeats 4000000 in
theorem e_Mo_comes_m_placeBears (x1 : Int32) (D : pD) (E : pDL) : Mo_comes_m_placeBears x1 D E = (Mo_comes_m_placeBears_2 x1 (0 : Int32) D E) := (pEg m160 (d := 0) 7 _ _ _ _).trans rfl
set_option maxRecDepth 100000 in
set_option maxHeartbeats 4000000 in
theorem e_Mo_comes_m_tieOne (x1 : Int32) (D : pD) (E : pDL) : Mo_comes_m_tieOne x1 D E = (Mo_comes_m_tieOne_2 x1 (0 : Int32) D E) := (pEg m160 (d := 0) 7 _ _ _ _).trans rfl
set_option maxRecDepth 100000 in
set_option maxHeartbeats 4000000 in
theorem e_Mo_comes_m_tieTwo (x1 : Int32) (D : pD) (E : pDL) : Mo_comes_m_tieTwo x1 D E = (Mo_comes_m_tieTwo_2 x1 (0 : Int32) D E) := (pEg m160 (d := 0) 7 _ _ _ _).trans rfl
set_option maxRecDepth 100000 in
set_option maxHeartbeats 4000000 in
theorem e_Mo_comes_m_tieTraits (x1 : Int32) (D : pD) (E : pDL) : Mo_comes_m_tieTraits x1 D E = (Mo_comes_m_tieTraits_2 x1 (0 : Int32) D E) := (pEg m160 (d := 0) 7 _ _ _ _).trans rfl
set_option maxRecDepth 100000 in
set_option maxHeartbeats 4000000 in
theorem e_Mo_comes_m_knows (x1 : Int32) (D : pD) (E : pDL) : Mo_comes_m_knows x1 D E = (Mo_comes_m_knows_2 x1 (0 : Int32) D E) := (pEg m160 (d := 0) 7 _ _ _ _).trans rfl
set_option maxRecDepth 100000 in
set_option maxHeartbeats 4000000 in
theorem e_Mo_comes_m_laughsAt (x1 : Int32) (D : pD) (E : pDL) : Mo_comes_m_laughsAt x1 D E = (Mo_comes_m_laughsAt_2 x1 (0 : Int32) D E) := (pEg m160 (d := 0) 7 _ _ _ _).trans rfl
set_option maxRecDepth 100000 in
set_option maxHeartbeats 4000000 in
theorem e_Mo_comes_m_weight (x1 : Int32) (D : pD) (E : pDL) : Mo_comes_m_weight x1 D E = (Mo_comes_m_weight_2 x1 (0 : Int32) D E) := (pEg m160 (d := 0) 7 _ _ _ _).trans rfl
set_option maxRecDepth 100000 in
set_option maxHeartbeats 4000000 in
theorem e_Mo_settle_101 (x1 : Int32) (D : pD) (E : pDL) : Mo_settle_101 x1 D E = (if (24 : Int32) ≤ x1 then (Mo_settle_129 (0 : Int32) D E) else (if x1 < 0 ∨ 24 ≤ x1.toNatClampNeg then none else (if x1 < 0 ∨ 24 ≤ x1.toNatClampNeg then none else (Mo_settle_101 (x1 + (1 : Int32)) (dset (dset D 115 0 x1.toNatClampNeg (-1 : Int32)) 119 0 x1.toNatClampNeg (0 : Int32)) E)))) := (pEg m161 (d := 1) 22 _ _ _ _).trans rfl
set_option maxRecDepth 100000 in
set_option maxHeartbeats 4000000 in
theorem e_Mo_readClause_16 (s0 : Int32) (D : pD) (E : pDL) : Mo_readClause_16 s0 D E = (if s0.toInt = 0 then (pB1 (Mo_readName (0 : Int32) (0 : Int32) (12 : Int32) D E) fun y10 D10 E10 => (if y10 = 0 then (some (some (.inl (0 : Int32)), D10, E10)) else (pB1 (Mo_readSet D10 E10) fun y11 D11 E11 => (if y11 = 0 then (some (some (.inl (0 : Int32)), D11, E11)) else (if ((12 : Int32) + (D 102 0 10)) < 0 ∨ 24 ≤ ((12 : Int32) + (D 102 0 10)).toNatClampNeg then none else (some (some (.inl (1 : Int32)), (dset (dset D11 105 0 ((12 : Int32) + (D 102 0 10)).toNatClampNeg (D11 100 0 12)) 102 0 10 ((D11 102 0 10) + (1 : Int32))), E11))))))) else (if s0.toInt = 1 then (pB1 (Mo_readName (1 : Int32) (20 : Int32) (20 : Int32) D E) fun y8 D8 E8 => (if y8 = 0 then (some (some (.inl (0 : Int32)), D8, E8)) else (pB1 (Mo_readSet D8 E8) fun y9 D9 E9 => (if y9 = 0 then (some (some (.inl (0 : Int32)), D9, E9)) else (if ((20 : Int32) + (D 102 0 11)) < 0 ∨ 40 ≤ ((20 : Int32) + (D 102 0 11)).toNatClampNeg then none else (some (some (.inl (1 : Int32)), (dset (dset D9 106 0 ((20 : Int32) + (D 102 0 11)).toNatClampNeg (D9 100 0 12)) 102 0 11 ((D9 102 0 11) + (1 : Int32))), E9))))))) else (if s0.toInt = 2 then (pB1 (Mo_readPlace D E) fun y7 D7 E7 => (if y7 &&& 1 = y7 then some (some (.inl y7), D7, E7) else none)) else (if s0.toInt = 3 then (pB1 (Mo_readTie D E) fun y6 D6 E6 => (if y6 &&& 1 = y6 then some (some (.inl y6), D6, E6) else none)) else (if s0.toInt = 4 then (pB1 (Mo_readHearer D E) fun y5 D5 E5 => (if y5 &&& 1 = y5 then some (some (.inl y5), D5, E5) else none)) else (if s0.toInt = 5 then (pB1 (Mo_readWeight D E) fun y4 D4 E4 => (if y4 &&& 1 = y4 then some (some (.inl y4), D4, E4) else none)) else (pB1 (Mo_in s0 (6 : Int32) (10 : Int32) D E) fun y1 D1 E1 => (if y1 = 0 then (pB1 (Mo_fails (1 : Int32) D1 E1) fun y2 D2 E2 => (if y2 &&& 1 = y2 then some (some (.inl y2), D2, E2) else none)) else (pB1 (Mo_readTold s0 D1 E1) fun y3 D3 E3 => (if y3 &&& 1 = y3 then some (some (.inl y3), D3, E3) else none)))))))))) := (pEg m169 (d := 5) 106 _ _ _ _).trans rfl
set_option maxRecDepth 100000 in
set_option maxHeartbeats 4000000 in
theorem e_Mo_put (x1 : Int32) (x2 : Int32) (x3 : Int32) (x4 : Int32) (x5 : Int32) (D : pD) (E : pDL) : Mo_put x1 x2 x3 x4 x5 D E = (if x1 < 0 ∨ 24 ≤ x1.toNatClampNeg then none else (if x2 = (3 : Int32) then (Mo_put_m_wordA_22 x1 x2 x4 x5 (-1 : Int32) x1 (dset D 115 0 x1.toNatClampNeg x2) E) else (Mo_put_m_wordA_22 x1 x2 x4 x5 x3 x1 (dset D 115 0 x1.toNatClampNeg x2) E))) := (pEg m186 (d := 0) 19 _ _ _ _).trans rfl
set_option maxRecDepth 100000 in
set_option maxHeartbeats 4000000 in
theorem e_Mo_traitsOf_10 (x1 : Int32) (x2 : Int32) (x3 : Int32) (x4 : Int32) (D : pD) (E : pDL) : Mo_traitsOf_10 x1 x2 x3 x4 D E = (if (D 100 0 44) ≤ x4 then (some (some (.inl x3), D, E)) else (if x2 < 0 then (Mo_traitsOf_10 x1 x2 x3 (x4 + (1 : Int32)) D E) else (if x4 < 0 ∨ 40 ≤ x4.toNatClampNeg then none else (if (D 132 0 x4.toNatClampNeg) = x1 then (if x4 < 0 ∨ 40 ≤ x4.toNatClampNeg then none else (if x2 < (D 133 0 x4.toNatClampNeg) then (Mo_traitsOf_10 x1 x2 x3 (x4 + (1 : Int32)) D E) else (if x4 < 0 ∨ 40 ≤ x4.toNatClampNeg then none else (Mo_traitsOf_10 x1 x2 (D 134 0 x4.toNatClampNeg) (x4 + (1 : Int32)) D E)))) else (Mo_traitsOf_10 x1 x2 x3 (x4 + (1 : Int32)) D E))))) := (pEg m180 (d := 0) 38 _ _ _ _).trans rfl
set_option maxRecDepth 100000 in
set_option maxHeartbeats 4000000 in
theorem e_Mo_best_162 (x1 : Int32) (x2 : Int32) (x3 : Int32) (x4 : Int32) (x5 : Int32) (x6 : Int32) (D : pD) (E : pDL) : Mo_best_162 x1 x2 x3 x4 x5 x6 D E = (if x3 ≤ x6 then (if x4 = (-1 : Int32) then (Mo_best_238 x2 (0 : Int32) D E) else (pB1 (Mo_layRow x4 x2 D E) fun y1 D1 E1 => (pB1 (Mo_lostAll (-1 : Int32) D1 E1) fun y2 D2 E2 => (some (some (.inl y2), D2, E2))))) else (pB1 (Mo_layRow x6 x2 D E) fun y3 D3 E3 => (if x4 = (-1 : Int32) then (pB1 (Mo_isFree x1 D3 E3) fun y4 D4 E4 => (if y4 = 0 then (Mo_best_162 x1 x2 x3 x4 x5 (x6 + (1 : Int32)) D4 E4) else (Mo_best_162 x1 x2 x3 x6 y3 (x6 + (1 : Int32)) D4 E4))) else (if x5 ≤ y3 then (Mo_best_162 x1 x2 x3 x4 x5 (x6 + (1 : Int32)) D3 E3) else (pB1 (Mo_isFree x1 D3 E3) fun y5 D5 E5 => (if y5 = 0 then (Mo_best_162 x1 x2 x3 x4 x5 (x6 + (1 : Int32)) D5 E5) else (Mo_best_162 x1 x2 x3 x6 y3 (x6 + (1 : Int32)) D5 E5))))))) := (pEg m200 (d := 5) 61 _ _ _ _).trans rfl
set_option maxRecDepth 100000 in
set_option maxHeartbeats 4000000 in
theorem e_Mo_costs (D : pD) (E : pDL) : Mo_costs  D E = (pB1 (Mo_lostAll (-1 : Int32) D E) fun y1 D1 E1 => (pB1 (Mo_clashes D1 E1) fun y2 D2 E2 => (pB1 (Mo_bits y2 D2 E2) fun y3 D3 E3 => (some (some (.inl (y1 + ((100 : Int32) * y3))), D3, E3))))) := (pEg m202 (d := 5) 15 _ _ _ _).trans rfl
set_option maxRecDepth 100000 in
set_option maxHeartbeats 4000000 in
theorem e_Mo_exchange_85 (x1 : Int32) (x2 : Int32) (x3 : Int32) (x4 : Int32) (x5 : Int32) (x6 : Int32) (x7 : Int32) (x8 : Int32) (x9 : Int32) (x10 : Int32) (D : pD) (E : pDL) : Mo_exchange_85 x1 x2 x3 x4 x5 x6 x7 x8 x9 x10 D E = (if (D 102 0 1) < x10 then (if x9 = (-1 : Int32) then (if x3 < 0 ∨ 24 ≤ x3.toNatClampNeg then none else (if x3 < 0 ∨ 24 ≤ x3.toNatClampNeg then none else (if x3 < 0 ∨ 24 ≤ x3.toNatClampNeg then none else (if x3 < 0 ∨ 24 ≤ x3.toNatClampNeg then none else (Mo_exchange_18 x1 x2 (x3 + (1 : Int32)) (dset (dset (dset (dset D 115 0 x3.toNatClampNeg x5) 116 0 x3.toNatClampNeg x6) 117 0 x3.toNatClampNeg x7) 118 0 x3.toNatClampNeg x8) E))))) else (pB0 (Mo_putBy x3 x9 D E) fun D1 E1 => (Mo_exchange_18 (1 : Int32) x2 (x3 + (1 : Int32)) D1 E1))) else (pB0 (Mo_putBy x3 x10 D E) fun D2 E2 => (pB1 (Mo_costs D2 E2) fun y3 D3 E3 => (if y3 < x4 then (Mo_exchange_85 x1 x2 x3 y3 x5 x6 x7 x8 x10 (x10 + (1 : Int32)) D3 E3) else (Mo_exchange_85 x1 x2 x3 x4 x5 x6 x7 x8 x9 (x10 + (1 : Int32)) D3 E3))))) := (pEg m203 (d := 6) 64 _ _ _ _).trans rfl
set_option maxRecDepth 100000 in
set_option maxHeartbeats 4000000 in
theorem e_Mo_weigh_4 (x1 : Int32) (x2 : Int32) (x3 : Int32) (D : pD) (E : pDL) : Mo_weigh_4 x1 x2 x3 D E = (if (24 : Int32) ≤ x3 then (some (some (.inl x2), D, E)) else (if ((x1 >>> (x3 &&& 31)) &&& (1 : Int32)) = (1 : Int32) then (if x3 < 0 ∨ 48 ≤ x3.toNatClampNeg then none else (Mo_weigh_4 x1 (x2 + (D 114 0 x3.toNatClampNeg)) (x3 + (1 : Int32)) D E)) else (Mo_weigh_4 x1 (x2 + (0 : Int32)) (x3 + (1 : Int32)) D E))) := (pEg m179 (d := 0) 32 _ _ _ _).trans rfl
set_option maxRecDepth 100000 in
set_option maxHeartbeats 4000000 in
theorem e_Mo_makeFits_31 (x1 : Int32) (x2 : Int32) (x3 : Int32) (x4 : Int32) (x5 : Int32) (x6 : Int32) (D : pD) (E : pDL) : Mo_makeFits_31 x1 x2 x3 x4 x5 x6 D E = (if (D 100 0 48) ≤ x6 then (if x4 < 0 ∨ 300 ≤ x4.toNatClampNeg then none else (if (D 142 0 x4.toNatClampNeg) = 0 then (Mo_makeFits_5 x1 x2 (x3 + (0 : Int32)) (x4 + (1 : Int32)) D E) else (Mo_makeFits_5 x1 x2 (x3 + (1 : Int32)) (x4 + (1 : Int32)) D E))) else (if x6 < 0 ∨ 30 ≤ x6.toNatClampNeg then none else (if (D 136 0 x6.toNatClampNeg) = x1 then (if x6 < 0 ∨ 30 ≤ x6.toNatClampNeg then none else (if (D 135 0 x6.toNatClampNeg) ≤ x2 then (if x6 < 0 ∨ 30 ≤ x6.toNatClampNeg then none else (Mo_makeFits_77 x1 x2 x3 x4 x5 x6 (D 138 0 x6.toNatClampNeg) (0 : Int32) D E)) else (Mo_makeFits_31 x1 x2 x3 x4 x5 (x6 + (1 : Int32)) D E))) else (Mo_makeFits_31 x1 x2 x3 x4 x5 (x6 + (1 : Int32)) D E)))) := (pEg m237 (d := 1) 50 _ _ _ _).trans rfl
set_option maxRecDepth 100000 in
set_option maxHeartbeats 4000000 in
theorem e_Mo_setOf_17 (x1 : Int32) (x2 : Int32) (D : pD) (E : pDL) : Mo_setOf_17 x1 x2 D E = (if x1 < ((23 : Int32) - x2) then (some (some (.inl (((1 : Int32) <<< (x2 &&& 31)) ||| ((1 : Int32) <<< (((x2 + (1 : Int32)) + x1) &&& 31)))), D, E)) else (Mo_setOf_17 (x1 - ((23 : Int32) - x2)) (x2 + (1 : Int32)) D E)) := (pEg m236 (d := 0) 30 _ _ _ _).trans rfl
set_option maxRecDepth 100000 in
set_option maxHeartbeats 4000000 in
theorem e_Ja_fillI_draft_counts (x1 : Int32) (D : pD) (E : pDL) : Ja_fillI_draft_counts x1 D E = (Ja_fillI_draft_counts_5 x1 (0 : Int32) (nI 5) D E) := (pEg m243 (d := 0) 10 _ _ _ _).trans rfl
set_option maxRecDepth 100000 in
set_option maxHeartbeats 4000000 in
theorem e_Ja_fillI_draft_weights (x1 : Int32) (D : pD) (E : pDL) : Ja_fillI_draft_weights x1 D E = (Ja_fillI_draft_weights_5 x1 (0 : Int32) (nI 24) D E) := (pEg m243 (d := 0) 10 _ _ _ _).trans rfl
set_option maxRecDepth 100000 in
set_option maxHeartbeats 4000000 in
theorem e_Re_advance_8 (D : pD) (E : pDL) : Re_advance_8  D E = (if (D 17 0 7) ≤ (D 17 0 8) then (Re_advance_60 D E) else (if (D 17 0 6) = 1 then (if (D 17 0 8) < 0 ∨ 1200 ≤ (D 17 0 8).toNatClampNeg then none else (if (D 2 0 (D 17 0 8).toNatClampNeg) = (32 : Int32) then (Re_advance_8 (dset D 17 0 8 ((D 17 0 8) + (1 : Int32))) E) else (if (D 17 0 6) = 1 then (if (D 17 0 8) < 0 ∨ 1200 ≤ (D 17 0 8).toNatClampNeg then none else (if (D 2 0 (D 17 0 8).toNatClampNeg) = (10 : Int32) then (Re_advance_8 (dset D 17 0 8 ((D 17 0 8) + (1 : Int32))) E) else (Re_advance_60 D E))) else none))) else none)) := (pEg m39 (d := 1) 38 _ _ _ _).trans rfl
set_option maxRecDepth 100000 in
set_option maxHeartbeats 4000000 in
theorem e_Re_isWord_text0 (D : pD) (E : pDL) : Re_isWord_text0  D E = (if (nI 6) = ((D 17 0 9) - (D 17 0 8)) then (Re_isWord_text0_20 (0 : Int32) D E) else (some (some (.inl (0 : Int32)), D, E))) := (pEg m45 (d := 0) 17 _ _ _ _).trans rfl
set_option maxRecDepth 100000 in
set_option maxHeartbeats 4000000 in
theorem e_Re_isWord_text1 (D : pD) (E : pDL) : Re_isWord_text1  D E = (if (nI 4) = ((D 17 0 9) - (D 17 0 8)) then (Re_isWord_text1_20 (0 : Int32) D E) else (some (some (.inl (0 : Int32)), D, E))) := (pEg m45 (d := 0) 17 _ _ _ _).trans rfl
set_option maxRecDepth 100000 in
set_option maxHeartbeats 4000000 in
theorem e_Re_isWord_text2 (D : pD) (E : pDL) : Re_isWord_text2  D E = (if (nI 5) = ((D 17 0 9) - (D 17 0 8)) then (Re_isWord_text2_20 (0 : Int32) D E) else (some (some (.inl (0 : Int32)), D, E))) := (pEg m45 (d := 0) 17 _ _ _ _).trans rfl
set_option maxRecDepth 100000 in
set_option maxHeartbeats 4000000 in
theorem e_Re_isWord_text3 (D : pD) (E : pDL) : Re_isWord_text3  D E = (if (nI 3) = ((D 17 0 9) - (D 17 0 8)) then (Re_isWord_text3_20 (0 : Int32) D E) else (some (some (.inl (0 : Int32)), D, E))) := (pEg m45 (d := 0) 17 _ _ _ _).trans rfl
set_option maxRecDepth 100000 in
set_option maxHeartbeats 4000000 in
theorem e_Re_isWord_text4 (D : pD) (E : pDL) : Re_isWord_text4  D E = (if (nI 6) = ((D 17 0 9) - (D 17 0 8)) then (Re_isWord_text4_20 (0 : Int32) D E) else (some (some (.inl (0 : Int32)), D, E))) := (pEg m45 (d := 0) 17 _ _ _ _).trans rfl
set_option maxRecDepth 100000 in
set_option maxHeartbeats 4000000 in
theorem e_Re_isWord_text5 (D : pD) (E : pDL) : Re_isWord_text5  D E = (if (nI 4) = ((D 17 0 9) - (D 17 0 8)) then (Re_isWord_text5_20 (0 : Int32) D E) else (some (some (.inl (0 : Int32)), D, E))) := (pEg m45 (d := 0) 17 _ _ _ _).trans rfl
set_option maxRecDepth 100000 in
set_option maxHeartbeats 4000000 in
theorem e_Re_isWord_text6 (D : pD) (E : pDL) : Re_isWord_text6  D E = (if (nI 3) = ((D 17 0 9) - (D 17 0 8)) then (Re_isWord_text6_20 (0 : Int32) D E) else (some (some (.inl (0 : Int32)), D, E))) := (pEg m45 (d := 0) 17 _ _ _ _).trans rfl
set_option maxRecDepth 100000 in
set_option maxHeartbeats 4000000 in
theorem e_Re_isWord_text7 (D : pD) (E : pDL) : Re_isWord_text7  D E = (if (nI 6) = ((D 17 0 9) - (D 17 0 8)) then (Re_isWord_text7_20 (0 : Int32) D E) else (some (some (.inl (0 : Int32)), D, E))) := (pEg m45 (d := 0) 17 _ _ _ _).trans rfl
set_option maxRecDepth 100000 in
set_option maxHeartbeats 4000000 in
theorem e_Re_isWord_text8 (D : pD) (E : pDL) : Re_isWord_text8  D E = (if (nI 4) = ((D 17 0 9) - (D 17 0 8)) then (Re_isWord_text8_20 (0 : Int32) D E) else (some (some (.inl (0 : Int32)), D, E))) := (pEg m45 (d := 0) 17 _ _ _ _).trans rfl
set_option maxRecDepth 100000 in
set_option maxHeartbeats 4000000 in
theorem e_Re_isWord_text9 (D : pD) (E : pDL) : Re_isWord_text9  D E = (if (nI 5) = ((D 17 0 9) - (D 17 0 8)) then (Re_isWord_text9_20 (0 : Int32) D E) else (some (some (.inl (0 : Int32)), D, E))) := (pEg m45 (d := 0) 17 _ _ _ _).trans rfl
set_option maxRecDepth 100000 in
set_option maxHeartbeats 4000000 in
theorem e_Re_isWord_text10 (D : pD) (E : pDL) : Re_isWord_text10  D E = (if (nI 6) = ((D 17 0 9) - (D 17 0 8)) then (Re_isWord_text10_20 (0 : Int32) D E) else (some (some (.inl (0 : Int32)), D, E))) := (pEg m45 (d := 0) 17 _ _ _ _).trans rfl
set_option maxRecDepth 100000 in
set_option maxHeartbeats 4000000 in
theorem e_Re_refuse (x1 : Int32) (D : pD) (E : pDL) : Re_refuse x1 D E = (some (some (.inl (0 : Int32)), (dset (dset D 17 0 4 x1) 17 0 5 (D 17 0 8)), E)) := (pEg m41 (d := 0) 14 _ _ _ _).trans rfl
set_option maxRecDepth 100000 in
set_option maxHeartbeats 4000000 in
theorem e_Re_mayBegin_39 (x1 : Int32) (D : pD) (E : pDL) : Re_mayBegin_39 x1 D E = (if (4 : Int32) < x1 then (some (some (.inl (1 : Int32)), D, E)) else (if x1 < 0 ∨ 5 ≤ x1.toNatClampNeg then none else (pB1 (Bk_roomFor x1 D E) fun y1 D1 E1 => (if (D 19 0 x1.toNatClampNeg) < y1 then (some (some (.inl (1 : Int32)), D1, E1)) else (pB1 (Re_refuse (4 : Int32) D1 E1) fun y2 D2 E2 => (if y2 = 0 then (some (some (.inl (0 : Int32)), D2, E2)) else (some (some (.inl (1 : Int32)), D2, E2)))))))) := (pEg m42 (d := 1) 31 _ _ _ _).trans rfl
set_option maxRecDepth 100000 in
set_option maxHeartbeats 4000000 in
theorem e_Re_readSetting (x1 : Int32) (D : pD) (E : pDL) : Re_readSetting x1 D E = (if x1 = (5 : Int32) then (if x1 = (7 : Int32) then (Re_readSetting_42 x1 (99 : Int32) (1 : Int32) (dset D 17 0 13 ((D 17 0 13) ||| ((1 : Int32) <<< (x1 &&& 31)))) E) else (if x1 = (9 : Int32) then (Re_readSetting_42 x1 (99 : Int32) (1 : Int32) (dset D 17 0 13 ((D 17 0 13) ||| ((1 : Int32) <<< (x1 &&& 31)))) E) else (Re_readSetting_42 x1 (9 : Int32) (1 : Int32) (dset D 17 0 13 ((D 17 0 13) ||| ((1 : Int32) <<< (x1 &&& 31)))) E))) else (if x1 = (7 : Int32) then (Re_readSetting_42 x1 (99 : Int32) (0 : Int32) (dset D 17 0 13 ((D 17 0 13) ||| ((1 : Int32) <<< (x1 &&& 31)))) E) else (if x1 = (9 : Int32) then (Re_readSetting_42 x1 (99 : Int32) (0 : Int32) (dset D 17 0 13 ((D 17 0 13) ||| ((1 : Int32) <<< (x1 &&& 31)))) E) else (Re_readSetting_42 x1 (9 : Int32) (0 : Int32) (dset D 17 0 13 ((D 17 0 13) ||| ((1 : Int32) <<< (x1 &&& 31)))) E)))) := (pEg m52 (d := 3) 42 _ _ _ _).trans rfl
set_option maxRecDepth 100000 in
set_option maxHeartbeats 4000000 in
theorem e_Re_readWeight (D : pD) (E : pDL) : Re_readWeight  D E = (pB1 (Re_readSet D E) fun y1 D1 E1 => (if y1 = 0 then (some (some (.inl (0 : Int32)), D1, E1)) else (pB1 (Re_readNumber (0 : Int32) (9 : Int32) D1 E1) fun y2 D2 E2 => (if y2 = 0 then (some (some (.inl (0 : Int32)), D2, E2)) else (pB0 (Bk_weigh_draft (D2 17 0 11) (D2 17 0 12) D2 E2) fun D3 E3 => (some (some (.inl (1 : Int32)), D3, E3))))))) := (pEg m51 (d := 3) 26 _ _ _ _).trans rfl
set_option maxRecDepth 100000 in
set_option maxHeartbeats 4000000 in
theorem e_Re_readHearer (D : pD) (E : pDL) : Re_readHearer  D E = (pB1 (Re_readNewName_nh D E) fun y1 D1 E1 => (if y1 = 0 then (some (some (.inl (0 : Int32)), D1, E1)) else (pB1 (Re_readSet D1 E1) fun y2 D2 E2 => (if y2 = 0 then (some (some (.inl (0 : Int32)), D2, E2)) else (pB1 (Re_readSet D2 E2) fun y3 D3 E3 => (if y3 = 0 then (some (some (.inl (0 : Int32)), D3, E3)) else (if (D3 19 0 4) < 0 ∨ 6 ≤ (D3 19 0 4).toNatClampNeg then none else (if (D3 19 0 4) < 0 ∨ 6 ≤ (D3 19 0 4).toNatClampNeg then none else (some (some (.inl (1 : Int32)), (dset (dset (dset D3 30 0 (D3 19 0 4).toNatClampNeg (D2 17 0 11)) 31 0 (D3 19 0 4).toNatClampNeg (D3 17 0 11)) 19 0 4 ((D3 19 0 4) + (1 : Int32))), E3)))))))))) := (pEg m50 (d := 3) 55 _ _ _ _).trans rfl
set_option maxRecDepth 100000 in
set_option maxHeartbeats 4000000 in
theorem e_Re_readTie (D : pD) (E : pDL) : Re_readTie  D E = (pB1 (Re_readNumber (0 : Int32) ((D 19 0 2) - (1 : Int32)) D E) fun y1 D1 E1 => (if y1 = 0 then (some (some (.inl (0 : Int32)), D1, E1)) else (pB1 (Re_readNumber (0 : Int32) ((D 19 0 2) - (1 : Int32)) D1 E1) fun y2 D2 E2 => (if y2 = 0 then (some (some (.inl (0 : Int32)), D2, E2)) else (if (D2 17 0 12) = (D1 17 0 12) then (pB1 (Re_refuse (3 : Int32) D2 E2) fun y3 D3 E3 => (if y3 &&& 1 = y3 then some (some (.inl y3), D3, E3) else none)) else (pB1 (Re_readSet D2 E2) fun y4 D4 E4 => (if y4 = 0 then (some (some (.inl (0 : Int32)), D4, E4)) else (if (D4 19 0 3) < 0 ∨ 20 ≤ (D4 19 0 3).toNatClampNeg then none else (if (D4 19 0 3) < 0 ∨ 20 ≤ (D4 19 0 3).toNatClampNeg then none else (if (D4 19 0 3) < 0 ∨ 20 ≤ (D4 19 0 3).toNatClampNeg then none else (some (some (.inl (1 : Int32)), (dset (dset (dset (dset D4 27 0 (D4 19 0 3).toNatClampNeg (D1 17 0 12)) 28 0 (D4 19 0 3).toNatClampNeg (D2 17 0 12)) 29 0 (D4 19 0 3).toNatClampNeg (D4 17 0 11)) 19 0 3 ((D4 19 0 3) + (1 : Int32))), E4)))))))))))) := (pEg m49 (d := 3) 82 _ _ _ _).trans rfl
set_option maxRecDepth 100000 in
set_option maxHeartbeats 4000000 in
theorem e_Re_readPlace (D : pD) (E : pDL) : Re_readPlace  D E = (pB0 (Re_advance D E) fun D1 E1 => (if (D1 17 0 10) = (97 : Int32) then (if (D1 17 0 6) = 1 then (pB1 (Na_find_nn_tape_bytes (D1 17 0 8) (D1 17 0 9) D1 E1) fun y2 D2 E2 => (if y2 = (-1 : Int32) then (pB1 (Re_refuse (5 : Int32) D2 E2) fun y3 D3 E3 => (if y3 &&& 1 = y3 then some (some (.inl y3), D3, E3) else none)) else (pB1 (Re_readSet D2 E2) fun y4 D4 E4 => (if y4 = 0 then (some (some (.inl (0 : Int32)), D4, E4)) else (if y2 < 0 ∨ 12 ≤ y2.toNatClampNeg then none else (if ((D4 17 0 11) &&& ((D4 23 0 y2.toNatClampNeg) ^^^ (-1 : Int32))) = 0 then (if (D4 19 0 2) < 0 ∨ 24 ≤ (D4 19 0 2).toNatClampNeg then none else (if (D4 19 0 2) < 0 ∨ 24 ≤ (D4 19 0 2).toNatClampNeg then none else (some (some (.inl (1 : Int32)), (dset (dset (dset D4 25 0 (D4 19 0 2).toNatClampNeg y2) 26 0 (D4 19 0 2).toNatClampNeg (D4 17 0 11)) 19 0 2 ((D4 19 0 2) + (1 : Int32))), E4)))) else (pB1 (Re_refuse (6 : Int32) D4 E4) fun y5 D5 E5 => (if y5 &&& 1 = y5 then some (some (.inl y5), D5, E5) else none)))))))) else none) else (pB1 (Re_refuse (1 : Int32) D1 E1) fun y6 D6 E6 => (if y6 &&& 1 = y6 then some (some (.inl y6), D6, E6) else none)))) := (pEg m48 (d := 3) 82 _ _ _ _).trans rfl
set_option maxRecDepth 100000 in
set_option maxHeartbeats 4000000 in
theorem e_Re_readTraits_nw_draft_wordTraits (x2 : Int32) (D : pD) (E : pDL) : Re_readTraits_nw_draft_wordTraits x2 D E = (pB1 (Re_readNewName_nw D E) fun y1 D1 E1 => (if y1 = 0 then (some (some (.inl (0 : Int32)), D1, E1)) else (pB1 (Re_readSet D1 E1) fun y2 D2 E2 => (if y2 = 0 then (some (some (.inl (0 : Int32)), D2, E2)) else (if x2 < 0 ∨ 5 ≤ x2.toNatClampNeg then none else (if (D2 19 0 x2.toNatClampNeg) < 0 ∨ 20 ≤ (D2 19 0 x2.toNatClampNeg).toNatClampNeg then none else (if x2 < 0 ∨ 5 ≤ x2.toNatClampNeg then none else (if x2 < 0 ∨ 5 ≤ x2.toNatClampNeg then none else (some (some (.inl (1 : Int32)), (dset (dset D2 24 0 (D2 19 0 x2.toNatClampNeg).toNatClampNeg (D2 17 0 11)) 19 0 x2.toNatClampNeg ((D2 19 0 x2.toNatClampNeg) + (1 : Int32))), E2)))))))))) := (pEg m47 (d := 3) 36 _ _ _ _).trans rfl
set_option maxRecDepth 100000 in
set_option maxHeartbeats 4000000 in
theorem e_Re_readTraits_nn_draft_notionTraits (x2 : Int32) (D : pD) (E : pDL) : Re_readTraits_nn_draft_notionTraits x2 D E = (pB1 (Re_readNewName_nn D E) fun y1 D1 E1 => (if y1 = 0 then (some (some (.inl (0 : Int32)), D1, E1)) else (pB1 (Re_readSet D1 E1) fun y2 D2 E2 => (if y2 = 0 then (some (some (.inl (0 : Int32)), D2, E2)) else (if x2 < 0 ∨ 5 ≤ x2.toNatClampNeg then none else (if (D2 19 0 x2.toNatClampNeg) < 0 ∨ 12 ≤ (D2 19 0 x2.toNatClampNeg).toNatClampNeg then none else (if x2 < 0 ∨ 5 ≤ x2.toNatClampNeg then none else (if x2 < 0 ∨ 5 ≤ x2.toNatClampNeg then none else (some (some (.inl (1 : Int32)), (dset (dset D2 23 0 (D2 19 0 x2.toNatClampNeg).toNatClampNeg (D2 17 0 11)) 19 0 x2.toNatClampNeg ((D2 19 0 x2.toNatClampNeg) + (1 : Int32))), E2)))))))))) := (pEg m47 (d := 3) 36 _ _ _ _).trans rfl
set_option maxRecDepth 100000 in
set_option maxHeartbeats 4000000 in
theorem e_Bk_sumGroups_26 (x1 : Int32) (x2 : Int32) (x3 : Int32) (x4 : Int32) (D : pD) (E : pDL) : Bk_sumGroups_26 x1 x2 x3 x4 D E = (if x3 ≤ x4 then (Bk_sumGroups_2 (x1 + (1 : Int32)) D E) else (if (x2 + x4) < 0 ∨ 256 ≤ (x2 + x4).toNatClampNeg then none else (if x1 < 0 ∨ 24 ≤ x1.toNatClampNeg then none else (if ((x2 + x3) + x4) < 0 ∨ 256 ≤ ((x2 + x3) + x4).toNatClampNeg then none else (Bk_sumGroups_26 x1 x2 x3 (x4 + (1 : Int32)) (dset D 7 0 ((x2 + x3) + x4).toNatClampNeg ((D 7 0 (x2 + x4).toNatClampNeg) + (D 6 0 x1.toNatClampNeg))) E))))) := (pEg m7 (d := 0) 31 _ _ _ _).trans rfl
set_option maxRecDepth 100000 in
set_option maxHeartbeats 4000000 in
theorem e_Ja_fillB_four_given_5 (x1 : Int32) (x2 : Int32) (x3 : Int32) (D : pD) (E : pDL) : Ja_fillB_four_given_5 x1 x2 x3 D E = (if x3 ≤ x2 then (some (none, D, E)) else (if x2 < 0 ∨ 1920 ≤ x2.toNatClampNeg then none else (Ja_fillB_four_given_5 x1 (x2 + (1 : Int32)) x3 (dset D 58 0 x2.toNatClampNeg x1.toInt8.toInt32) E))) := (pEg m244 (d := 0) 15 _ _ _ _).trans rfl
set_option maxRecDepth 100000 in
set_option maxHeartbeats 4000000 in
theorem e_Bk_otherPlace (x1 : Int32) (x2 : Int32) (D : pD) (E : pDL) : Bk_otherPlace x1 x2 D E = (if x1 < 0 ∨ 20 ≤ x1.toNatClampNeg then none else (if (D 12 0 x1.toNatClampNeg) = x2 then (if x1 < 0 ∨ 20 ≤ x1.toNatClampNeg then none else (some (some (.inl (D 13 0 x1.toNatClampNeg)), D, E))) else (if x1 < 0 ∨ 20 ≤ x1.toNatClampNeg then none else (if (D 13 0 x1.toNatClampNeg) = x2 then (if x1 < 0 ∨ 20 ≤ x1.toNatClampNeg then none else (some (some (.inl (D 12 0 x1.toNatClampNeg)), D, E))) else (some (some (.inl (-1 : Int32)), D, E)))))) := (pEg m14 (d := 0) 30 _ _ _ _).trans rfl
set_option maxRecDepth 100000 in
set_option maxHeartbeats 4000000 in
theorem e_Bk_wouldClash (x1 : Int32) (x2 : Int32) (x3 : Int32) (x4 : Int32) (D : pD) (E : pDL) : Bk_wouldClash x1 x2 x3 x4 D E = (if x1 < 0 ∨ 20 ≤ x1.toNatClampNeg then none else (if ((x2 &&& x3) &&& (D 14 0 x1.toNatClampNeg)) = 0 then (if x4 = 0 then (some (some (.inl (1 : Int32)), D, E)) else (if x1 < 0 ∨ 20 ≤ x1.toNatClampNeg then none else (if (D 12 0 x1.toNatClampNeg) < 0 ∨ 24 ≤ (D 12 0 x1.toNatClampNeg).toNatClampNeg then none else (if x1 < 0 ∨ 20 ≤ x1.toNatClampNeg then none else (if (D 13 0 x1.toNatClampNeg) < 0 ∨ 24 ≤ (D 13 0 x1.toNatClampNeg).toNatClampNeg then none else (if (D 10 0 (D 12 0 x1.toNatClampNeg).toNatClampNeg) = (D 10 0 (D 13 0 x1.toNatClampNeg).toNatClampNeg) then (some (some (.inl (0 : Int32)), D, E)) else (some (some (.inl (1 : Int32)), D, E)))))))) else (some (some (.inl (0 : Int32)), D, E)))) := (pEg m13 (d := 0) 41 _ _ _ _).trans rfl
set_option maxRecDepth 100000 in
set_option maxHeartbeats 4000000 in
theorem e_Se_begin_141 (x3 : Int32) (D : pD) (E : pDL) : Se_begin_141 x3 D E = (if (16 : Int32) ≤ x3 then (some (none, D, E)) else (if x3 < 0 ∨ 16 ≤ x3.toNatClampNeg then none else (pB0 (Ja_fillI_goesWith (x3.toNatClampNeg) (((1 : Int32) <<< ((D 50 0 8) &&& 31)) - (1 : Int32)) D E) fun D1 E1 => (Se_begin_141 (x3 + (1 : Int32)) D1 E1)))) := (pEg m84 (d := 4) 22 _ _ _ _).trans rfl
set_option maxRecDepth 100000 in
set_option maxHeartbeats 4000000 in
theorem e_Se_begin_70 (x2 : Int32) (x3 : Int32) (x4 : Int32) (D : pD) (E : pDL) : Se_begin_70 x2 x3 x4 D E = (if (D 50 0 8) ≤ x4 then (if 0 < 5 then (if (D 50 0 7) < 0 ∨ 4 ≤ (D 50 0 7).toNatClampNeg then none else (Se_begin_28 x2 (x3 + (1 : Int32)) (dset (dset D 54 (0 + 1) (D 50 0 7).toNatClampNeg (((1 : Int32) <<< ((D 50 0 8) &&& 31)) - (1 : Int32))) 50 0 7 ((D 50 0 7) + (1 : Int32))) E)) else none) else (if (D 50 0 7) < 0 ∨ 4 ≤ (D 50 0 7).toNatClampNeg then none else (pB1 (Rn_lostWithOption x3 x4 D E) fun y1 D1 E1 => (if (D 50 0 7).toNatClampNeg < 4 then (if x4 < 0 ∨ 21 ≤ x4.toNatClampNeg then none else (Se_begin_70 x2 x3 (x4 + (1 : Int32)) (dset D1 52 ((D 50 0 7).toNatClampNeg + 1) x4.toNatClampNeg y1) E1)) else none)))) := (pEg m84 (d := 4) 43 _ _ _ _).trans rfl
set_option maxRecDepth 100000 in
set_option maxHeartbeats 4000000 in
theorem e_Se_settle_30 (dd : Nat) (x1 : Int32) (x2 : Int32) (x3 : Int32) (D : pD) (E : pDL) : Se_settle_30 (dd + 8) x1 x2 x3 D E = (if (D 50 0 8) ≤ x3 then (some (none, D, E)) else (if x1 < 0 ∨ 5 ≤ x1.toNatClampNeg then none else (if x1.toNatClampNeg < 5 then (if x1 < 0 ∨ 4 ≤ x1.toNatClampNeg then none else (if (((D 54 (x1.toNatClampNeg + 1) x1.toNatClampNeg) >>> (x3 &&& 31)) &&& (1 : Int32)) = 0 then (Se_settle_30 (dd + 8) x1 x2 (x3 + (1 : Int32)) D E) else (if x1 < 0 ∨ 4 ≤ x1.toNatClampNeg then none else (if x1.toNatClampNeg < 4 then (if x3 < 0 ∨ 21 ≤ x3.toNatClampNeg then none else (if x1 < 0 ∨ 4 ≤ x1.toNatClampNeg then none else (pB1 (Se_narrow x1 x3 (dset D 55 0 x1.toNatClampNeg x3) E) fun y1 D1 E1 => (if (D1 50 0 9) ≤ ((x2 + (D 52 (x1.toNatClampNeg + 1) x3.toNatClampNeg)) + y1) then (Se_settle_30 (dd + 8) x1 x2 (x3 + (1 : Int32)) D1 E1) else (pB0 (Se_settle (dd + 7) (x1 + (1 : Int32)) (x2 + (D 52 (x1.toNatClampNeg + 1) x3.toNatClampNeg)) D1 E1) fun D2 E2 => (Se_settle_30 (dd + 8) x1 x2 (x3 + (1 : Int32)) D2 E2)))))) else none)))) else none))) := (pEg m89 (d := dd + 8) 56 _ _ _ _).trans rfl
set_option maxRecDepth 100000 in
set_option maxHeartbeats 4000000 in
theorem e_Rn_putOption (x1 : Int32) (x2 : Int32) (D : pD) (E : pDL) : Rn_putOption x1 x2 D E = (pB1 (Rn_isBorrowedOption x2 D E) fun y1 D1 E1 => (if y1 = 0 then (pB0 (Rn_put x1 (0 : Int32) x2 (-1 : Int32) (-1 : Int32) D1 E1) fun D2 E2 => (some (none, D2, E2))) else (pB0 (Rn_put x1 (3 : Int32) (-1 : Int32) (-1 : Int32) (-1 : Int32) D1 E1) fun D3 E3 => (some (none, D3, E3))))) := (pEg m73 (d := 1) 26 _ _ _ _).trans rfl
set_option maxRecDepth 100000 in
set_option maxHeartbeats 4000000 in
theorem e_Se_levelOf (x1 : Int32) (D : pD) (E : pDL) : Se_levelOf x1 D E = (Se_levelOf_2 x1 (0 : Int32) D E) := (pEg m85 (d := 0) 7 _ _ _ _).trans rfl
set_option maxRecDepth 100000 in
set_option maxHeartbeats 4000000 in
theorem e_Se_obeyTie_61 (x2 : Int32) (x3 : Int32) (x4 : Int32) (D : pD) (E : pDL) : Se_obeyTie_61 x2 x3 x4 D E = (if x3 = (-1 : Int32) then (if x4 = (-1 : Int32) then (some (none, D, E)) else (pB0 (Se_obeyOutside x2 x4 D E) fun D1 E1 => (some (none, D1, E1)))) else (pB0 (Se_obeyOutside x2 x3 D E) fun D2 E2 => (some (none, D2, E2)))) := (pEg m86 (d := 4) 25 _ _ _ _).trans rfl
set_option maxRecDepth 100000 in
set_option maxHeartbeats 4000000 in
theorem e_Se_obeyInside (x2 : Int32) (x3 : Int32) (x4 : Int32) (D : pD) (E : pDL) : Se_obeyInside x2 x3 x4 D E = (if ((x3 * (4 : Int32)) + x4) < 0 ∨ 16 ≤ ((x3 * (4 : Int32)) + x4).toNatClampNeg then none else (Se_obeyInside_goesWith_16 x2 (((x3 * (4 : Int32)) + x4).toNatClampNeg) (0 : Int32) D E)) := (pEg m87 (d := 2) 16 _ _ _ _).trans rfl
set_option maxRecDepth 100000 in
set_option maxHeartbeats 4000000 in
theorem e_Rn_exchangeAt (x1 : Int32) (D : pD) (E : pDL) : Rn_exchangeAt x1 D E = (pB1 (Rn_lostAt_held_wordTraits x1 D E) fun y1 D1 E1 => (pB1 (Rn_traitsAt_held_wordTraits x1 D1 E1) fun y2 D2 E2 => (pB1 (Rn_isBorrowed x1 D2 E2) fun y3 D3 E3 => (pB1 (Rn_clashesAt x1 y2 y3 D3 E3) fun y4 D4 E4 => (Rn_exchangeAt_44 x1 (y1 + ((100 : Int32) * y4)) (-1 : Int32) (0 : Int32) D4 E4))))) := (pEg m75 (d := 4) 31 _ _ _ _).trans rfl
