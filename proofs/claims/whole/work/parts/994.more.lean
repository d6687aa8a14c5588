noncomputable def Bk_clear (D : pD) (E : pDL) : Option pRes := pEv 0 1 0 [some (.inr (.inr (3, 0))), none, none, none, none, none, none, none, none, none, none, none, none, none, none] [] (D, E)
noncomputable def Bk_sumGroups_draft (D : pD) (E : pDL) : Option pRes := pEv 7 0 0 [some (.inr (.inr (18, 0))), none, none, none, none, none, none, none, none, none, none, none, none, none, none] [] (D, E)
noncomputable def Rn_clear_k0 (D : pD) (E : pDL) : Option pRes := pEv 56 1 0 [some (.inr (.inr (76, 0))), none, none, none, none, none, none, none, none, none, none, none, none, none, none] [] (D, E)
noncomputable def Rn_clear_k1 (D : pD) (E : pDL) : Option pRes := pEv 56 1 0 [some (.inr (.inr (82, 0))), none, none, none, none, none, none, none, none, none, none, none, none, none, none] [] (D, E)
noncomputable def Rn_clear_k2 (D : pD) (E : pDL) : Option pRes := pEv 56 1 0 [some (.inr (.inr (88, 0))), none, none, none, none, none, none, none, none, none, none, none, none, none, none] [] (D, E)
noncomputable def Rn_clear_k3 (D : pD) (E : pDL) : Option pRes := pEv 56 1 0 [some (.inr (.inr (94, 0))), none, none, none, none, none, none, none, none, none, none, none, none, none, none] [] (D, E)
noncomputable def Ja_fillI_held_counts (x1 : Int32) (D : pD) (E : pDL) : Option pRes := pEv 243 0 0 [some (.inr (.inr (4, 0))), some (.inl x1), none, none, none, none, none, none, none, none, none, none, none, none, none, none] [] (D, E)
noncomputable def Ja_fillI_held_weights (x1 : Int32) (D : pD) (E : pDL) : Option pRes := pEv 243 0 0 [some (.inr (.inr (6, 0))), some (.inl x1), none, none, none, none, none, none, none, none, none, none, none, none, none, none] [] (D, E)
noncomputable def Bk_sumGroups_draft_2 (x1 : Int32) (D : pD) (E : pDL) : Option pRes := pEv 7 0 2 [some (.inr (.inr (18, 0))), some (.inl x1), none, none, none] [] (D, E)
noncomputable def Ja_fillI_k0_kinds (x1 : Int32) (D : pD) (E : pDL) : Option pRes := pEv 243 0 0 [some (.inr (.inr (77, 0))), some (.inl x1), none, none, none, none, none, none, none, none, none, none, none, none, none, none] [] (D, E)
noncomputable def Ja_fillI_k0_firsts (x1 : Int32) (D : pD) (E : pDL) : Option pRes := pEv 243 0 0 [some (.inr (.inr (78, 0))), some (.inl x1), none, none, none, none, none, none, none, none, none, none, none, none, none, none] [] (D, E)
noncomputable def Ja_fillI_k0_seconds (x1 : Int32) (D : pD) (E : pDL) : Option pRes := pEv 243 0 0 [some (.inr (.inr (79, 0))), some (.inl x1), none, none, none, none, none, none, none, none, none, none, none, none, none, none] [] (D, E)
noncomputable def Ja_fillI_k0_thirds (x1 : Int32) (D : pD) (E : pDL) : Option pRes := pEv 243 0 0 [some (.inr (.inr (80, 0))), some (.inl x1), none, none, none, none, none, none, none, none, none, none, none, none, none, none] [] (D, E)
noncomputable def Ja_fillI_k0_notes (x1 : Int32) (D : pD) (E : pDL) : Option pRes := pEv 243 0 0 [some (.inr (.inr (81, 0))), some (.inl x1), none, none, none, none, none, none, none, none, none, none, none, none, none, none] [] (D, E)
noncomputable def Ja_fillI_k1_kinds (x1 : Int32) (D : pD) (E : pDL) : Option pRes := pEv 243 0 0 [some (.inr (.inr (83, 0))), some (.inl x1), none, none, none, none, none, none, none, none, none, none, none, none, none, none] [] (D, E)
noncomputable def Ja_fillI_k1_firsts (x1 : Int32) (D : pD) (E : pDL) : Option pRes := pEv 243 0 0 [some (.inr (.inr (84, 0))), some (.inl x1), none, none, none, none, none, none, none, none, none, none, none, none, none, none] [] (D, E)
noncomputable def Ja_fillI_k1_seconds (x1 : Int32) (D : pD) (E : pDL) : Option pRes := pEv 243 0 0 [some (.inr (.inr (85, 0))), some (.inl x1), none, none, none, none, none, none, none, none, none, none, none, none, none, none] [] (D, E)
noncomputable def Ja_fillI_k1_thirds (x1 : Int32) (D : pD) (E : pDL) : Option pRes := pEv 243 0 0 [some (.inr (.inr (86, 0))), some (.inl x1), none, none, none, none, none, none, none, none, none, none, none, none, none, none] [] (D, E)
noncomputable def Ja_fillI_k1_notes (x1 : Int32) (D : pD) (E : pDL) : Option pRes := pEv 243 0 0 [some (.inr (.inr (87, 0))), some (.inl x1), none, none, none, none, none, none, none, none, none, none, none, none, none, none] [] (D, E)
noncomputable def Ja_fillI_k2_kinds (x1 : Int32) (D : pD) (E : pDL) : Option pRes := pEv 243 0 0 [some (.inr (.inr (89, 0))), some (.inl x1), none, none, none, none, none, none, none, none, none, none, none, none, none, none] [] (D, E)
noncomputable def Ja_fillI_k2_firsts (x1 : Int32) (D : pD) (E : pDL) : Option pRes := pEv 243 0 0 [some (.inr (.inr (90, 0))), some (.inl x1), none, none, none, none, none, none, none, none, none, none, none, none, none, none] [] (D, E)
noncomputable def Ja_fillI_k2_seconds (x1 : Int32) (D : pD) (E : pDL) : Option pRes := pEv 243 0 0 [some (.inr (.inr (91, 0))), some (.inl x1), none, none, none, none, none, none, none, none, none, none, none, none, none, none] [] (D, E)
noncomputable def Ja_fillI_k2_thirds (x1 : Int32) (D : pD) (E : pDL) : Option pRes := pEv 243 0 0 [some (.inr (.inr (92, 0))), some (.inl x1), none, none, none, none, none, none, none, none, none, none, none, none, none, none] [] (D, E)
noncomputable def Ja_fillI_k2_notes (x1 : Int32) (D : pD) (E : pDL) : Option pRes := pEv 243 0 0 [some (.inr (.inr (93, 0))), some (.inl x1), none, none, none, none, none, none, none, none, none, none, none, none, none, none] [] (D, E)
noncomputable def Ja_fillI_k3_kinds (x1 : Int32) (D : pD) (E : pDL) : Option pRes := pEv 243 0 0 [some (.inr (.inr (95, 0))), some (.inl x1), none, none, none, none, none, none, none, none, none, none, none, none, none, none] [] (D, E)
noncomputable def Ja_fillI_k3_firsts (x1 : Int32) (D : pD) (E : pDL) : Option pRes := pEv 243 0 0 [some (.inr (.inr (96, 0))), some (.inl x1), none, none, none, none, none, none, none, none, none, none, none, none, none, none] [] (D, E)
noncomputable def Ja_fillI_k3_seconds (x1 : Int32) (D : pD) (E : pDL) : Option pRes := pEv 243 0 0 [some (.inr (.inr (97, 0))), some (.inl x1), none, none, none, none, none, none, none, none, none, none, none, none, none, none] [] (D, E)
noncomputable def Ja_fillI_k3_thirds (x1 : Int32) (D : pD) (E : pDL) : Option pRes := pEv 243 0 0 [some (.inr (.inr (98, 0))), some (.inl x1), none, none, none, none, none, none, none, none, none, none, none, none, none, none] [] (D, E)
noncomputable def Ja_fillI_k3_notes (x1 : Int32) (D : pD) (E : pDL) : Option pRes := pEv 243 0 0 [some (.inr (.inr (99, 0))), some (.inl x1), none, none, none, none, none, none, none, none, none, none, none, none, none, none] [] (D, E)
noncomputable def Ja_fillI_held_counts_5 (x1 : Int32) (x2 : Int32) (x3 : Int32) (D : pD) (E : pDL) : Option pRes := pEv 243 0 5 [some (.inr (.inr (4, 0))), some (.inl x1), some (.inl x2), some (.inl x3)] [] (D, E)
noncomputable def Ja_fillI_held_weights_5 (x1 : Int32) (x2 : Int32) (x3 : Int32) (D : pD) (E : pDL) : Option pRes := pEv 243 0 5 [some (.inr (.inr (6, 0))), some (.inl x1), some (.inl x2), some (.inl x3)] [] (D, E)
noncomputable def Bk_sumGroups_draft_26 (x1 : Int32) (x2 : Int32) (x3 : Int32) (x4 : Int32) (D : pD) (E : pDL) : Option pRes := pEv 7 0 26 [some (.inr (.inr (18, 0))), some (.inl x1), some (.inl x2), some (.inl x3), some (.inl x4)] [] (D, E)
noncomputable def Ja_fillI_k0_kinds_5 (x1 : Int32) (x2 : Int32) (x3 : Int32) (D : pD) (E : pDL) : Option pRes := pEv 243 0 5 [some (.inr (.inr (77, 0))), some (.inl x1), some (.inl x2), some (.inl x3)] [] (D, E)
noncomputable def Ja_fillI_k0_firsts_5 (x1 : Int32) (x2 : Int32) (x3 : Int32) (D : pD) (E : pDL) : Option pRes := pEv 243 0 5 [some (.inr (.inr (78, 0))), some (.inl x1), some (.inl x2), some (.inl x3)] [] (D, E)
noncomputable def Ja_fillI_k0_seconds_5 (x1 : Int32) (x2 : Int32) (x3 : Int32) (D : pD) (E : pDL) : Option pRes := pEv 243 0 5 [some (.inr (.inr (79, 0))), some (.inl x1), some (.inl x2), some (.inl x3)] [] (D, E)
noncomputable def Ja_fillI_k0_thirds_5 (x1 : Int32) (x2 : Int32) (x3 : Int32) (D : pD) (E : pDL) : Option pRes := pEv 243 0 5 [some (.inr (.inr (80, 0))), some (.inl x1), some (.inl x2), some (.inl x3)] [] (D, E)
noncomputable def Ja_fillI_k0_notes_5 (x1 : Int32) (x2 : Int32) (x3 : Int32) (D : pD) (E : pDL) : Option pRes := pEv 243 0 5 [some (.inr (.inr (81, 0))), some (.inl x1), some (.inl x2), some (.inl x3)] [] (D, E)
noncomputable def Ja_fillI_k1_kinds_5 (x1 : Int32) (x2 : Int32) (x3 : Int32) (D : pD) (E : pDL) : Option pRes := pEv 243 0 5 [some (.inr (.inr (83, 0))), some (.inl x1), some (.inl x2), some (.inl x3)] [] (D, E)
noncomputable def Ja_fillI_k1_firsts_5 (x1 : Int32) (x2 : Int32) (x3 : Int32) (D : pD) (E : pDL) : Option pRes := pEv 243 0 5 [some (.inr (.inr (84, 0))), some (.inl x1), some (.inl x2), some (.inl x3)] [] (D, E)
noncomputable def Ja_fillI_k1_seconds_5 (x1 : Int32) (x2 : Int32) (x3 : Int32) (D : pD) (E : pDL) : Option pRes := pEv 243 0 5 [some (.inr (.inr (85, 0))), some (.inl x1), some (.inl x2), some (.inl x3)] [] (D, E)
noncomputable def Ja_fillI_k1_thirds_5 (x1 : Int32) (x2 : Int32) (x3 : Int32) (D : pD) (E : pDL) : Option pRes := pEv 243 0 5 [some (.inr (.inr (86, 0))), some (.inl x1), some (.inl x2), some (.inl x3)] [] (D, E)
noncomputable def Ja_fillI_k1_notes_5 (x1 : Int32) (x2 : Int32) (x3 : Int32) (D : pD) (E : pDL) : Option pRes := pEv 243 0 5 [some (.inr (.inr (87, 0))), some (.inl x1), some (.inl x2), some (.inl x3)] [] (D, E)
noncomputable def Ja_fillI_k2_kinds_5 (x1 : Int32) (x2 : Int32) (x3 : Int32) (D : pD) (E : pDL) : Option pRes := pEv 243 0 5 [some (.inr (.inr (89, 0))), some (.inl x1), some (.inl x2), some (.inl x3)] [] (D, E)
noncomputable def Ja_fillI_k2_firsts_5 (x1 : Int32) (x2 : Int32) (x3 : Int32) (D : pD) (E : pDL) : Option pRes := pEv 243 0 5 [some (.inr (.inr (90, 0))), some (.inl x1), some (.inl x2), some (.inl x3)] [] (D, E)
noncomputable def Ja_fillI_k2_seconds_5 (x1 : Int32) (x2 : Int32) (x3 : Int32) (D : pD) (E : pDL) : Option pRes := pEv 243 0 5 [some (.inr (.inr (91, 0))), some (.inl x1), some (.inl x2), some (.inl x3)] [] (D, E)
noncomputable def Ja_fillI_k2_thirds_5 (x1 : Int32) (x2 : Int32) (x3 : Int32) (D : pD) (E : pDL) : Option pRes := pEv 243 0 5 [some (.inr (.inr (92, 0))), some (.inl x1), some (.inl x2), some (.inl x3)] [] (D, E)
noncomputable def Ja_fillI_k2_notes_5 (x1 : Int32) (x2 : Int32) (x3 : Int32) (D : pD) (E : pDL) : Option pRes := pEv 243 0 5 [some (.inr (.inr (93, 0))), some (.inl x1), some (.inl x2), some (.inl x3)] [] (D, E)
noncomputable def Ja_fillI_k3_kinds_5 (x1 : Int32) (x2 : Int32) (x3 : Int32) (D : pD) (E : pDL) : Option pRes := pEv 243 0 5 [some (.inr (.inr (95, 0))), some (.inl x1), some (.inl x2), some (.inl x3)] [] (D, E)
noncomputable def Ja_fillI_k3_firsts_5 (x1 : Int32) (x2 : Int32) (x3 : Int32) (D : pD) (E : pDL) : Option pRes := pEv 243 0 5 [some (.inr (.inr (96, 0))), some (.inl x1), some (.inl x2), some (.inl x3)] [] (D, E)
noncomputable def Ja_fillI_k3_seconds_5 (x1 : Int32) (x2 : Int32) (x3 : Int32) (D : pD) (E : pDL) : Option pRes := pEv 243 0 5 [some (.inr (.inr (97, 0))), some (.inl x1), some (.inl x2), some (.inl x3)] [] (D, E)
noncomputable def Ja_fillI_k3_thirds_5 (x1 : Int32) (x2 : Int32) (x3 : Int32) (D : pD) (E : pDL) : Option pRes := pEv 243 0 5 [some (.inr (.inr (98, 0))), some (.inl x1), some (.inl x2), some (.inl x3)] [] (D, E)
noncomputable def Ja_fillI_k3_notes_5 (x1 : Int32) (x2 : Int32) (x3 : Int32) (D : pD) (E : pDL) : Option pRes := pEv 243 0 5 [some (.inr (.inr (99, 0))), some (.inl x1), some (.inl x2), some (.inl x3)] [] (D, E)
set_option maxRecDepth 100000 in
set_option maxHeartbeats 4000000 in
theorem e_Bk_clear (D : pD) (E : pDL) : Bk_clear  D E = (pB0 (Ja_fillI_held_counts (0 : Int32) D E) fun D1 E1 => (pB0 (Ja_fillI_held_weights (1 : Int32) (dset (dset (dset (dset (dset D1 5 0 0 (2 : Int32)) 5 0 1 (1 : Int32)) 5 0 2 (5 : Int32)) 5 0 3 (1 : Int32)) 5 0 4 (6 : Int32)) E1) fun D2 E2 => (some (none, D2, E2)))) := (pEg m0 (d := 1) 39 _ _ _ _).trans rfl
set_option maxRecDepth 100000 in
set_option maxHeartbeats 4000000 in
theorem e_Bk_sumGroups_draft (D : pD) (E : pDL) : Bk_sumGroups_draft  D E = (Bk_sumGroups_draft_2 (0 : Int32) D E) := (pEg m7 (d := 0) 7 _ _ _ _).trans rfl
set_option maxRecDepth 100000 in
set_option maxHeartbeats 4000000 in
theorem e_Rn_clear_k0 (D : pD) (E : pDL) : Rn_clear_k0  D E = (pB0 (Ja_fillI_k0_kinds (-1 : Int32) D E) fun D1 E1 => (pB0 (Ja_fillI_k0_firsts (-1 : Int32) D1 E1) fun D2 E2 => (pB0 (Ja_fillI_k0_seconds (-1 : Int32) D2 E2) fun D3 E3 => (pB0 (Ja_fillI_k0_thirds (-1 : Int32) D3 E3) fun D4 E4 => (pB0 (Ja_fillI_k0_notes (0 : Int32) D4 E4) fun D5 E5 => (some (none, D5, E5))))))) := (pEg m56 (d := 1) 26 _ _ _ _).trans rfl
set_option maxRecDepth 100000 in
set_option maxHeartbeats 4000000 in
theorem e_Rn_clear_k1 (D : pD) (E : pDL) : Rn_clear_k1  D E = (pB0 (Ja_fillI_k1_kinds (-1 : Int32) D E) fun D1 E1 => (pB0 (Ja_fillI_k1_firsts (-1 : Int32) D1 E1) fun D2 E2 => (pB0 (Ja_fillI_k1_seconds (-1 : Int32) D2 E2) fun D3 E3 => (pB0 (Ja_fillI_k1_thirds (-1 : Int32) D3 E3) fun D4 E4 => (pB0 (Ja_fillI_k1_notes (0 : Int32) D4 E4) fun D5 E5 => (some (none, D5, E5))))))) := (pEg m56 (d := 1) 26 _ _ _ _).trans rfl
set_option maxRecDepth 100000 in
set_option maxHeartbeats 4000000 in
theorem e_Rn_clear_k2 (D : pD) (E : pDL) : Rn_clear_k2  D E = (pB0 (Ja_fillI_k2_kinds (-1 : Int32) D E) fun D1 E1 => (pB0 (Ja_fillI_k2_firsts (-1 : Int32) D1 E1) fun D2 E2 => (pB0 (Ja_fillI_k2_seconds (-1 : Int32) D2 E2) fun D3 E3 => (pB0 (Ja_fillI_k2_thirds (-1 : Int32) D3 E3) fun D4 E4 => (pB0 (Ja_fillI_k2_notes (0 : Int32) D4 E4) fun D5 E5 => (some (none, D5, E5))))))) := (pEg m56 (d := 1) 26 _ _ _ _).trans rfl
set_option maxRecDepth 100000 in
set_option maxHeartbeats 4000000 in
theorem e_Rn_clear_k3 (D : pD) (E : pDL) : Rn_clear_k3  D E = (pB0 (Ja_fillI_k3_kinds (-1 : Int32) D E) fun D1 E1 => (pB0 (Ja_fillI_k3_firsts (-1 : Int32) D1 E1) fun D2 E2 => (pB0 (Ja_fillI_k3_seconds (-1 : Int32) D2 E2) fun D3 E3 => (pB0 (Ja_fillI_k3_thirds (-1 : Int32) D3 E3) fun D4 E4 => (pB0 (Ja_fillI_k3_notes (0 : Int32) D4 E4) fun D5 E5 => (some (none, D5, E5))))))) := (pEg m56 (d := 1) 26 _ _ _ _).trans rfl
set_option maxRecDepth 100000 in
set_option maxHeartbeats 4000000 in
theorem e_Ja_fillI_held_counts (x1 : Int32) (D : pD) (E : pDL) : Ja_fillI_held_counts x1 D E = (Ja_fillI_held_counts_5 x1 (0 : Int32) (nI 5) D E) := (pEg m243 (d := 0) 10 _ _ _ _).trans rfl
set_option maxRecDepth 100000 in
set_option maxHeartbeats 4000000 in
theorem e_Ja_fillI_held_weights (x1 : Int32) (D : pD) (E : pDL) : Ja_fillI_held_weights x1 D E = (Ja_fillI_held_weights_5 x1 (0 : Int32) (nI 24) D E) := (pEg m243 (d := 0) 10 _ _ _ _).trans rfl
set_option maxRecDepth 100000 in
set_option maxHeartbeats 4000000 in
theorem e_Bk_sumGroups_draft_2 (x1 : Int32) (D : pD) (E : pDL) : Bk_sumGroups_draft_2 x1 D E = (if (24 : Int32) ≤ x1 then (some (none, D, E)) else (if (6 : Int32) = 0 then none else (if (6 : Int32) = 0 then none else (Bk_sumGroups_draft_26 x1 ((x1 / (6 : Int32)) * (64 : Int32)) ((1 : Int32) <<< ((x1 - x1 / (6 : Int32) * (6 : Int32)) &&& 31)) (0 : Int32) D E)))) := (pEg m7 (d := 0) 23 _ _ _ _).trans rfl
set_option maxRecDepth 100000 in
set_option maxHeartbeats 4000000 in
theorem e_Ja_fillI_k0_kinds (x1 : Int32) (D : pD) (E : pDL) : Ja_fillI_k0_kinds x1 D E = (Ja_fillI_k0_kinds_5 x1 (0 : Int32) (nI 24) D E) := (pEg m243 (d := 0) 10 _ _ _ _).trans rfl
set_option maxRecDepth 100000 in
set_option maxHeartbeats 4000000 in
theorem e_Ja_fillI_k0_firsts (x1 : Int32) (D : pD) (E : pDL) : Ja_fillI_k0_firsts x1 D E = (Ja_fillI_k0_firsts_5 x1 (0 : Int32) (nI 24) D E) := (pEg m243 (d := 0) 10 _ _ _ _).trans rfl
set_option maxRecDepth 100000 in
set_option maxHeartbeats 4000000 in
theorem e_Ja_fillI_k0_seconds (x1 : Int32) (D : pD) (E : pDL) : Ja_fillI_k0_seconds x1 D E = (Ja_fillI_k0_seconds_5 x1 (0 : Int32) (nI 24) D E) := (pEg m243 (d := 0) 10 _ _ _ _).trans rfl
set_option maxRecDepth 100000 in
set_option maxHeartbeats 4000000 in
theorem e_Ja_fillI_k0_thirds (x1 : Int32) (D : pD) (E : pDL) : Ja_fillI_k0_thirds x1 D E = (Ja_fillI_k0_thirds_5 x1 (0 : Int32) (nI 24) D E) := (pEg m243 (d := 0) 10 _ _ _ _).trans rfl
set_option maxRecDepth 100000 in
set_option maxHeartbeats 4000000 in
theorem e_Ja_fillI_k0_notes (x1 : Int32) (D : pD) (E : pDL) : Ja_fillI_k0_notes x1 D E = (Ja_fillI_k0_notes_5 x1 (0 : Int32) (nI 24) D E) := (pEg m243 (d := 0) 10 _ _ _ _).trans rfl
set_option maxRecDepth 100000 in
set_option maxHeartbeats 4000000 in
theorem e_Ja_fillI_k1_kinds (x1 : Int32) (D : pD) (E : pDL) : Ja_fillI_k1_kinds x1 D E = (Ja_fillI_k1_kinds_5 x1 (0 : Int32) (nI 24) D E) := (pEg m243 (d := 0) 10 _ _ _ _).trans rfl
set_option maxRecDepth 100000 in
set_option maxHeartbeats 4000000 in
theorem e_Ja_fillI_k1_firsts (x1 : Int32) (D : pD) (E : pDL) : Ja_fillI_k1_firsts x1 D E = (Ja_fillI_k1_firsts_5 x1 (0 : Int32) (nI 24) D E) := (pEg m243 (d := 0) 10 _ _ _ _).trans rfl
set_option maxRecDepth 100000 in
set_option maxHeartbeats 4000000 in
theorem e_Ja_fillI_k1_seconds (x1 : Int32) (D : pD) (E : pDL) : Ja_fillI_k1_seconds x1 D E = (Ja_fillI_k1_seconds_5 x1 (0 : Int32) (nI 24) D E) := (pEg m243 (d := 0) 10 _ _ _ _).trans rfl
set_option maxRecDepth 100000 in
set_option maxHeartbeats 4000000 in
theorem e_Ja_fillI_k1_thirds (x1 : Int32) (D : pD) (E : pDL) : Ja_fillI_k1_thirds x1 D E = (Ja_fillI_k1_thirds_5 x1 (0 : Int32) (nI 24) D E) := (pEg m243 (d := 0) 10 _ _ _ _).trans rfl
set_option maxRecDepth 100000 in
set_option maxHeartbeats 4000000 in
theorem e_Ja_fillI_k1_notes (x1 : Int32) (D : pD) (E : pDL) : Ja_fillI_k1_notes x1 D E = (Ja_fillI_k1_notes_5 x1 (0 : Int32) (nI 24) D E) := (pEg m243 (d := 0) 10 _ _ _ _).trans rfl
set_option maxRecDepth 100000 in
set_option maxHeartbeats 4000000 in
theorem e_Ja_fillI_k2_kinds (x1 : Int32) (D : pD) (E : pDL) : Ja_fillI_k2_kinds x1 D E = (Ja_fillI_k2_kinds_5 x1 (0 : Int32) (nI 24) D E) := (pEg m243 (d := 0) 10 _ _ _ _).trans rfl
set_option maxRecDepth 100000 in
set_option maxHeartbeats 4000000 in
theorem e_Ja_fillI_k2_firsts (x1 : Int32) (D : pD) (E : pDL) : Ja_fillI_k2_firsts x1 D E = (Ja_fillI_k2_firsts_5 x1 (0 : Int32) (nI 24) D E) := (pEg m243 (d := 0) 10 _ _ _ _).trans rfl
set_option maxRecDepth 100000 in
set_option maxHeartbeats 4000000 in
theorem e_Ja_fillI_k2_seconds (x1 : Int32) (D : pD) (E : pDL) : Ja_fillI_k2_seconds x1 D E = (Ja_fillI_k2_seconds_5 x1 (0 : Int32) (nI 24) D E) := (pEg m243 (d := 0) 10 _ _ _ _).trans rfl
set_option maxRecDepth 100000 in
set_option maxHeartbeats 4000000 in
theorem e_Ja_fillI_k2_thirds (x1 : Int32) (D : pD) (E : pDL) : Ja_fillI_k2_thirds x1 D E = (Ja_fillI_k2_thirds_5 x1 (0 : Int32) (nI 24) D E) := (pEg m243 (d := 0) 10 _ _ _ _).trans rfl
set_option maxRecDepth 100000 in
set_option maxHeartbeats 4000000 in
theorem e_Ja_fillI_k2_notes (x1 : Int32) (D : pD) (E : pDL) : Ja_fillI_k2_notes x1 D E = (Ja_fillI_k2_notes_5 x1 (0 : Int32) (nI 24) D E) := (pEg m243 (d := 0) 10 _ _ _ _).trans rfl
set_option maxRecDepth 100000 in
set_option maxHeartbeats 4000000 in
theorem e_Ja_fillI_k3_kinds (x1 : Int32) (D : pD) (E : pDL) : Ja_fillI_k3_kinds x1 D E = (Ja_fillI_k3_kinds_5 x1 (0 : Int32) (nI 24) D E) := (pEg m243 (d := 0) 10 _ _ _ _).trans rfl
set_option maxRecDepth 100000 in
set_option maxHeartbeats 4000000 in
theorem e_Ja_fillI_k3_firsts (x1 : Int32) (D : pD) (E : pDL) : Ja_fillI_k3_firsts x1 D E = (Ja_fillI_k3_firsts_5 x1 (0 : Int32) (nI 24) D E) := (pEg m243 (d := 0) 10 _ _ _ _).trans rfl
set_option maxRecDepth 100000 in
set_option maxHeartbeats 4000000 in
theorem e_Ja_fillI_k3_seconds (x1 : Int32) (D : pD) (E : pDL) : Ja_fillI_k3_seconds x1 D E = (Ja_fillI_k3_seconds_5 x1 (0 : Int32) (nI 24) D E) := (pEg m243 (d := 0) 10 _ _ _ _).trans rfl
set_option maxRecDepth 100000 in
set_option maxHeartbeats 4000000 in
theorem e_Ja_fillI_k3_thirds (x1 : Int32) (D : pD) (E : pDL) : Ja_fillI_k3_thirds x1 D E = (Ja_fillI_k3_thirds_5 x1 (0 : Int32) (nI 24) D E) := (pEg m243 (d := 0) 10 _ _ _ _).trans rfl
set_option maxRecDepth 100000 in
set_option maxHeartbeats 4000000 in
theorem e_Ja_fillI_k3_notes (x1 : Int32) (D : pD) (E : pDL) : Ja_fillI_k3_notes x1 D E = (Ja_fillI_k3_notes_5 x1 (0 : Int32) (nI 24) D E) := (pEg m243 (d := 0) 10 _ _ _ _).trans rfl
set_option maxRecDepth 100000 in
set_option maxHeartbeats 4000000 in
theorem e_Ja_fillI_held_counts_5 (x1 : Int32) (x2 : Int32) (x3 : Int32) (D : pD) (E : pDL) : Ja_fillI_held_counts_5 x1 x2 x3 D E = (if x3 ≤ x2 then (some (none, D, E)) else (if x2 < 0 ∨ 5 ≤ x2.toNatClampNeg then none else (Ja_fillI_held_counts_5 x1 (x2 + (1 : Int32)) x3 (dset D 4 0 x2.toNatClampNeg x1) E))) := (pEg m243 (d := 0) 15 _ _ _ _).trans rfl
set_option maxRecDepth 100000 in
set_option maxHeartbeats 4000000 in
theorem e_Ja_fillI_held_weights_5 (x1 : Int32) (x2 : Int32) (x3 : Int32) (D : pD) (E : pDL) : Ja_fillI_held_weights_5 x1 x2 x3 D E = (if x3 ≤ x2 then (some (none, D, E)) else (if x2 < 0 ∨ 24 ≤ x2.toNatClampNeg then none else (Ja_fillI_held_weights_5 x1 (x2 + (1 : Int32)) x3 (dset D 6 0 x2.toNatClampNeg x1) E))) := (pEg m243 (d := 0) 15 _ _ _ _).trans rfl
set_option maxRecDepth 100000 in
set_option maxHeartbeats 4000000 in
theorem e_Bk_sumGroups_draft_26 (x1 : Int32) (x2 : Int32) (x3 : Int32) (x4 : Int32) (D : pD) (E : pDL) : Bk_sumGroups_draft_26 x1 x2 x3 x4 D E = (if x3 ≤ x4 then (Bk_sumGroups_draft_2 (x1 + (1 : Int32)) D E) else (if (x2 + x4) < 0 ∨ 256 ≤ (x2 + x4).toNatClampNeg then none else (if x1 < 0 ∨ 24 ≤ x1.toNatClampNeg then none else (if ((x2 + x3) + x4) < 0 ∨ 256 ≤ ((x2 + x3) + x4).toNatClampNeg then none else (Bk_sumGroups_draft_26 x1 x2 x3 (x4 + (1 : Int32)) (dset D 22 0 ((x2 + x3) + x4).toNatClampNeg ((D 22 0 (x2 + x4).toNatClampNeg) + (D 21 0 x1.toNatClampNeg))) E))))) := (pEg m7 (d := 0) 31 _ _ _ _).trans rfl
set_option maxRecDepth 100000 in
set_option maxHeartbeats 4000000 in
theorem e_Ja_fillI_k0_kinds_5 (x1 : Int32) (x2 : Int32) (x3 : Int32) (D : pD) (E : pDL) : Ja_fillI_k0_kinds_5 x1 x2 x3 D E = (if x3 ≤ x2 then (some (none, D, E)) else (if x2 < 0 ∨ 24 ≤ x2.toNatClampNeg then none else (Ja_fillI_k0_kinds_5 x1 (x2 + (1 : Int32)) x3 (dset D 77 0 x2.toNatClampNeg x1) E))) := (pEg m243 (d := 0) 15 _ _ _ _).trans rfl
set_option maxRecDepth 100000 in
set_option maxHeartbeats 4000000 in
theorem e_Ja_fillI_k0_firsts_5 (x1 : Int32) (x2 : Int32) (x3 : Int32) (D : pD) (E : pDL) : Ja_fillI_k0_firsts_5 x1 x2 x3 D E = (if x3 ≤ x2 then (some (none, D, E)) else (if x2 < 0 ∨ 24 ≤ x2.toNatClampNeg then none else (Ja_fillI_k0_firsts_5 x1 (x2 + (1 : Int32)) x3 (dset D 78 0 x2.toNatClampNeg x1) E))) := (pEg m243 (d := 0) 15 _ _ _ _).trans rfl
set_option maxRecDepth 100000 in
set_option maxHeartbeats 4000000 in
theorem e_Ja_fillI_k0_seconds_5 (x1 : Int32) (x2 : Int32) (x3 : Int32) (D : pD) (E : pDL) : Ja_fillI_k0_seconds_5 x1 x2 x3 D E = (if x3 ≤ x2 then (some (none, D, E)) else (if x2 < 0 ∨ 24 ≤ x2.toNatClampNeg then none else (Ja_fillI_k0_seconds_5 x1 (x2 + (1 : Int32)) x3 (dset D 79 0 x2.toNatClampNeg x1) E))) := (pEg m243 (d := 0) 15 _ _ _ _).trans rfl
set_option maxRecDepth 100000 in
set_option maxHeartbeats 4000000 in
theorem e_Ja_fillI_k0_thirds_5 (x1 : Int32) (x2 : Int32) (x3 : Int32) (D : pD) (E : pDL) : Ja_fillI_k0_thirds_5 x1 x2 x3 D E = (if x3 ≤ x2 then (some (none, D, E)) else (if x2 < 0 ∨ 24 ≤ x2.toNatClampNeg then none else (Ja_fillI_k0_thirds_5 x1 (x2 + (1 : Int32)) x3 (dset D 80 0 x2.toNatClampNeg x1) E))) := (pEg m243 (d := 0) 15 _ _ _ _).trans rfl
set_option maxRecDepth 100000 in
set_option maxHeartbeats 4000000 in
theorem e_Ja_fillI_k0_notes_5 (x1 : Int32) (x2 : Int32) (x3 : Int32) (D : pD) (E : pDL) : Ja_fillI_k0_notes_5 x1 x2 x3 D E = (if x3 ≤ x2 then (some (none, D, E)) else (if x2 < 0 ∨ 24 ≤ x2.toNatClampNeg then none else (Ja_fillI_k0_notes_5 x1 (x2 + (1 : Int32)) x3 (dset D 81 0 x2.toNatClampNeg x1) E))) := (pEg m243 (d := 0) 15 _ _ _ _).trans rfl
set_option maxRecDepth 100000 in
set_option maxHeartbeats 4000000 in
theorem e_Ja_fillI_k1_kinds_5 (x1 : Int32) (x2 : Int32) (x3 : Int32) (D : pD) (E : pDL) : Ja_fillI_k1_kinds_5 x1 x2 x3 D E = (if x3 ≤ x2 then (some (none, D, E)) else (if x2 < 0 ∨ 24 ≤ x2.toNatClampNeg then none else (Ja_fillI_k1_kinds_5 x1 (x2 + (1 : Int32)) x3 (dset D 83 0 x2.toNatClampNeg x1) E))) := (pEg m243 (d := 0) 15 _ _ _ _).trans rfl
set_option maxRecDepth 100000 in
set_option maxHeartbeats 4000000 in
theorem e_Ja_fillI_k1_firsts_5 (x1 : Int32) (x2 : Int32) (x3 : Int32) (D : pD) (E : pDL) : Ja_fillI_k1_firsts_5 x1 x2 x3 D E = (if x3 ≤ x2 then (some (none, D, E)) else (if x2 < 0 ∨ 24 ≤ x2.toNatClampNeg then none else (Ja_fillI_k1_firsts_5 x1 (x2 + (1 : Int32)) x3 (dset D 84 0 x2.toNatClampNeg x1) E))) := (pEg m243 (d := 0) 15 _ _ _ _).trans rfl
set_option maxRecDepth 100000 in
set_option maxHeartbeats 4000000 in
theorem e_Ja_fillI_k1_seconds_5 (x1 : Int32) (x2 : Int32) (x3 : Int32) (D : pD) (E : pDL) : Ja_fillI_k1_seconds_5 x1 x2 x3 D E = (if x3 ≤ x2 then (some (none, D, E)) else (if x2 < 0 ∨ 24 ≤ x2.toNatClampNeg then none else (Ja_fillI_k1_seconds_5 x1 (x2 + (1 : Int32)) x3 (dset D 85 0 x2.toNatClampNeg x1) E))) := (pEg m243 (d := 0) 15 _ _ _ _).trans rfl
set_option maxRecDepth 100000 in
set_option maxHeartbeats 4000000 in
theorem e_Ja_fillI_k1_thirds_5 (x1 : Int32) (x2 : Int32) (x3 : Int32) (D : pD) (E : pDL) : Ja_fillI_k1_thirds_5 x1 x2 x3 D E = (if x3 ≤ x2 then (some (none, D, E)) else (if x2 < 0 ∨ 24 ≤ x2.toNatClampNeg then none else (Ja_fillI_k1_thirds_5 x1 (x2 + (1 : Int32)) x3 (dset D 86 0 x2.toNatClampNeg x1) E))) := (pEg m243 (d := 0) 15 _ _ _ _).trans rfl
set_option maxRecDepth 100000 in
set_option maxHeartbeats 4000000 in
theorem e_Ja_fillI_k1_notes_5 (x1 : Int32) (x2 : Int32) (x3 : Int32) (D : pD) (E : pDL) : Ja_fillI_k1_notes_5 x1 x2 x3 D E = (if x3 ≤ x2 then (some (none, D, E)) else (if x2 < 0 ∨ 24 ≤ x2.toNatClampNeg then none else (Ja_fillI_k1_notes_5 x1 (x2 + (1 : Int32)) x3 (dset D 87 0 x2.toNatClampNeg x1) E))) := (pEg m243 (d := 0) 15 _ _ _ _).trans rfl
set_option maxRecDepth 100000 in
set_option maxHeartbeats 4000000 in
theorem e_Ja_fillI_k2_kinds_5 (x1 : Int32) (x2 : Int32) (x3 : Int32) (D : pD) (E : pDL) : Ja_fillI_k2_kinds_5 x1 x2 x3 D E = (if x3 ≤ x2 then (some (none, D, E)) else (if x2 < 0 ∨ 24 ≤ x2.toNatClampNeg then none else (Ja_fillI_k2_kinds_5 x1 (x2 + (1 : Int32)) x3 (dset D 89 0 x2.toNatClampNeg x1) E))) := (pEg m243 (d := 0) 15 _ _ _ _).trans rfl
set_option maxRecDepth 100000 in
set_option maxHeartbeats 4000000 in
theorem e_Ja_fillI_k2_firsts_5 (x1 : Int32) (x2 : Int32) (x3 : Int32) (D : pD) (E : pDL) : Ja_fillI_k2_firsts_5 x1 x2 x3 D E = (if x3 ≤ x2 then (some (none, D, E)) else (if x2 < 0 ∨ 24 ≤ x2.toNatClampNeg then none else (Ja_fillI_k2_firsts_5 x1 (x2 + (1 : Int32)) x3 (dset D 90 0 x2.toNatClampNeg x1) E))) := (pEg m243 (d := 0) 15 _ _ _ _).trans rfl
set_option maxRecDepth 100000 in
set_option maxHeartbeats 4000000 in
theorem e_Ja_fillI_k2_seconds_5 (x1 : Int32) (x2 : Int32) (x3 : Int32) (D : pD) (E : pDL) : Ja_fillI_k2_seconds_5 x1 x2 x3 D E = (if x3 ≤ x2 then (some (none, D, E)) else (if x2 < 0 ∨ 24 ≤ x2.toNatClampNeg then none else (Ja_fillI_k2_seconds_5 x1 (x2 + (1 : Int32)) x3 (dset D 91 0 x2.toNatClampNeg x1) E))) := (pEg m243 (d := 0) 15 _ _ _ _).trans rfl
set_option maxRecDepth 100000 in
set_option maxHeartbeats 4000000 in
theorem e_Ja_fillI_k2_thirds_5 (x1 : Int32) (x2 : Int32) (x3 : Int32) (D : pD) (E : pDL) : Ja_fillI_k2_thirds_5 x1 x2 x3 D E = (if x3 ≤ x2 then (some (none, D, E)) else (if x2 < 0 ∨ 24 ≤ x2.toNatClampNeg then none else (Ja_fillI_k2_thirds_5 x1 (x2 + (1 : Int32)) x3 (dset D 92 0 x2.toNatClampNeg x1) E))) := (pEg m243 (d := 0) 15 _ _ _ _).trans rfl
set_option maxRecDepth 100000 in
set_option maxHeartbeats 4000000 in
theorem e_Ja_fillI_k2_notes_5 (x1 : Int32) (x2 : Int32) (x3 : Int32) (D : pD) (E : pDL) : Ja_fillI_k2_notes_5 x1 x2 x3 D E = (if x3 ≤ x2 then (some (none, D, E)) else (if x2 < 0 ∨ 24 ≤ x2.toNatClampNeg then none else (Ja_fillI_k2_notes_5 x1 (x2 + (1 : Int32)) x3 (dset D 93 0 x2.toNatClampNeg x1) E))) := (pEg m243 (d := 0) 15 _ _ _ _).trans rfl
set_option maxRecDepth 100000 in
set_option maxHeartbeats 4000000 in
theorem e_Ja_fillI_k3_kinds_5 (x1 : Int32) (x2 : Int32) (x3 : Int32) (D : pD) (E : pDL) : Ja_fillI_k3_kinds_5 x1 x2 x3 D E = (if x3 ≤ x2 then (some (none, D, E)) else (if x2 < 0 ∨ 24 ≤ x2.toNatClampNeg then none else (Ja_fillI_k3_kinds_5 x1 (x2 + (1 : Int32)) x3 (dset D 95 0 x2.toNatClampNeg x1) E))) := (pEg m243 (d := 0) 15 _ _ _ _).trans rfl
set_option maxRecDepth 100000 in
set_option maxHeartbeats 4000000 in
theorem e_Ja_fillI_k3_firsts_5 (x1 : Int32) (x2 : Int32) (x3 : Int32) (D : pD) (E : pDL) : Ja_fillI_k3_firsts_5 x1 x2 x3 D E = (if x3 ≤ x2 then (some (none, D, E)) else (if x2 < 0 ∨ 24 ≤ x2.toNatClampNeg then none else (Ja_fillI_k3_firsts_5 x1 (x2 + (1 : Int32)) x3 (dset D 96 0 x2.toNatClampNeg x1) E))) := (pEg m243 (d := 0) 15 _ _ _ _).trans rfl
set_option maxRecDepth 100000 in
set_option maxHeartbeats 4000000 in
theorem e_Ja_fillI_k3_seconds_5 (x1 : Int32) (x2 : Int32) (x3 : Int32) (D : pD) (E : pDL) : Ja_fillI_k3_seconds_5 x1 x2 x3 D E = (if x3 ≤ x2 then (some (none, D, E)) else (if x2 < 0 ∨ 24 ≤ x2.toNatClampNeg then none else (Ja_fillI_k3_seconds_5 x1 (x2 + (1 : Int32)) x3 (dset D 97 0 x2.toNatClampNeg x1) E))) := (pEg m243 (d := 0) 15 _ _ _ _).trans rfl
set_option maxRecDepth 100000 in
set_option maxHeartbeats 4000000 in
theorem e_Ja_fillI_k3_thirds_5 (x1 : Int32) (x2 : Int32) (x3 : Int32) (D : pD) (E : pDL) : Ja_fillI_k3_thirds_5 x1 x2 x3 D E = (if x3 ≤ x2 then (some (none, D, E)) else (if x2 < 0 ∨ 24 ≤ x2.toNatClampNeg then none else (Ja_fillI_k3_thirds_5 x1 (x2 + (1 : Int32)) x3 (dset D 98 0 x2.toNatClampNeg x1) E))) := (pEg m243 (d := 0) 15 _ _ _ _).trans rfl
set_option maxRecDepth 100000 in
set_option maxHeartbeats 4000000 in
theorem e_Ja_fillI_k3_notes_5 (x1 : Int32) (x2 : Int32) (x3 : Int32) (D : pD) (E : pDL) : Ja_fillI_k3_notes_5 x1 x2 x3 D E = (if x3 ≤ x2 then (some (none, D, E)) else (if x2 < 0 ∨ 24 ≤ x2.toNatClampNeg then none else (Ja_fillI_k3_notes_5 x1 (x2 + (1 : Int32)) x3 (dset D 99 0 x2.toNatClampNeg x1) E))) := (pEg m243 (d := 0) 15 _ _ _ _).trans rfl
