/-! THE EASY CALLS -/
theorem in_0 (D : pD) (E : pDL) {x : Int32} {c : Nat} (hc : c < 2147483648) (h : x < 0 ∨ nI c ≤ x) : Mo_in x 0 (nI c - 1) D E = some (some (.inl 0), D, E) := by
  rw [e_Mo_in]
  by_cases h0 : x < 0
  · rw [if_pos h0]
  · rw [if_neg h0, if_pos]
    obtain ⟨j, hj, rfl⟩ := nI_of h0
    have h1 := h.resolve_left h0
    rw [iL hc hj] at h1
    cases c with
    | zero =>
      rw [show nI 0 - 1 = -1 by decide]
      rw [Int32.lt_iff_toInt_lt, nI_toInt hj]
      have : (-1 : Int32).toInt = -1 := by decide
      omega
    | succ c =>
      rw [nI_pred]
      exact nI_lt (by omega) hj
theorem in_1 (D : pD) (E : pDL) {j c : Nat} (hc : c < 2147483648) (h : j < c) : Mo_in (nI j) 0 (nI c - 1) D E = some (some (.inl 1), D, E) := by
  obtain ⟨c, rfl⟩ : ∃ d, c = d + 1 := ⟨c - 1, by omega⟩
  rw [e_Mo_in, nI_pred, if_neg (iN (by omega)), if_neg (nI_nlt (by omega) (by omega))]
theorem and_00 : (0 : Int32) &&& 1 = 0 := by decide
theorem and_11 : (1 : Int32) &&& 1 = 1 := by decide
theorem h10 : ((1 : Int32) = 0) = False := eq_false (by decide)
theorem has0_n (D : pD) (E : pDL) {x : Int32} {c : Nat} (hc : D 4 0 0 = nI c) (h : x < 0 ∨ nI c ≤ x) : Bk_has 0 x D E = some (some (.inl 0), D, E) := Bk_has_no (k := 0) (by omega) D E (by rw [hc]; exact h)
theorem has0_y (D : pD) (E : pDL) {j c : Nat} (hc : D 4 0 0 = nI c) (h : j < c) (hm : c < 2147483648) : Bk_has 0 (nI j) D E = some (some (.inl 1), D, E) := Bk_has_yes (k := 0) (by omega) D E (iN (by omega)) (by rw [hc]; exact nI_ge h hm)
theorem is0_n (D : pD) (E : pDL) {x : Int32} {c : Nat} (hc : D 102 0 0 = nI c) (hm : c < 2147483648) (h : x < 0 ∨ nI c ≤ x) : Mo_isNotion x D E = some (some (.inl 0), D, E) := by
  rw [e_Mo_isNotion, hc, in_0 D E hm h, B1s, if_pos and_00]
theorem is0_y (D : pD) (E : pDL) {j c : Nat} (hc : D 102 0 0 = nI c) (hm : c < 2147483648) (h : j < c) : Mo_isNotion (nI j) D E = some (some (.inl 1), D, E) := by
  rw [e_Mo_isNotion, hc, in_1 D E hm h, B1s, if_pos and_11]
theorem has1_n (D : pD) (E : pDL) {x : Int32} {c : Nat} (hc : D 4 0 1 = nI c) (h : x < 0 ∨ nI c ≤ x) : Bk_has 1 x D E = some (some (.inl 0), D, E) := Bk_has_no (k := 1) (by omega) D E (by rw [hc]; exact h)
theorem has1_y (D : pD) (E : pDL) {j c : Nat} (hc : D 4 0 1 = nI c) (h : j < c) (hm : c < 2147483648) : Bk_has 1 (nI j) D E = some (some (.inl 1), D, E) := Bk_has_yes (k := 1) (by omega) D E (iN (by omega)) (by rw [hc]; exact nI_ge h hm)
theorem is1_n (D : pD) (E : pDL) {x : Int32} {c : Nat} (hc : D 102 0 1 = nI c) (hm : c < 2147483648) (h : x < 0 ∨ nI c ≤ x) : Mo_isWord x D E = some (some (.inl 0), D, E) := by
  rw [e_Mo_isWord, hc, in_0 D E hm h, B1s, if_pos and_00]
theorem is1_y (D : pD) (E : pDL) {j c : Nat} (hc : D 102 0 1 = nI c) (hm : c < 2147483648) (h : j < c) : Mo_isWord (nI j) D E = some (some (.inl 1), D, E) := by
  rw [e_Mo_isWord, hc, in_1 D E hm h, B1s, if_pos and_11]
theorem has2_n (D : pD) (E : pDL) {x : Int32} {c : Nat} (hc : D 4 0 2 = nI c) (h : x < 0 ∨ nI c ≤ x) : Bk_has 2 x D E = some (some (.inl 0), D, E) := Bk_has_no (k := 2) (by omega) D E (by rw [hc]; exact h)
theorem has2_y (D : pD) (E : pDL) {j c : Nat} (hc : D 4 0 2 = nI c) (h : j < c) (hm : c < 2147483648) : Bk_has 2 (nI j) D E = some (some (.inl 1), D, E) := Bk_has_yes (k := 2) (by omega) D E (iN (by omega)) (by rw [hc]; exact nI_ge h hm)
theorem is2_n (D : pD) (E : pDL) {x : Int32} {c : Nat} (hc : D 102 0 2 = nI c) (hm : c < 2147483648) (h : x < 0 ∨ nI c ≤ x) : Mo_isPlace x D E = some (some (.inl 0), D, E) := by
  rw [e_Mo_isPlace, hc, in_0 D E hm h, B1s, if_pos and_00]
theorem is2_y (D : pD) (E : pDL) {j c : Nat} (hc : D 102 0 2 = nI c) (hm : c < 2147483648) (h : j < c) : Mo_isPlace (nI j) D E = some (some (.inl 1), D, E) := by
  rw [e_Mo_isPlace, hc, in_1 D E hm h, B1s, if_pos and_11]
theorem has3_n (D : pD) (E : pDL) {x : Int32} {c : Nat} (hc : D 4 0 3 = nI c) (h : x < 0 ∨ nI c ≤ x) : Bk_has 3 x D E = some (some (.inl 0), D, E) := Bk_has_no (k := 3) (by omega) D E (by rw [hc]; exact h)
theorem has3_y (D : pD) (E : pDL) {j c : Nat} (hc : D 4 0 3 = nI c) (h : j < c) (hm : c < 2147483648) : Bk_has 3 (nI j) D E = some (some (.inl 1), D, E) := Bk_has_yes (k := 3) (by omega) D E (iN (by omega)) (by rw [hc]; exact nI_ge h hm)
theorem is3_n (D : pD) (E : pDL) {x : Int32} {c : Nat} (hc : D 102 0 3 = nI c) (hm : c < 2147483648) (h : x < 0 ∨ nI c ≤ x) : Mo_isTie x D E = some (some (.inl 0), D, E) := by
  rw [e_Mo_isTie, hc, in_0 D E hm h, B1s, if_pos and_00]
theorem is3_y (D : pD) (E : pDL) {j c : Nat} (hc : D 102 0 3 = nI c) (hm : c < 2147483648) (h : j < c) : Mo_isTie (nI j) D E = some (some (.inl 1), D, E) := by
  rw [e_Mo_isTie, hc, in_1 D E hm h, B1s, if_pos and_11]
theorem has4_n (D : pD) (E : pDL) {x : Int32} {c : Nat} (hc : D 4 0 4 = nI c) (h : x < 0 ∨ nI c ≤ x) : Bk_has 4 x D E = some (some (.inl 0), D, E) := Bk_has_no (k := 4) (by omega) D E (by rw [hc]; exact h)
theorem has4_y (D : pD) (E : pDL) {j c : Nat} (hc : D 4 0 4 = nI c) (h : j < c) (hm : c < 2147483648) : Bk_has 4 (nI j) D E = some (some (.inl 1), D, E) := Bk_has_yes (k := 4) (by omega) D E (iN (by omega)) (by rw [hc]; exact nI_ge h hm)
theorem is4_n (D : pD) (E : pDL) {x : Int32} {c : Nat} (hc : D 102 0 4 = nI c) (hm : c < 2147483648) (h : x < 0 ∨ nI c ≤ x) : Mo_isHearer x D E = some (some (.inl 0), D, E) := by
  rw [e_Mo_isHearer, hc, in_0 D E hm h, B1s, if_pos and_00]
theorem is4_y (D : pD) (E : pDL) {j c : Nat} (hc : D 102 0 4 = nI c) (hm : c < 2147483648) (h : j < c) : Mo_isHearer (nI j) D E = some (some (.inl 1), D, E) := by
  rw [e_Mo_isHearer, hc, in_1 D E hm h, B1s, if_pos and_11]
/-- end -/
theorem L_end (x : Int32) (D : pD) (E : pDL) (h : Inv D) : Same D E (Hb_end x) (Mo_end x) := by
  have hh := h
  obtain ⟨cN, cW, cP, cT, cH, hT, hF, hB, hN, hK, hG, hY, hL⟩ := h
  obtain ⟨n, hn, t1, t2, t3, t25⟩ := id hT
  rcases ixc x (n := n + 1) (by omega) with hx | ⟨j, hj, rfl⟩
  · refine Same.ro (v := -1) hh ?_ ?_
    · rw [e_Hb_end, t1]
      by_cases h0 : x < 0
      · rw [if_pos h0]
      · rw [if_neg h0, if_neg]
        obtain ⟨j, hj, rfl⟩ := nI_of h0
        have := hx.resolve_left h0
        rw [iL (by omega) hj] at this
        exact nI_ge (by omega) hj
    · rw [e_Mo_end, t2]
      by_cases h0 : x < 0
      · rw [if_pos h0]
      · rw [if_neg h0, if_neg]
        obtain ⟨j, hj, rfl⟩ := nI_of h0
        have := hx.resolve_left h0
        rw [iL (by omega) hj] at this
        exact nI_ge (by omega) hj
  · refine ⟨nI j, dset D 1 0 1 (nI j), E, dset (dset D 1 0 1 (nI j)) 100 0 1 (nI j), E, ?_, ?_, cN, cW, cP, cT, cH, ⟨j, by omega, ?_, ?_, ?_, ?_⟩, ?_⟩
    · rw [e_Hb_end, t1]
      simp (disch := omega) only [sC, sN, sN0, sLL, sTT, sEE, sM1, sF, sGt, sLe, sLt, sNe, or_false, or_true, false_or, true_or, or_self, if_true, if_false, not_true_eq_false, not_false_eq_true, B1s, B0s, B2s]
    · rw [e_Mo_end, dsN (by decide), t2]
      simp (disch := omega) only [sC, sN, sN0, sLL, sTT, sEE, sM1, sF, sGt, sLe, sLt, sNe, or_false, or_true, false_or, true_or, or_self, if_true, if_false, not_true_eq_false, not_false_eq_true, B1s, B0s, B2s]
    · simp (disch := decide) only [dsN, dsA, if_true]
    · simp (disch := decide) only [dsN, dsA, if_true]
    · simp (disch := decide) only [dsN]
      exact fun i hi => t3 i (by omega)
    · simp (disch := decide) only [dsN]
      exact t25
    · have k1 : Ko [1, 100] D (dset (dset D 1 0 1 (nI j)) 100 0 1 (nI j)) := (Ko.rf.set (by decide) _ _ _).set (by decide) _ _ _
      have k2 : ∀ i, i ≠ 1 → dset (dset D 1 0 1 (nI j)) 100 0 1 (nI j) 100 0 i = D 100 0 i := fun i hi => by rw [dsA, if_neg hi, dsN (by decide)]
      exact ⟨hF.fr (congrFun (k1.at (l := [17]) (by decide) 17 (by decide)) _) (congrFun (k1.at (l := [17]) (by decide) 17 (by decide)) _) (k2 _ (by decide)) (k2 _ (by decide)), hB.fr (k1.at (by decide)), hN.fr (k1.at (by decide)), hK.fr (k1.at (by decide)), hG.fr (k1.at (by decide)), hY.fr (k1.at (by decide)) (congrFun (k1.at (l := [59]) (by decide) 59 (by decide)) _) (k2 _ (by decide)), hL.fr (k1.at (by decide)) (congrFun (k1.at (l := [65]) (by decide) 65 (by decide)) _) (congrFun (k1.at (l := [65]) (by decide) 65 (by decide)) _) (congrFun (k1.at (l := [65]) (by decide) 65 (by decide)) _) (k2 _ (by decide)) (k2 _ (by decide)) (k2 _ (by decide))⟩
/-- fault -/
theorem L_fault (x : Int32) (D : pD) (E : pDL) (h : Inv D) : Same D E (Hb_fault x) (Mo_fault x) := by
  have hh := h
  obtain ⟨cN, cW, cP, cT, cH, hT, hF, hB, hN, hK, hG, hY, hL⟩ := h
  obtain ⟨⟨⟨n1, n2, n3, n4, n5⟩, ⟨a1, a2, a3, a4, a5⟩, ⟨b1, b2, b3, b4, b5⟩⟩, hS, hW, hGS, r1, r2, r3, r4, r5, r6⟩ := id hB
  by_cases h0 : x = 0
  · exact Same.ro (v := D 17 0 4) hh (by rw [e_Hb_fault]; simp only [sI0, h0, if_true]) (by rw [e_Mo_fault, hF.1, if_pos h0])
  · by_cases h1 : x = 1
    · exact Same.ro (v := D 17 0 5) hh (by rw [e_Hb_fault]; simp only [sI0, sI1, h0, h1, if_true, if_false, h10]) (by rw [e_Mo_fault, hF.2, if_neg h0, if_pos h1])
    · exact Same.ro (v := -1) hh (by rw [e_Hb_fault]; simp only [sI0, sI1, h0, h1, if_false]) (by rw [e_Mo_fault, if_neg h0, if_neg h1])
/-- notion -/
theorem L_notion (x : Int32) (D : pD) (E : pDL) (h : Inv D) : Same D E (Hb_notion x) (Mo_notion x) := by
  have hh := h
  obtain ⟨cN, cW, cP, cT, cH, hT, hF, hB, hN, hK, hG, hY, hL⟩ := h
  obtain ⟨⟨⟨n1, n2, n3, n4, n5⟩, ⟨a1, a2, a3, a4, a5⟩, ⟨b1, b2, b3, b4, b5⟩⟩, hS, hW, hGS, r1, r2, r3, r4, r5, r6⟩ := id hB
  rcases ixc x (n := cP) (by omega) with hx | ⟨p, hp, rfl⟩
  · refine Same.ro (v := -2) hh ?_ ?_
    · rw [e_Hb_notion, has2_n D E a3 hx, B1s, if_pos rfl]
    · rw [e_Mo_notion, is2_n D E b3 (by omega) hx, B1s, if_pos rfl]
  · refine Same.ro (v := D 10 0 p) hh ?_ ?_
    · rw [e_Hb_notion, has2_y D E a3 hp (by omega)]
      simp (disch := omega) only [sC, sN, sN0, sLL, sTT, sEE, sM1, sF, sGt, sLe, sLt, sNe, or_false, or_true, false_or, true_or, or_self, if_true, if_false, not_true_eq_false, not_false_eq_true, B1s, B0s, B2s, h10]
    · rw [e_Mo_notion, is2_y D E b3 (by omega) hp]
      simp (disch := omega) only [sC, sN, sN0, sLL, sTT, sEE, sM1, sF, sGt, sLe, sLt, sNe, or_false, or_true, false_or, true_or, or_self, if_true, if_false, not_true_eq_false, not_false_eq_true, B1s, B0s, B2s, h10, (r4 p hp).1]
