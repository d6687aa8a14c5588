/-! CALLS ON CHOICES -/
theorem q01 : ((0 : Int32) = 1) = False := eq_false (by decide)
theorem q02 : ((0 : Int32) = 2) = False := eq_false (by decide)
theorem q03 : ((0 : Int32) = 3) = False := eq_false (by decide)
theorem q10 : ((1 : Int32) = 0) = False := eq_false (by decide)
theorem q12 : ((1 : Int32) = 2) = False := eq_false (by decide)
theorem q13 : ((1 : Int32) = 3) = False := eq_false (by decide)
theorem q20 : ((2 : Int32) = 0) = False := eq_false (by decide)
theorem q21 : ((2 : Int32) = 1) = False := eq_false (by decide)
theorem q23 : ((2 : Int32) = 3) = False := eq_false (by decide)
theorem q30 : ((3 : Int32) = 0) = False := eq_false (by decide)
theorem q31 : ((3 : Int32) = 1) = False := eq_false (by decide)
theorem q32 : ((3 : Int32) = 2) = False := eq_false (by decide)
theorem iNL (a b : Int32) : (a ≤ b) = ¬ b < a := by
  rw [← Int32.not_le, Classical.not_not]
theorem dset_same (D : pD) (k j i : Nat) : dset D k j i (D k j i) = D := by
  funext k' j'
  unfold dset
  split
  · next h =>
    obtain ⟨rfl, rfl⟩ := h
    funext m
    by_cases e : m = i
    · rw [e, pk_us]
    · rw [pk_un e]
  · rfl
theorem putX_id (D : pD) (p : Nat) : putX D p (D 43 0 p) (D 44 0 p) (D 45 0 p) (D 46 0 p) = D := by
  unfold putX
  rw [dset_same, dset_same, dset_same, dset_same]
theorem putM_1 (D : pD) (p : Nat) (k : Int32) : putM D p k (D 116 0 p) (D 117 0 p) (D 118 0 p) = dset D 115 0 p k := by
  unfold putM
  have e1 : dset (dset D 115 0 p k) 116 0 p (D 116 0 p) = dset D 115 0 p k := by
    have := dset_same (dset D 115 0 p k) 116 0 p
    rwa [dsN (by decide)] at this
  rw [e1]
  have e2 : dset (dset D 115 0 p k) 117 0 p (D 117 0 p) = dset D 115 0 p k := by
    have := dset_same (dset D 115 0 p k) 117 0 p
    rwa [dsN (by decide)] at this
  rw [e2]
  have := dset_same (dset D 115 0 p k) 118 0 p
  rwa [dsN (by decide)] at this
theorem out_ne {x : Int32} {n : Nat} (h : x < 0 ∨ nI n ≤ x) (hn : n < 2147483648) {j : Nat} (hj : j < n) : ¬ x = nI j := by
  rintro rfl
  rcases h with h | h
  · exact iN (by omega) h
  · exact nI_ge hj (by omega) h
theorem in_out (D : pD) (E : pDL) {x m : Int32} (c : Nat) (hm : m = nI c - 1) (hc : c < 2147483648) (h : x < 0 ∨ nI c ≤ x) : Mo_in x 0 m D E = some (some (.inl 0), D, E) := by
  rw [hm]
  exact in_0 D E hc h
theorem in_in (D : pD) (E : pDL) {j : Nat} {m : Int32} (c : Nat) (hm : m = nI c - 1) (hc : c < 2147483648) (h : j < c) : Mo_in (nI j) 0 m D E = some (some (.inl 1), D, E) := by
  rw [hm]
  exact in_1 D E hc h
theorem XC.no {n : Nat} {k a b c : Int32} (h : XC n k a b c) (hk : k = -1) : a = -1 ∧ b = -1 ∧ c = -1 := by
  subst hk
  rcases h with ⟨-, h⟩ | ⟨h, -⟩ | ⟨h, -⟩ | ⟨h, -⟩ | ⟨h, -⟩
  · exact h
  all_goals exact absurd h (by decide)
theorem SC.no (n : Nat) (a' b' c' : Int32) : SC n (-1) (-1) (-1) (-1) (-1) a' b' c' := ⟨Or.inl ⟨rfl, rfl, rfl, rfl⟩, rfl, fun z => absurd rfl z⟩
theorem SC.rf {n : Nat} {k a b c : Int32} (h : XC n k a b c) : SC n k a b c k a b c := ⟨h, rfl, fun _ => ⟨rfl, rfl, rfl⟩⟩
/-- leave -/
theorem L_leave (x : Int32) (D : pD) (E : pDL) (h : Inv D) : Same D E (Hb_leave x) (Mo_leave x) := by
  have hh := h
  obtain ⟨cN, cW, cP, cT, cH, hT, hF, hB, hN, hK, hG, hY, hL⟩ := h
  obtain ⟨⟨⟨n1, n2, n3, n4, n5⟩, ⟨a1, a2, a3, a4, a5⟩, ⟨b1, b2, b3, b4, b5⟩⟩, hS, hW, hGS, r1, r2, r3, r4, r5, r6⟩ := id hB
  have hR : Rest cN cW cP cT cH D := ⟨hT, hF, hB, hK, hG, hY, hL⟩
  rcases ixc x (n := cP) (by omega) with hx | ⟨p, hp, rfl⟩
  · exact Same.ro (v := -2) hh (by rw [e_Hb_leave, has2_n D E a3 hx, B1s, if_pos rfl]) (by rw [e_Mo_leave, is2_n D E b3 (by omega) hx, B1s, if_pos rfl])
  · have kd := now_kd hN (p := p) (by omega)
    have hp24 : p < 24 := by omega
    by_cases h0 : D 43 0 p = -1
    · refine ⟨0, D, E, dset D 115 0 p (-1), E, ?_, ?_, ?_⟩
      · rw [e_Hb_leave, has2_y D E a3 hp (by omega)]
        simp (disch := omega) only [sC, sN, sN0, sLL, sTT, sEE, sM1, sF, sGt, sLe, sLt, sNe, or_false, or_true, false_or, true_or, or_self, if_true, if_false, not_true_eq_false, not_false_eq_true, B1s, B0s, B2s, h10, Rn_isChosen_spec hp24, h0]
      · rw [e_Mo_leave, is2_y D E b3 (by omega) hp]
        simp (disch := omega) only [sC, sN, sN0, sLL, sTT, sEE, sM1, sF, sGt, sLe, sLt, sNe, or_false, or_true, false_or, true_or, or_self, if_true, if_false, not_true_eq_false, not_false_eq_true, B1s, B0s, B2s, h10, kd, h0]
      · have q := (hN p hp24).1.1.no h0
        have e1 := putX_id D p
        rw [h0, q.1, q.2.1, q.2.2] at e1
        have n1 := put_now hN hp (SC.no cW (D 116 0 p) (D 117 0 p) (D 118 0 p))
        have n2 := put_rest hR p (-1) (-1) (-1) (-1) (-1) (D 116 0 p) (D 117 0 p) (D 118 0 p)
        rw [e1, putM_1] at n1 n2
        exact n2.inv n1
    · refine ⟨1, putX D p (-1) (-1) (-1) (-1), E, dset (putX D p (-1) (-1) (-1) (-1)) 115 0 p (-1), E, ?_, ?_, ?_⟩
      · rw [e_Hb_leave, has2_y D E a3 hp (by omega)]
        simp (disch := omega) only [sC, sN, sN0, sLL, sTT, sEE, sM1, sF, sGt, sLe, sLt, sNe, or_false, or_true, false_or, true_or, or_self, if_true, if_false, not_true_eq_false, not_false_eq_true, B1s, B0s, B2s, h10, Rn_isChosen_spec hp24, h0, Rn_put_spec hp24]
      · rw [e_Mo_leave, is2_y _ E (by rw [putX_n (by decide)]; exact b3) (by omega) hp]
        simp (disch := omega) only [sC, sN, sN0, sLL, sTT, sEE, sM1, sF, sGt, sLe, sLt, sNe, or_false, or_true, false_or, true_or, or_self, if_true, if_false, not_true_eq_false, not_false_eq_true, B1s, B0s, B2s, h10]
        rw [putX_n (by decide), kd, if_neg h0]
      · have n1 := put_now hN hp (SC.no cW (D 116 0 p) (D 117 0 p) (D 118 0 p))
        have n2 := put_rest hR p (-1) (-1) (-1) (-1) (-1) (D 116 0 p) (D 117 0 p) (D 118 0 p)
        have e2 := putM_1 (putX D p (-1) (-1) (-1) (-1)) p (-1)
        rw [putX_n (by decide), putX_n (by decide), putX_n (by decide)] at e2
        rw [e2] at n1 n2
        exact n2.inv n1
/-- choice -/
theorem L_choice (x y : Int32) (D : pD) (E : pDL) (h : Inv D) : Same D E (Hb_choice x y) (Mo_choice x y) := by
  have hh := h
  obtain ⟨cN, cW, cP, cT, cH, hT, hF, hB, hN, hK, hG, hY, hL⟩ := h
  obtain ⟨⟨⟨n1, n2, n3, n4, n5⟩, ⟨a1, a2, a3, a4, a5⟩, ⟨b1, b2, b3, b4, b5⟩⟩, hS, hW, hGS, r1, r2, r3, r4, r5, r6⟩ := id hB
  rcases ixc x (n := cP) (by omega) with hx | ⟨p, hp, rfl⟩
  · exact Same.ro (v := -2) hh (by rw [e_Hb_choice, has2_n D E a3 hx, B1s, if_pos rfl]) (by rw [e_Mo_choice, is2_n D E b3 (by omega) hx, B1s, if_pos rfl])
  · have hp24 : p < 24 := by omega
    obtain ⟨hx, kd, hw⟩ := (hN p hp24).1
    rcases ixc y (n := 4) (by omega) with hy | ⟨j, hj, rfl⟩
    · refine Same.ro (v := -2) hh ?_ ?_
      · rw [e_Hb_choice, has2_y D E a3 hp (by omega)]
        have e0 : ¬ y = 0 := out_ne hy (by omega) (j := 0) (by omega)
        have e1 : ¬ y = 1 := out_ne hy (by omega) (j := 1) (by omega)
        have e2 : ¬ y = 2 := out_ne hy (by omega) (j := 2) (by omega)
        have e3 : ¬ y = 3 := out_ne hy (by omega) (j := 3) (by omega)
        simp only [B1s, h10, if_false, sI0, sI1, sI2, sI3, e0, e1, e2, e3]
      · rw [e_Mo_choice, is2_y D E b3 (by omega) hp, B1s, if_neg (by decide), in_out D E 4 (by decide) (by omega) hy, B1s, if_pos rfl]
    · have hj' : j = 0 ∨ j = 1 ∨ j = 2 ∨ j = 3 := by omega
      by_cases h0 : D 43 0 p = -1
      · have q := hx.no h0
        refine Same.ro (v := -1) hh ?_ ?_
        · rw [e_Hb_choice, has2_y D E a3 hp (by omega)]
          rcases hj' with rfl | rfl | rfl | rfl
          · simp (disch := omega) only [sC, sN, sN0, sLL, sTT, sEE, sM1, sF, sGt, sLe, sLt, sNe, or_false, or_true, false_or, true_or, or_self, if_true, if_false, not_true_eq_false, not_false_eq_true, B1s, B0s, B2s, h10, sI0, nI_0, h0]
          · simp (disch := omega) only [sC, sN, sN0, sLL, sTT, sEE, sM1, sF, sGt, sLe, sLt, sNe, or_false, or_true, false_or, true_or, or_self, if_true, if_false, not_true_eq_false, not_false_eq_true, B1s, B0s, B2s, h10, show nI 1 = (1 : Int32) from rfl, sI0, sI1, h0, q.1]
          · simp (disch := omega) only [sC, sN, sN0, sLL, sTT, sEE, sM1, sF, sGt, sLe, sLt, sNe, or_false, or_true, false_or, true_or, or_self, if_true, if_false, not_true_eq_false, not_false_eq_true, B1s, B0s, B2s, h10, show nI 2 = (2 : Int32) from rfl, sI0, sI1, sI2, h0, q.2.1, show ((2 : Int32) = 0) = False from eq_false (by decide), show ((2 : Int32) = 1) = False from eq_false (by decide)]
          · simp (disch := omega) only [sC, sN, sN0, sLL, sTT, sEE, sM1, sF, sGt, sLe, sLt, sNe, or_false, or_true, false_or, true_or, or_self, if_true, if_false, not_true_eq_false, not_false_eq_true, B1s, B0s, B2s, h10, show nI 3 = (3 : Int32) from rfl, sI0, sI1, sI2, sI3, h0, q.2.2, show ((3 : Int32) = 0) = False from eq_false (by decide), show ((3 : Int32) = 1) = False from eq_false (by decide), show ((3 : Int32) = 2) = False from eq_false (by decide)]
        · rw [e_Mo_choice, is2_y D E b3 (by omega) hp, B1s, if_neg (by decide), in_in D E 4 (by decide) (by omega) hj]
          simp (disch := omega) only [sC, sN, sN0, sLL, sTT, sEE, sM1, sF, sGt, sLe, sLt, sNe, or_false, or_true, false_or, true_or, or_self, if_true, if_false, not_true_eq_false, not_false_eq_true, B1s, B0s, B2s, h10, kd, h0]
      · obtain ⟨q1, q2, q3⟩ := hw h0
        refine Same.ro (v := if j = 0 then D 43 0 p else if j = 1 then D 44 0 p else if j = 2 then D 45 0 p else D 46 0 p) hh ?_ ?_
        · rw [e_Hb_choice, has2_y D E a3 hp (by omega)]
          rcases hj' with rfl | rfl | rfl | rfl
          · simp (disch := omega) only [sC, sN, sN0, sLL, sTT, sEE, sM1, sF, sGt, sLe, sLt, sNe, or_false, or_true, false_or, true_or, or_self, if_true, if_false, not_true_eq_false, not_false_eq_true, B1s, B0s, B2s, h10, sI0, nI_0]
          · simp (disch := omega) only [sC, sN, sN0, sLL, sTT, sEE, sM1, sF, sGt, sLe, sLt, sNe, or_false, or_true, false_or, true_or, or_self, if_true, if_false, not_true_eq_false, not_false_eq_true, B1s, B0s, B2s, h10, show nI 1 = (1 : Int32) from rfl, sI0, sI1]
          · simp (disch := omega) only [sC, sN, sN0, sLL, sTT, sEE, sM1, sF, sGt, sLe, sLt, sNe, or_false, or_true, false_or, true_or, or_self, if_true, if_false, not_true_eq_false, not_false_eq_true, B1s, B0s, B2s, h10, show nI 2 = (2 : Int32) from rfl, sI0, sI1, sI2, show ((2 : Int32) = 0) = False from eq_false (by decide), show ((2 : Int32) = 1) = False from eq_false (by decide)]
          · simp (disch := omega) only [sC, sN, sN0, sLL, sTT, sEE, sM1, sF, sGt, sLe, sLt, sNe, or_false, or_true, false_or, true_or, or_self, if_true, if_false, not_true_eq_false, not_false_eq_true, B1s, B0s, B2s, h10, show nI 3 = (3 : Int32) from rfl, sI0, sI1, sI2, sI3, show ((3 : Int32) = 0) = False from eq_false (by decide), show ((3 : Int32) = 1) = False from eq_false (by decide), show ((3 : Int32) = 2) = False from eq_false (by decide)]
        · rw [e_Mo_choice, is2_y D E b3 (by omega) hp, B1s, if_neg (by decide), in_in D E 4 (by decide) (by omega) hj]
          rcases hj' with rfl | rfl | rfl | rfl
          · simp (disch := omega) only [sC, sN, sN0, sLL, sTT, sEE, sM1, sF, sGt, sLe, sLt, sNe, or_false, or_true, false_or, true_or, or_self, if_true, if_false, not_true_eq_false, not_false_eq_true, B1s, B0s, B2s, h10, nI_0, kd, h0]
          · simp (disch := omega) only [sC, sN, sN0, sLL, sTT, sEE, sM1, sF, sGt, sLe, sLt, sNe, or_false, or_true, false_or, true_or, or_self, if_true, if_false, not_true_eq_false, not_false_eq_true, B1s, B0s, B2s, h10, show nI 1 = (1 : Int32) from rfl, kd, h0, q1]
          · simp (disch := omega) only [sC, sN, sN0, sLL, sTT, sEE, sM1, sF, sGt, sLe, sLt, sNe, or_false, or_true, false_or, true_or, or_self, if_true, if_false, not_true_eq_false, not_false_eq_true, B1s, B0s, B2s, h10, show nI 2 = (2 : Int32) from rfl, kd, h0, q2, show ((2 : Int32) = 0) = False from eq_false (by decide), show ((2 : Int32) = 1) = False from eq_false (by decide)]
          · simp (disch := omega) only [sC, sN, sN0, sLL, sTT, sEE, sM1, sF, sGt, sLe, sLt, sNe, or_false, or_true, false_or, true_or, or_self, if_true, if_false, not_true_eq_false, not_false_eq_true, B1s, B0s, B2s, h10, show nI 3 = (3 : Int32) from rfl, kd, h0, q3, show ((3 : Int32) = 0) = False from eq_false (by decide), show ((3 : Int32) = 1) = False from eq_false (by decide), show ((3 : Int32) = 2) = False from eq_false (by decide)]
/-- bears -/
theorem L_bears (x y : Int32) (D : pD) (E : pDL) (h : Inv D) : Same D E (Hb_bears x y) (Mo_bears x y) := by
  have hh := h
  obtain ⟨cN, cW, cP, cT, cH, hT, hF, hB, hN, hK, hG, hY, hL⟩ := h
  obtain ⟨⟨⟨n1, n2, n3, n4, n5⟩, ⟨a1, a2, a3, a4, a5⟩, ⟨b1, b2, b3, b4, b5⟩⟩, hS, hW, hGS, r1, r2, r3, r4, r5, r6⟩ := id hB
  have d20 : ((2 : Int32) = 0) = False := eq_false (by decide)
  have d21 : ((2 : Int32) = 1) = False := eq_false (by decide)
  have d30 : ((3 : Int32) = 0) = False := eq_false (by decide)
  have d31 : ((3 : Int32) = 1) = False := eq_false (by decide)
  have d32 : ((3 : Int32) = 2) = False := eq_false (by decide)
  rcases ixc x (n := cP) (by omega) with hx | ⟨p, hp, rfl⟩
  · exact Same.ro (v := -2) hh (by rw [e_Hb_bears, has2_n D E a3 hx, B1s, if_pos rfl]) (by rw [e_Mo_bears, is2_n D E b3 (by omega) hx, B1s, if_pos rfl])
  · have hp24 : p < 24 := by omega
    obtain ⟨hx, kd, hw⟩ := (hN p hp24).1
    have hnote := (hN p hp24).2.1
    rcases ixc y (n := 5) (by omega) with hy | ⟨j, hj, rfl⟩
    · refine Same.ro (v := -2) hh ?_ ?_
      · rw [e_Hb_bears, has2_y D E a3 hp (by omega), B1s, if_neg (by decide)]
        rcases hy with hy | hy
        · rw [if_pos hy]
        · by_cases h0 : y < 0
          · rw [if_pos h0]
          · rw [if_neg h0, if_neg]
            obtain ⟨m, hm, rfl⟩ := nI_of h0
            rw [iL (by omega) hm] at hy
            exact nI_ge (a := 4) (by omega) hm
      · rw [e_Mo_bears, is2_y D E b3 (by omega) hp, B1s, if_neg (by decide), in_out D E 5 (by decide) (by omega) hy, B1s, if_pos rfl]
    · by_cases h4 : j = 4
      · subst h4
        refine Same.ro (v := D 47 0 p) hh ?_ ?_
        · rw [e_Hb_bears, has2_y D E a3 hp (by omega)]
          simp (disch := omega) only [sC, sN, sN0, sLL, sTT, sEE, sM1, sF, sGt, sLe, sLt, sNe, or_false, or_true, false_or, true_or, or_self, if_true, if_false, not_true_eq_false, not_false_eq_true, B1s, B0s, B2s, h10, cn4, ce4]
        · rw [e_Mo_bears, is2_y D E b3 (by omega) hp, B1s, if_neg (by decide), in_in D E 5 (by decide) (by omega) hj]
          simp (disch := omega) only [sC, sN, sN0, sLL, sTT, sEE, sM1, sF, sGt, sLe, sLt, sNe, or_false, or_true, false_or, true_or, or_self, if_true, if_false, not_true_eq_false, not_false_eq_true, B1s, B0s, B2s, h10, cn4, ce4, hnote]
      · have hj' : j = 0 ∨ j = 1 ∨ j = 2 ∨ j = 3 := by omega
        by_cases h0 : D 43 0 p = -1
        · refine Same.ro (v := -1) hh ?_ ?_
          · rw [e_Hb_bears, has2_y D E a3 hp (by omega)]
            simp (disch := omega) only [sC, sN, sN0, sLL, sTT, sEE, sM1, sF, sGt, sLe, sLt, sNe, or_false, or_true, false_or, true_or, or_self, if_true, if_false, not_true_eq_false, not_false_eq_true, B1s, B0s, B2s, h10, cn4, ce4, Rn_isChosen_spec hp24, h0]
          · rw [e_Mo_bears, is2_y D E b3 (by omega) hp, B1s, if_neg (by decide), in_in D E 5 (by decide) (by omega) hj]
            simp (disch := omega) only [sC, sN, sN0, sLL, sTT, sEE, sM1, sF, sGt, sLe, sLt, sNe, or_false, or_true, false_or, true_or, or_self, if_true, if_false, not_true_eq_false, not_false_eq_true, B1s, B0s, B2s, h10, cn4, ce4, kd, h0]
        · refine Same.ro (v := if j = 0 then tA (D 9 0) (D 44 0 p) (D 45 0 p) (D 46 0 p) else if j = 1 then D 11 0 p &&& (tA (D 9 0) (D 44 0 p) (D 45 0 p) (D 46 0 p) ^^^ (-1)) else if j = 2 then tA (D 9 0) (D 44 0 p) (D 45 0 p) (D 46 0 p) &&& (D 8 0 (pN D p) ^^^ (-1)) else Rn_lostAt_held_wordTraits_v D p) hh ?_ ?_
          · rw [e_Hb_bears, has2_y D E a3 hp (by omega)]
            simp (disch := omega) only [sC, sN, sN0, sLL, sTT, sEE, sM1, sF, sGt, sLe, sLt, sNe, or_false, or_true, false_or, true_or, or_self, if_true, if_false, not_true_eq_false, not_false_eq_true, B1s, B0s, B2s, h10, cn4, ce4, Rn_isChosen_spec hp24, h0, Rn_traitsAt_held_wordTraits_spec hp24]
            rcases hj' with rfl | rfl | rfl | rfl
            · simp only [nI_0, sI0, if_true]
            · simp only [show nI 1 = (1 : Int32) from rfl, sI0, sI1, if_true, if_false, h10, Bk_lacksOf_spec hp24, B1s, Nat.one_ne_zero]
            · simp (disch := omega) only [show nI 2 = (2 : Int32) from rfl, sI0, sI1, sI2, if_true, if_false, d20, d21, Bk_addsOf_spec hp24 _ D E (r3 p hp24), B1s, sNe]
            · simp (disch := omega) only [show nI 3 = (3 : Int32) from rfl, sI0, sI1, sI2, if_false, d30, d31, d32, X_lostAt hB hp24, B1s, sNe]
          · rw [e_Mo_bears, is2_y D E b3 (by omega) hp, B1s, if_neg (by decide), in_in D E 5 (by decide) (by omega) hj]
            simp (disch := omega) only [sC, sN, sN0, sLL, sTT, sEE, sM1, sF, sGt, sLe, sLt, sNe, or_false, or_true, false_or, true_or, or_self, if_true, if_false, not_true_eq_false, not_false_eq_true, B1s, B0s, B2s, h10, cn4, ce4, kd, h0]
            rcases hj' with rfl | rfl | rfl | rfl
            · simp only [nI_0, if_true, M_had hB hN hY hp24, B1s]
            · simp only [show nI 1 = (1 : Int32) from rfl, if_true, if_false, h10, M_lackAt hB hN hY hp, B1s, Nat.one_ne_zero]
            · simp (disch := omega) only [show nI 2 = (2 : Int32) from rfl, if_true, if_false, d20, d21, M_addAt hB hN hY hp, B1s, sNe]
            · simp (disch := omega) only [show nI 3 = (3 : Int32) from rfl, if_false, d30, d31, d32, M_lostAt hB hN hY hp, B1s, sNe]
theorem Rn_v_putM {D : pD} {p q : Nat} {k a b c : Int32} : Rn_lostAt_held_wordTraits_v (putM D p k a b c) q = Rn_lostAt_held_wordTraits_v D q := by
  unfold Rn_lostAt_held_wordTraits_v pN
  simp (disch := decide) only [putM_n]
/-- a choice is put in both, and what it loses -/
theorem put_fin {cN cW cP cT cH : Nat} {D : pD} {E : pDL} (hR : Rest cN cW cP cT cH D) (hN : iNow cW cP D) {p : Nat} (hp : p < cP) {k a b c : Int32} (hx : XC cW k a b c) {f g : pD → pDL → Option pRes}
    (hf : f D E = pB1 (Rn_lostAt_held_wordTraits (nI p) (putX D p k a b c) E) fun y D2 E2 => some (some (.inl y), D2, E2))
    (hg : g (putX D p k a b c) E = pB1 (Mo_lostAt (nI p) (-1) (putM (putX D p k a b c) p k a b c) E) fun y D2 E2 => some (some (.inl y), D2, E2)) : Same D E f g := by
  have h24 : p < 24 := by have := hR.2.2.1.1.1.2.2.1; omega
  have h1 : Rest cN cW cP cT cH (putX D p k a b c) := hR.ko (putX_ko D p k a b c) (by decide)
  have h2 := put_rest hR p k a b c k a b c
  have h3 := put_now hN hp (SC.rf hx)
  refine ⟨_, putX D p k a b c, E, putM (putX D p k a b c) p k a b c, E, by rw [hf, X_lostAt h1.2.2.1 h24, B1s], ?_, h2.inv h3⟩
  rw [hg, M_lostAt h2.2.2.1 h3 h2.2.2.2.2.2.1 hp, B1s, Rn_v_putM]
theorem in03 (D : pD) (E : pDL) : Mo_in 0 0 3 D E = some (some (.inl 1), D, E) := in_in D E (j := 0) 4 (by decide) (by omega) (by omega)
theorem in13 (D : pD) (E : pDL) : Mo_in 1 0 3 D E = some (some (.inl 1), D, E) := in_in D E (j := 1) 4 (by decide) (by omega) (by omega)
theorem in23 (D : pD) (E : pDL) : Mo_in 2 0 3 D E = some (some (.inl 1), D, E) := in_in D E (j := 2) 4 (by decide) (by omega) (by omega)
theorem in33 (D : pD) (E : pDL) : Mo_in 3 0 3 D E = some (some (.inl 1), D, E) := in_in D E (j := 3) 4 (by decide) (by omega) (by omega)
theorem w_in {i c : Nat} (h : i < c) (hc : c < 2147483648) : vp_in (nI i) c := iB h hc
theorem L_choose0 (p : Nat) (a b c : Int32) (D : pD) (E : pDL) {cN cW cP cT cH : Nat} (hR : Rest cN cW cP cT cH D) (hN : iNow cW cP D) (hp : p < cP) : Same D E (Hb_choose (nI p) 0 a b c) (Mo_choose (nI p) 0 a b c) := by
  obtain ⟨⟨⟨n1, n2, n3, n4, n5⟩, ⟨a1, a2, a3, a4, a5⟩, ⟨b1, b2, b3, b4, b5⟩⟩, -⟩ := id hR.2.2.1
  have h24 : p < 24 := by omega
  rcases ixc a (n := cW) (by omega) with ha | ⟨i, hi, rfl⟩
  · refine Same.ro (v := -2) (hR.inv hN) ?_ ?_
    · rw [e_Hb_choose, has2_y D E a3 hp (by omega), B1s, if_neg (by decide), e_Hb_wordsAreFit]
      simp only [B1s, h10, sI0, if_true, if_false, has1_n D E a2 ha, and_00]
    · rw [e_Mo_choose, is2_y D E b3 (by omega) hp, B1s, if_neg (by decide), in03]
      simp only [B1s, h10, q03, if_true, if_false, is1_n D E b2 (by omega) ha]
  · refine put_fin hR hN hp (k := 0) (a := nI i) (b := -1) (c := -1) (Or.inr (Or.inl ⟨rfl, w_in hi (by omega), rfl, rfl⟩)) ?_ ?_
    · rw [e_Hb_choose, has2_y D E a3 hp (by omega), B1s, if_neg (by decide), e_Hb_wordsAreFit]
      simp only [B1s, B0s, h10, q01, q02, q03, sI0, if_true, if_false, has1_y D E a2 hi (by omega), and_11, e_Hb_choose_60, Rn_put_spec h24]
    · rw [e_Mo_choose, is2_y _ E (by rw [putX_n (by decide)]; exact b3) (by omega) hp, B1s, if_neg (by decide), in03]
      simp only [B1s, B0s, h10, q01, q02, q03, if_true, if_false, or_self, is1_y (putX D p 0 (nI i) (-1) (-1)) E (by rw [putX_n (by decide)]; exact b2) (by omega) hi, e_Mo_choose_36, e_Mo_choose_69, Mo_put_spec h24]
theorem L_choose3 (p : Nat) (a b c : Int32) (D : pD) (E : pDL) {cN cW cP cT cH : Nat} (hR : Rest cN cW cP cT cH D) (hN : iNow cW cP D) (hp : p < cP) : Same D E (Hb_choose (nI p) 3 a b c) (Mo_choose (nI p) 3 a b c) := by
  obtain ⟨⟨⟨n1, n2, n3, n4, n5⟩, ⟨a1, a2, a3, a4, a5⟩, ⟨b1, b2, b3, b4, b5⟩⟩, -⟩ := id hR.2.2.1
  have h24 : p < 24 := by omega
  refine put_fin hR hN hp (k := 3) (a := -1) (b := -1) (c := -1) (Or.inr (Or.inr (Or.inr (Or.inr ⟨rfl, rfl, rfl, rfl⟩)))) ?_ ?_
  · rw [e_Hb_choose, has2_y D E a3 hp (by omega), B1s, if_neg (by decide), e_Hb_wordsAreFit]
    simp only [B1s, B0s, h10, q30, q31, q32, sI0, sI1, sI2, sI3, if_true, if_false, e_Hb_choose_60, Rn_put_spec h24]
  · rw [e_Mo_choose, is2_y _ E (by rw [putX_n (by decide)]; exact b3) (by omega) hp, B1s, if_neg (by decide), in33]
    simp only [B1s, B0s, h10, q31, q32, if_true, if_false, or_self, e_Mo_choose_36, e_Mo_choose_69, Mo_put_spec h24]
theorem L_choose1 (p : Nat) (a b c : Int32) (D : pD) (E : pDL) {cN cW cP cT cH : Nat} (hR : Rest cN cW cP cT cH D) (hN : iNow cW cP D) (hp : p < cP) : Same D E (Hb_choose (nI p) 1 a b c) (Mo_choose (nI p) 1 a b c) := by
  obtain ⟨⟨⟨n1, n2, n3, n4, n5⟩, ⟨a1, a2, a3, a4, a5⟩, ⟨b1, b2, b3, b4, b5⟩⟩, -⟩ := id hR.2.2.1
  have h24 : p < 24 := by omega
  rcases ixc a (n := cW) (by omega) with ha | ⟨i, hi, rfl⟩
  · refine Same.ro (v := -2) (hR.inv hN) ?_ ?_
    · rw [e_Hb_choose, has2_y D E a3 hp (by omega), B1s, if_neg (by decide), e_Hb_wordsAreFit]
      simp only [B1s, h10, sI0, sI1, if_true, if_false, has1_n D E a2 ha]
    · rw [e_Mo_choose, is2_y D E b3 (by omega) hp, B1s, if_neg (by decide), in13]
      simp only [B1s, h10, q13, if_true, if_false, is1_n D E b2 (by omega) ha]
  · rcases ixc b (n := cW) (by omega) with hb | ⟨j, hj, rfl⟩
    · refine Same.ro (v := -2) (hR.inv hN) ?_ ?_
      · rw [e_Hb_choose, has2_y D E a3 hp (by omega), B1s, if_neg (by decide), e_Hb_wordsAreFit]
        simp only [B1s, h10, sI0, sI1, if_true, if_false, has1_n D E a2 hb, has1_y D E a2 hi (by omega)]
      · rw [e_Mo_choose, is2_y D E b3 (by omega) hp, B1s, if_neg (by decide), in13]
        simp only [B1s, h10, q13, if_true, if_false, is1_y D E b2 (by omega) hi, is1_n D E b2 (by omega) hb, e_Mo_choose_36]
    · by_cases hij : nI i = nI j
      · refine Same.ro (v := -2) (hR.inv hN) ?_ ?_
        · rw [e_Hb_choose, has2_y D E a3 hp (by omega), B1s, if_neg (by decide), e_Hb_wordsAreFit]
          simp only [B1s, h10, sI0, sI1, if_true, if_false, has1_y D E a2 hj (by omega), hij]
        · rw [e_Mo_choose, is2_y D E b3 (by omega) hp, B1s, if_neg (by decide), in13]
          simp only [B1s, h10, q13, if_true, if_false, is1_y D E b2 (by omega) hj, e_Mo_choose_36, hij]
      · refine put_fin hR hN hp (k := 1) (a := nI i) (b := nI j) (c := -1) (Or.inr (Or.inr (Or.inl ⟨rfl, w_in hi (by omega), w_in hj (by omega), rfl⟩))) ?_ ?_
        · rw [e_Hb_choose, has2_y D E a3 hp (by omega), B1s, if_neg (by decide), e_Hb_wordsAreFit]
          simp only [B1s, B0s, h10, q12, q13, sI0, sI1, if_true, if_false, has1_y D E a2 hi (by omega), has1_y D E a2 hj (by omega), hij, e_Hb_choose_60, Rn_put_spec h24]
        · rw [e_Mo_choose, is2_y _ E (by rw [putX_n (by decide)]; exact b3) (by omega) hp, B1s, if_neg (by decide), in13]
          simp only [B1s, B0s, h10, q12, q13, if_true, if_false, true_or, is1_y (putX D p 1 (nI i) (nI j) (-1)) E (by rw [putX_n (by decide)]; exact b2) (by omega) hi, is1_y (putX D p 1 (nI i) (nI j) (-1)) E (by rw [putX_n (by decide)]; exact b2) (by omega) hj, hij, e_Mo_choose_36, e_Mo_choose_69, Mo_put_spec h24]
theorem L_choose2 (p : Nat) (a b c : Int32) (D : pD) (E : pDL) {cN cW cP cT cH : Nat} (hR : Rest cN cW cP cT cH D) (hN : iNow cW cP D) (hp : p < cP) : Same D E (Hb_choose (nI p) 2 a b c) (Mo_choose (nI p) 2 a b c) := by
  obtain ⟨⟨⟨n1, n2, n3, n4, n5⟩, ⟨a1, a2, a3, a4, a5⟩, ⟨b1, b2, b3, b4, b5⟩⟩, -⟩ := id hR.2.2.1
  have h24 : p < 24 := by omega
  rcases ixc a (n := cW) (by omega) with ha | ⟨i, hi, rfl⟩
  · refine Same.ro (v := -2) (hR.inv hN) ?_ ?_
    · rw [e_Hb_choose, has2_y D E a3 hp (by omega), B1s, if_neg (by decide), e_Hb_wordsAreFit]
      simp only [B1s, h10, q20, q21, sI0, sI1, sI2, if_true, if_false, has1_n D E a2 ha]
    · rw [e_Mo_choose, is2_y D E b3 (by omega) hp, B1s, if_neg (by decide), in23]
      simp only [B1s, h10, q23, if_true, if_false, is1_n D E b2 (by omega) ha]
  · rcases ixc b (n := cW) (by omega) with hb | ⟨j, hj, rfl⟩
    · refine Same.ro (v := -2) (hR.inv hN) ?_ ?_
      · rw [e_Hb_choose, has2_y D E a3 hp (by omega), B1s, if_neg (by decide), e_Hb_wordsAreFit]
        simp only [B1s, h10, q20, q21, sI0, sI1, sI2, if_true, if_false, has1_n D E a2 hb, has1_y D E a2 hi (by omega)]
      · rw [e_Mo_choose, is2_y D E b3 (by omega) hp, B1s, if_neg (by decide), in23]
        simp only [B1s, h10, q21, q23, if_true, if_false, is1_y D E b2 (by omega) hi, is1_n D E b2 (by omega) hb, e_Mo_choose_36]
    · have main : (c = -1 ∨ ∃ l, l < cW ∧ c = nI l) → Same D E (Hb_choose (nI p) 2 (nI i) (nI j) c) (Mo_choose (nI p) 2 (nI i) (nI j) c) := by
        intro hc
        refine put_fin hR hN hp (k := 2) (a := nI i) (b := nI j) (c := c) (Or.inr (Or.inr (Or.inr (Or.inl ⟨rfl, w_in hi (by omega), w_in hj (by omega), hc.imp id (fun ⟨l, hl, e⟩ => by rw [e]; exact w_in hl (by omega))⟩)))) ?_ ?_
        · rw [e_Hb_choose, has2_y D E a3 hp (by omega), B1s, if_neg (by decide), e_Hb_wordsAreFit]
          simp only [B1s, B0s, h10, q20, q21, q23, sI0, sI1, sI2, if_true, if_false, has1_y D E a2 hi (by omega), has1_y D E a2 hj (by omega)]
          rcases hc with rfl | ⟨l, hl, rfl⟩
          · simp only [B1s, B0s, h10, if_true, if_false, e_Hb_choose_60, Rn_put_spec h24]
          · simp (disch := omega) only [sC, sN, sN0, sLL, sTT, sEE, sM1, sF, sGt, sLe, sLt, sNe, or_false, or_true, false_or, true_or, or_self, if_true, if_false, not_true_eq_false, not_false_eq_true, B1s, B0s, B2s, h10, has1_y D E a2 hl (by omega), e_Hb_choose_60, Rn_put_spec h24]
        · rw [e_Mo_choose, is2_y _ E (by rw [putX_n (by decide)]; exact b3) (by omega) hp, B1s, if_neg (by decide), in23]
          simp only [B1s, B0s, h10, q21, q23, if_true, if_false, is1_y (putX D p 2 (nI i) (nI j) c) E (by rw [putX_n (by decide)]; exact b2) (by omega) hi, is1_y (putX D p 2 (nI i) (nI j) c) E (by rw [putX_n (by decide)]; exact b2) (by omega) hj, e_Mo_choose_36, e_Mo_choose_69]
          rcases hc with rfl | ⟨l, hl, rfl⟩
          · simp only [B1s, B0s, q21, q23, if_true, if_false, or_true, Mo_put_spec h24]
          · simp (disch := omega) only [sC, sN, sN0, sLL, sTT, sEE, sM1, sF, sGt, sLe, sLt, sNe, or_false, or_true, false_or, true_or, or_self, if_true, if_false, not_true_eq_false, not_false_eq_true, B1s, B0s, B2s, h10, q21, q23, is1_y (putX D p 2 (nI i) (nI j) (nI l)) E (by rw [putX_n (by decide)]; exact b2) (by omega) hl, Mo_put_spec h24]
      by_cases hc1 : c = -1
      · exact main (Or.inl hc1)
      · rcases ixc c (n := cW) (by omega) with hc | ⟨l, hl, rfl⟩
        · refine Same.ro (v := -2) (hR.inv hN) ?_ ?_
          · rw [e_Hb_choose, has2_y D E a3 hp (by omega), B1s, if_neg (by decide), e_Hb_wordsAreFit]
            simp only [B1s, h10, q20, q21, sI0, sI1, sI2, if_true, if_false, has1_y D E a2 hi (by omega), has1_y D E a2 hj (by omega), hc1, has1_n D E a2 hc]
          · rw [e_Mo_choose, is2_y D E b3 (by omega) hp, B1s, if_neg (by decide), in23]
            simp only [B1s, h10, q21, q23, if_true, if_false, is1_y D E b2 (by omega) hi, is1_y D E b2 (by omega) hj, e_Mo_choose_36, e_Mo_choose_69, hc1, is1_n D E b2 (by omega) hc]
        · exact main (Or.inr ⟨l, hl, rfl⟩)
/-- choose -/
theorem L_choose (x k a b c : Int32) (D : pD) (E : pDL) (h : Inv D) : Same D E (Hb_choose x k a b c) (Mo_choose x k a b c) := by
  have hh := h
  obtain ⟨cN, cW, cP, cT, cH, hT, hF, hB, hN, hK, hG, hY, hL⟩ := h
  obtain ⟨⟨⟨n1, n2, n3, n4, n5⟩, ⟨a1, a2, a3, a4, a5⟩, ⟨b1, b2, b3, b4, b5⟩⟩, hS, hW, hGS, r1, r2, r3, r4, r5, r6⟩ := id hB
  have hR : Rest cN cW cP cT cH D := ⟨hT, hF, hB, hK, hG, hY, hL⟩
  rcases ixc x (n := cP) (by omega) with hx | ⟨p, hp, rfl⟩
  · exact Same.ro (v := -2) hh (by rw [e_Hb_choose, has2_n D E a3 hx, B1s, if_pos rfl]) (by rw [e_Mo_choose, is2_n D E b3 (by omega) hx, B1s, if_pos rfl])
  · rcases ixc k (n := 4) (by omega) with hy | ⟨j, hj, rfl⟩
    · have e0 : ¬ k = 0 := out_ne hy (by omega) (j := 0) (by omega)
      have e1 : ¬ k = 1 := out_ne hy (by omega) (j := 1) (by omega)
      have e2 : ¬ k = 2 := out_ne hy (by omega) (j := 2) (by omega)
      have e3 : ¬ k = 3 := out_ne hy (by omega) (j := 3) (by omega)
      refine Same.ro (v := -2) hh ?_ ?_
      · rw [e_Hb_choose, has2_y D E a3 hp (by omega), B1s, if_neg (by decide), e_Hb_wordsAreFit]
        simp only [B1s, sI0, sI1, sI2, sI3, e0, e1, e2, e3, if_false, if_true]
      · rw [e_Mo_choose, is2_y D E b3 (by omega) hp, B1s, if_neg (by decide), in_out D E 4 (by decide) (by omega) hy, B1s, if_pos rfl]
    · have hj' : j = 0 ∨ j = 1 ∨ j = 2 ∨ j = 3 := by omega
      rcases hj' with rfl | rfl | rfl | rfl
      · exact L_choose0 p a b c D E hR hN hp
      · exact L_choose1 p a b c D E hR hN hp
      · exact L_choose2 p a b c D E hR hN hp
      · exact L_choose3 p a b c D E hR hN hp
