/-! ONE WORD FOR A NOTION: one, price -/
theorem X_optB {cW : Nat} (hc : cW ≤ 20) {D : pD} {E : pDL} (a2 : D 4 0 1 = nI cW) {o : Nat} (ho : o ≤ cW) : Rn_isBorrowedOption (nI o) D E = some (some (.inl (if o = cW then 1 else 0)), D, E) := by
  rw [e_Rn_isBorrowedOption, a2]
  simp (disch := omega) only [sEE]
  split <;> rfl
theorem X_optT {cW : Nat} (hc : cW ≤ 20) {D : pD} {E : pDL} (a2 : D 4 0 1 = nI cW) {o : Nat} (ho : o ≤ cW) : Rn_traitsOfOption (nI o) D E = some (some (.inl (if o = cW then 0 else D 9 0 o)), D, E) := by
  rw [e_Rn_traitsOfOption, X_optB hc a2 ho, B1s]
  by_cases e : o = cW
  · rw [if_pos e, if_pos e, if_neg (by decide)]
  · rw [if_neg e, if_neg e, if_pos rfl, Rn_traitsOf_held_wordTraits_spec, B1s, tO_in _ (iB (N := 20) (by omega) (by omega)), iC (by omega)]
/-- what an option loses at a place -/
def lO (D : pD) (cW p o : Nat) : Int32 := lT (D 5 0 0) (D 5 0 1) (D 6 0) (D 11 0 p) (D 8 0 (pN D p)) (D 47 0 p) (if o = cW then 0 else D 9 0 o) + (if o = cW then D 5 0 2 else 0)
def plO (D : pD) (p o : Nat) : Int32 := lT (D 5 0 0) (D 5 0 1) (D 6 0) (D 11 0 p) (D 8 0 (pN D p)) (D 47 0 p) (D 9 0 o)
theorem lO_p {D : pD} {cW p o : Nat} (h : o < cW) : lO D cW p o = plO D p o := by
  unfold lO plO
  rw [if_neg (by omega), if_neg (by omega), Int32.add_zero]
theorem X_opt {cN cW cP cT cH : Nat} {D : pD} {E : pDL} (h : iBook cN cW cP cT cH D) {p o : Nat} (hp : p < 24) (ho : o ≤ cW) : Rn_lostWithOption (nI p) (nI o) D E = some (some (.inl (lO D cW p o)), D, E) := by
  have hB := h.bk
  have n2 := h.1.1.2.1
  have a2 := h.1.2.1.2.1
  rw [e_Rn_lostWithOption, X_optT n2 a2 ho, B1s, if_neg (iB hp (by omega)), iC (by omega), Bk_lostByTraits_spec hp _ _ _ _ hB.1 (hB.2.1 p hp), B1s, X_optB n2 a2 ho, B1s]
  unfold lO
  by_cases e : o = cW
  · simp only [e, if_true, h10, if_false]
    rw [show (7 : Int32) = nI (2 + 5) from rfl, Bk_setting_spec (by omega), B1s]
  · simp only [e, if_true, if_false]
theorem M_set {cN cW cP cT cH : Nat} {D : pD} (h : iBook cN cW cP cT cH D) {k : Nat} (hk : k < 5) : D 102 0 (5 + k) = D 5 0 k := by
  obtain ⟨s, -, e, f⟩ := h.2.1 k hk
  rw [e, f]
theorem M_plain {cN cW cP cT cH : Nat} {D : pD} {E : pDL} (h : iBook cN cW cP cT cH D) (hN : iNow cW cP D) {p o : Nat} (hp : p < cP) (ho : o < cW) : Mo_plainAt (nI p) (nI o) D E = some (some (.inl (plO D p o)), D, E) := by
  obtain ⟨⟨⟨n1, n2, n3, n4, n5⟩, -, -⟩, hS, hW, hGS, r1, r2, r3, r4, r5, r6⟩ := id h
  have q1 := (r4 p hp).1
  have q2 := M_notion h hp
  unfold mN at q2
  rw [q1] at q2
  have q3a : ¬ D 10 0 p < 0 := fun z => r3 p (by omega) (Or.inl z)
  have q3b : ¬ 24 ≤ (D 10 0 p).toNatClampNeg := fun z => r3 p (by omega) (Or.inr (by omega))
  rw [e_Mo_plainAt]
  simp (disch := omega) only [sC, sN, sN0, sLL, sTT, sEE, sM1, sF, sGt, sLe, sLt, sNe, or_false, or_true, false_or, true_or, or_self, if_true, if_false, not_true_eq_false, not_false_eq_true, B1s, B0s, B2s, q1, q2, q3a, q3b, r2 o ho, (r4 p hp).2.2, (hN p (by omega)).2.1, Mo_weigh_spec, M_wS h, show D 102 0 5 = D 5 0 0 from M_set h (k := 0) (by omega), show D 102 0 6 = D 5 0 1 from M_set h (k := 1) (by omega)]
  rfl
/-- the sum over a notion's places -/
def sW (D : pD) (x : Int32) (cP o : Nat) : Int32 := iS (fun p => if D 10 0 p = x then plO D p o else 0) cP
theorem X_sum {cN cW cP cT cH : Nat} {D : pD} {E : pDL} (h : iBook cN cW cP cT cH D) (x : Int32) {o : Nat} (ho : o < cW) : Rn_lostWithWord x (nI o) D E = some (some (.inl (sW D x cP o)), D, E) := by
  obtain ⟨⟨⟨n1, n2, n3, n4, n5⟩, ⟨a1, a2, a3, a4, a5⟩, ⟨b1, b2, b3, b4, b5⟩⟩, -⟩ := id h
  rw [e_Rn_lostWithWord]
  refine (z0 (fun k => Rn_lostWithWord_5 x (nI o) (sW D x k o) (nI k) D E) cP (fun k hk => ?_)).trans ?_
  · show Rn_lostWithWord_5 _ _ _ _ _ _ = Rn_lostWithWord_5 _ _ _ _ _ _
    unfold sW
    rw [e_Rn_lostWithWord_5, iS]
    by_cases h0 : D 10 0 k = x
    · simp (disch := omega) only [sC, sN, sN0, sLL, sTT, sEE, sM1, sF, sGt, sLe, sLt, sNe, or_false, or_true, false_or, true_or, or_self, if_true, if_false, not_true_eq_false, not_false_eq_true, B1s, B0s, B2s, a3, h0, X_opt h (show k < 24 by omega) (Nat.le_of_lt ho), lO_p ho, ca1]
    · simp (disch := omega) only [sC, sN, sN0, sLL, sTT, sEE, sM1, sF, sGt, sLe, sLt, sNe, or_false, or_true, false_or, true_or, or_self, if_true, if_false, not_true_eq_false, not_false_eq_true, B1s, B0s, B2s, a3, h0, Int32.add_zero, ca1]
  · show Rn_lostWithWord_5 _ _ _ _ _ _ = _
    rw [e_Rn_lostWithWord_5, a3, if_pos (nI_le (Nat.le_refl _) (by omega))]
theorem M_sum {cN cW cP cT cH : Nat} {D : pD} {E : pDL} (h : iBook cN cW cP cT cH D) (hN : iNow cW cP D) (x : Int32) {o : Nat} (ho : o < cW) : Mo_plainSum x (nI o) D E = some (some (.inl (sW D x cP o)), D, E) := by
  obtain ⟨⟨⟨n1, n2, n3, n4, n5⟩, ⟨a1, a2, a3, a4, a5⟩, ⟨b1, b2, b3, b4, b5⟩⟩, hS, hW, hGS, r1, r2, r3, r4, r5, r6⟩ := id h
  rw [e_Mo_plainSum]
  refine (z0 (fun k => Mo_plainSum_5 x (nI o) (sW D x k o) (nI k) D E) cP (fun k hk => ?_)).trans ?_
  · show Mo_plainSum_5 _ _ _ _ _ _ = Mo_plainSum_5 _ _ _ _ _ _
    unfold sW
    rw [e_Mo_plainSum_5, iS]
    by_cases h0 : D 10 0 k = x
    · simp (disch := omega) only [sC, sN, sN0, sLL, sTT, sEE, sM1, sF, sGt, sLe, sLt, sNe, or_false, or_true, false_or, true_or, or_self, if_true, if_false, not_true_eq_false, not_false_eq_true, B1s, B0s, B2s, b3, (r4 k hk).1, h0, M_plain h hN hk ho, ca1]
    · simp (disch := omega) only [sC, sN, sN0, sLL, sTT, sEE, sM1, sF, sGt, sLe, sLt, sNe, or_false, or_true, false_or, true_or, or_self, if_true, if_false, not_true_eq_false, not_false_eq_true, B1s, B0s, B2s, b3, (r4 k hk).1, h0, ca1]
  · show Mo_plainSum_5 _ _ _ _ _ _ = _
    rw [e_Mo_plainSum_5, b3, if_pos (nI_le (Nat.le_refl _) (by omega))]
theorem X_one {cN cW cP cT cH : Nat} {D : pD} {E : pDL} (h : iBook cN cW cP cT cH D) (x : Int32) : Rn_oneWord x D E = some (some (.inl (tl (sW D x cP) cW).1), D, E) := by
  obtain ⟨⟨⟨n1, n2, n3, n4, n5⟩, ⟨a1, a2, a3, a4, a5⟩, ⟨b1, b2, b3, b4, b5⟩⟩, -⟩ := id h
  rw [e_Rn_oneWord]
  refine (z0 (fun k => Rn_oneWord_7 x (tl (sW D x cP) k).1 (tl (sW D x cP) k).2 (nI k) D E) cW (fun k hk => ?_)).trans ?_
  · show Rn_oneWord_7 _ _ _ _ _ _ = Rn_oneWord_7 _ _ _ _ _ _
    rw [e_Rn_oneWord_7, tl]
    simp (disch := omega) only [sC, sN, sN0, sLL, sTT, sEE, sM1, sF, sGt, sLe, sLt, sNe, or_false, or_true, false_or, true_or, or_self, if_true, if_false, not_true_eq_false, not_false_eq_true, B1s, B0s, B2s, a2, X_sum h x hk, ca1]
    by_cases h0 : (tl (sW D x cP) k).1 = -1
    · rw [if_pos h0, if_pos h0]
    · rw [if_neg h0, if_neg h0]
      by_cases h1 : sW D x cP k < (tl (sW D x cP) k).2
      · rw [if_pos h1, if_neg (by rw [iNL]; exact fun q => q h1)]
      · rw [if_neg h1, if_pos (by rw [iNL]; exact h1)]
  · show Rn_oneWord_7 _ _ _ _ _ _ = _
    rw [e_Rn_oneWord_7, a2, if_pos (nI_le (Nat.le_refl _) (by omega))]
theorem M_one {cN cW cP cT cH : Nat} {D : pD} {E : pDL} (h : iBook cN cW cP cT cH D) (hN : iNow cW cP D) (x : Int32) : Mo_oneOf x D E = some (some (.inl (tl (sW D x cP) cW).1), D, E) := by
  obtain ⟨⟨⟨n1, n2, n3, n4, n5⟩, ⟨a1, a2, a3, a4, a5⟩, ⟨b1, b2, b3, b4, b5⟩⟩, -⟩ := id h
  rw [e_Mo_oneOf]
  refine (z0 (fun k => Mo_oneOf_4 x (tl (sW D x cP) k).1 (nI k) D E) cW (fun k hk => ?_)).trans ?_
  · show Mo_oneOf_4 _ _ _ _ _ = Mo_oneOf_4 _ _ _ _ _
    rw [e_Mo_oneOf_4, tl]
    simp (disch := omega) only [sC, sN, sN0, sLL, sTT, sEE, sM1, sF, sGt, sLe, sLt, sNe, or_false, or_true, false_or, true_or, or_self, if_true, if_false, not_true_eq_false, not_false_eq_true, B1s, B0s, B2s, b2, ca1]
    by_cases hz : k = 0
    · subst hz
      rw [tl, if_pos rfl, if_pos rfl]
    · obtain ⟨j, hj, ej, ev⟩ := tl_in (sW D x cP) k (by omega) (by omega)
      rw [ej, ev, if_neg (iM (by omega)), if_neg (iM (by omega)), M_sum h hN x hk, B1s, M_sum h hN x (show j < cW by omega), B1s]
      by_cases h1 : sW D x cP k < sW D x cP j
      · rw [if_pos h1, if_neg (by rw [iNL]; exact fun q => q h1)]
      · rw [if_neg h1, if_pos (by rw [iNL]; exact h1), ej]
  · show Mo_oneOf_4 _ _ _ _ _ = _
    rw [e_Mo_oneOf_4, b2, if_pos (nI_le (Nat.le_refl _) (by omega))]
/-- one -/
theorem L_one (x : Int32) (D : pD) (E : pDL) (h : Inv D) : Same D E (Hb_one x) (Mo_one x) := by
  have hh := h
  obtain ⟨cN, cW, cP, cT, cH, hT, hF, hB, hN, hK, hG, hY, hL⟩ := h
  obtain ⟨⟨⟨n1, n2, n3, n4, n5⟩, ⟨a1, a2, a3, a4, a5⟩, ⟨b1, b2, b3, b4, b5⟩⟩, hS, hW, hGS, r1, r2, r3, r4, r5, r6⟩ := id hB
  rcases ixc x (n := cN) (by omega) with hx | ⟨n, hn, rfl⟩
  · exact Same.ro (v := -2) hh (by rw [e_Hb_one, has0_n D E a1 hx, B1s, if_pos rfl]) (by rw [e_Mo_one, is0_n D E b1 (by omega) hx, B1s, if_pos rfl])
  · exact Same.ro hh (by rw [e_Hb_one, has0_y D E a1 hn (by omega), B1s, if_neg (by decide), X_one hB, B1s]) (by rw [e_Mo_one, is0_y D E b1 (by omega) hn, B1s, if_neg (by decide), M_one hB hN, B1s])
/-- the least of 0 .. n -/
def mlst (f : Nat → Int32) : Nat → Int32
  | 0 => f 0
  | n + 1 => if f (n + 1) < mlst f n then f (n + 1) else mlst f n
def sL (D : pD) (x : Int32) (cW cP : Nat) : Int32 := iS (fun p => if D 10 0 p = x then mlst (plO D p) (cW - 1) else 0) cP
theorem X_least {cN cW cP cT cH : Nat} {D : pD} {E : pDL} (h : iBook cN cW cP cT cH D) (x : Int32) (hw : 0 < cW) : Rn_lostWithLeast x D E = some (some (.inl (sL D x cW cP)), D, E) := by
  obtain ⟨⟨⟨n1, n2, n3, n4, n5⟩, ⟨a1, a2, a3, a4, a5⟩, ⟨b1, b2, b3, b4, b5⟩⟩, -⟩ := id h
  rw [e_Rn_lostWithLeast]
  refine (z0 (fun k => Rn_lostWithLeast_4 x (sL D x cW k) (nI k) D E) cP (fun k hk => ?_)).trans ?_
  · show Rn_lostWithLeast_4 _ _ _ _ _ = Rn_lostWithLeast_4 _ _ _ _ _
    have hk24 : k < 24 := by omega
    have o0 : Rn_lostWithOption (nI k) 0 D E = some (some (.inl (plO D k 0)), D, E) := by
      rw [← lO_p hw]
      exact X_opt h hk24 (Nat.zero_le _)
    have hz : ¬ nI cW ≤ 0 := nI_ge (a := 0) hw (by omega)
    rw [e_Rn_lostWithLeast_4]
    have hin : ∀ s, Rn_lostWithLeast_53 x s (nI k) (plO D k 0) 1 D E = Rn_lostWithLeast_4 x (s + mlst (plO D k) (cW - 1)) (nI (k + 1)) D E := by
      intro s
      refine (z0 (fun j => Rn_lostWithLeast_53 x s (nI k) (mlst (plO D k) j) (nI (j + 1)) D E) (cW - 1) (fun j hj => ?_)).trans ?_
      · show Rn_lostWithLeast_53 _ _ _ _ _ _ _ = Rn_lostWithLeast_53 _ _ _ _ _ _ _
        rw [e_Rn_lostWithLeast_53, mlst]
        simp (disch := omega) only [sC, sN, sN0, sLL, sTT, sEE, sM1, sF, sGt, sLe, sLt, sNe, or_false, or_true, false_or, true_or, or_self, if_true, if_false, not_true_eq_false, not_false_eq_true, B1s, B0s, B2s, a2, X_opt h hk24 (show j + 1 ≤ cW by omega), lO_p (show j + 1 < cW by omega), ca1]
      · show Rn_lostWithLeast_53 _ _ _ _ _ _ _ = _
        rw [e_Rn_lostWithLeast_53, a2, if_pos (nI_le (by omega) (by omega)), ca1]
    by_cases h0 : D 10 0 k = x
    · have e : sL D x cW (k + 1) = sL D x cW k + mlst (plO D k) (cW - 1) := by
        unfold sL
        rw [iS, if_pos h0]
      rw [e]
      simp (disch := omega) only [sC, sN, sN0, sLL, sTT, sEE, sM1, sF, sGt, sLe, sLt, sNe, or_false, or_true, false_or, true_or, or_self, if_true, if_false, not_true_eq_false, not_false_eq_true, B1s, B0s, B2s, a2, a3, h0, hz, o0, hin, ca1]
    · have e : sL D x cW (k + 1) = sL D x cW k := by
        unfold sL
        rw [iS, if_neg h0, Int32.add_zero]
      rw [e]
      simp (disch := omega) only [sC, sN, sN0, sLL, sTT, sEE, sM1, sF, sGt, sLe, sLt, sNe, or_false, or_true, false_or, true_or, or_self, if_true, if_false, not_true_eq_false, not_false_eq_true, B1s, B0s, B2s, a3, h0, ca1]
  · show Rn_lostWithLeast_4 _ _ _ _ _ = _
    rw [e_Rn_lostWithLeast_4, a3, if_pos (nI_le (Nat.le_refl _) (by omega))]
theorem M_least {cN cW cP cT cH : Nat} {D : pD} {E : pDL} (h : iBook cN cW cP cT cH D) (hN : iNow cW cP D) (x s : Int32) (hw : 0 < cW) : Mo_price_34 x s 0 D E = some (some (.inl (s - sL D x cW cP)), D, E) := by
  obtain ⟨⟨⟨n1, n2, n3, n4, n5⟩, ⟨a1, a2, a3, a4, a5⟩, ⟨b1, b2, b3, b4, b5⟩⟩, hS, hW, hGS, r1, r2, r3, r4, r5, r6⟩ := id h
  have s0 : s = s - sL D x cW 0 := by
    unfold sL
    rw [iS, Int32.sub_zero]
  have st : Mo_price_34 x s 0 D E = Mo_price_34 x (s - sL D x cW 0) (nI 0) D E := by
    rw [← s0]
    rfl
  rw [st]
  refine (z0 (fun k => Mo_price_34 x (s - sL D x cW k) (nI k) D E) cP (fun k hk => ?_)).trans ?_
  · show Mo_price_34 _ _ _ _ _ = Mo_price_34 _ _ _ _ _
    have o0 : Mo_plainAt (nI k) 0 D E = some (some (.inl (plO D k 0)), D, E) := M_plain h hN hk hw
    have hin : ∀ q, Mo_price_71 x q (nI k) (plO D k 0) 1 D E = Mo_price_34 x (q - mlst (plO D k) (cW - 1)) (nI (k + 1)) D E := by
      intro q
      refine (z0 (fun j => Mo_price_71 x q (nI k) (mlst (plO D k) j) (nI (j + 1)) D E) (cW - 1) (fun j hj => ?_)).trans ?_
      · show Mo_price_71 _ _ _ _ _ _ _ = Mo_price_71 _ _ _ _ _ _ _
        rw [e_Mo_price_71, mlst]
        simp (disch := omega) only [sC, sN, sN0, sLL, sTT, sEE, sM1, sF, sGt, sLe, sLt, sNe, or_false, or_true, false_or, true_or, or_self, if_true, if_false, not_true_eq_false, not_false_eq_true, B1s, B0s, B2s, b2, M_plain h hN hk (show j + 1 < cW by omega), ca1]
        by_cases h1 : plO D k (j + 1) < mlst (plO D k) j
        · rw [if_pos h1, if_neg (by rw [iNL]; exact fun q => q h1)]
        · rw [if_neg h1, if_pos (by rw [iNL]; exact h1)]
      · show Mo_price_71 _ _ _ _ _ _ _ = _
        rw [e_Mo_price_71, b2, if_pos (nI_le (by omega) (by omega)), ca1]
    rw [e_Mo_price_34]
    by_cases h0 : D 10 0 k = x
    · have e : s - sL D x cW (k + 1) = (s - sL D x cW k) - mlst (plO D k) (cW - 1) := by
        unfold sL
        rw [iS, if_pos h0, Int32.sub_sub]
      rw [e]
      simp (disch := omega) only [sC, sN, sN0, sLL, sTT, sEE, sM1, sF, sGt, sLe, sLt, sNe, or_false, or_true, false_or, true_or, or_self, if_true, if_false, not_true_eq_false, not_false_eq_true, B1s, B0s, B2s, b3, (r4 k hk).1, h0, o0, hin, ca1]
    · have e : sL D x cW (k + 1) = sL D x cW k := by
        unfold sL
        rw [iS, if_neg h0, Int32.add_zero]
      rw [e]
      simp (disch := omega) only [sC, sN, sN0, sLL, sTT, sEE, sM1, sF, sGt, sLe, sLt, sNe, or_false, or_true, false_or, true_or, or_self, if_true, if_false, not_true_eq_false, not_false_eq_true, B1s, B0s, B2s, b3, (r4 k hk).1, h0, ca1]
  · show Mo_price_34 _ _ _ _ _ = _
    rw [e_Mo_price_34, b3, if_pos (nI_le (Nat.le_refl _) (by omega))]
/-- price -/
theorem L_price (x : Int32) (D : pD) (E : pDL) (h : Inv D) : Same D E (Hb_price x) (Mo_price x) := by
  have hh := h
  obtain ⟨cN, cW, cP, cT, cH, hT, hF, hB, hN, hK, hG, hY, hL⟩ := h
  obtain ⟨⟨⟨n1, n2, n3, n4, n5⟩, ⟨a1, a2, a3, a4, a5⟩, ⟨b1, b2, b3, b4, b5⟩⟩, hS, hW, hGS, r1, r2, r3, r4, r5, r6⟩ := id hB
  rcases ixc x (n := cN) (by omega) with hx | ⟨n, hn, rfl⟩
  · exact Same.ro (v := -2) hh (by rw [e_Hb_price, has0_n D E a1 hx, B1s, if_pos rfl]) (by rw [e_Mo_price, is0_n D E b1 (by omega) hx, B1s, if_pos rfl])
  · by_cases hw : cW = 0
    · have e0 : (tl (sW D (nI n) cP) cW).1 = -1 := by rw [hw]; rfl
      exact Same.ro (v := -1) hh (by rw [e_Hb_price, has0_y D E a1 hn (by omega), B1s, if_neg (by decide), X_one hB, B1s, if_pos e0]) (by rw [e_Mo_price, is0_y D E b1 (by omega) hn, B1s, if_neg (by decide), M_one hB hN, B1s, if_pos e0])
    · obtain ⟨j, hj, ej, -⟩ := tl_in (sW D (nI n) cP) cW (by omega) (by omega)
      refine Same.ro (v := sW D (nI n) cP j - sL D (nI n) cW cP) hh ?_ ?_
      · rw [e_Hb_price, has0_y D E a1 hn (by omega), B1s, if_neg (by decide), X_one hB, B1s, ej, if_neg (iM (by omega)), X_sum hB _ hj, B1s, X_least hB _ (by omega), B1s]
      · rw [e_Mo_price, is0_y D E b1 (by omega) hn, B1s, if_neg (by decide), M_one hB hN, B1s, ej, if_neg (iM (by omega)), M_sum hB hN _ hj, B1s, M_least hB hN _ _ (by omega)]
