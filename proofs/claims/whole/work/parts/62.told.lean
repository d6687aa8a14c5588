/-! heard, right, feed -/
/-- may it be told -/
theorem tell {D : pD} {E : pDL} (hl : D 100 0 50 = D 65 0 11) (x u : Int32) :
    (La_mayTell x u D E = some (some (.inl 1), D, E) ∧ Mo_in x (D 100 0 50) 999 D E = some (some (.inl 1), D, E) ∧ Mo_in u 0 1 D E = some (some (.inl 1), D, E) ∧ ∃ j : Nat, j < 2 ∧ u = nI j) ∨ (La_mayTell x u D E = some (some (.inl 0), D, E) ∧ (Mo_in x (D 100 0 50) 999 D E = some (some (.inl 0), D, E) ∨ (Mo_in x (D 100 0 50) 999 D E = some (some (.inl 1), D, E) ∧ Mo_in u 0 1 D E = some (some (.inl 0), D, E)))) := by
  by_cases c1 : x < D 65 0 11
  · right
    refine ⟨by rw [e_La_mayTell, if_pos c1], Or.inl ?_⟩
    rw [e_Mo_in, hl, if_pos c1]
  · by_cases c2 : 999 < x
    · right
      refine ⟨by rw [e_La_mayTell, if_neg c1, if_pos c2], Or.inl ?_⟩
      rw [e_Mo_in, hl, if_neg c1, if_pos c2]
    · have hin : Mo_in x (D 100 0 50) 999 D E = some (some (.inl 1), D, E) := by rw [e_Mo_in, hl, if_neg c1, if_neg c2]
      rcases ixc u (n := 2) (by omega) with hu | ⟨j, hj, rfl⟩
      · right
        refine ⟨?_, Or.inr ⟨hin, in_out D E 2 (by decide) (by omega) hu⟩⟩
        rw [e_La_mayTell, if_neg c1, if_neg c2]
        by_cases h0 : u < 0
        · rw [if_pos h0]
        · rw [if_neg h0, if_pos (show (1 : Int32) < u from lt_of (hu.resolve_left h0) (m := 1) (by omega) (by omega))]
      · left
        refine ⟨?_, hin, in_in D E 2 (by decide) (by omega) hj, j, hj, rfl⟩
        rw [e_La_mayTell, if_neg c1, if_neg c2, if_neg (iN (by omega)), if_neg (nnl 1 (k := j) (by omega) (by omega))]
theorem cnt_0 {f : Nat → Int32} {x : Int32} : ∀ {n : Nat}, (∀ i, i < n → f i ≠ x) → cnt f x n = 0
  | 0, _ => rfl
  | n + 1, h => by rw [cnt, cnt_0 (fun i hi => h i (by omega)), if_neg (h n (by omega))]
theorem cnt_cong {f g : Nat → Int32} {x : Int32} : ∀ {n : Nat}, (∀ i, i < n → f i = g i) → cnt f x n = cnt g x n
  | 0, _ => rfl
  | n + 1, h => by rw [cnt, cnt, cnt_cong (fun i hi => h i (by omega)), h n (by omega)]
theorem cnt_le (f : Nat → Int32) (x : Int32) : ∀ n, cnt f x n ≤ n
  | 0 => Nat.le_refl _
  | n + 1 => by
    have := cnt_le f x n
    rw [cnt]
    split <;> omega
/-- heard -/
theorem L_heard (x y z u : Int32) (D : pD) (E : pDL) (h : Inv D) : Same D E (Hb_heard x y z u) (Mo_heard x y z u) := by
  have hh := h
  obtain ⟨cN, cW, cP, cT, cH, hT, hF, hB, hN, hK, hG, hY, hL⟩ := h
  obtain ⟨⟨⟨n1, n2, n3, n4, n5⟩, ⟨a1, a2, a3, a4, a5⟩, ⟨b1, b2, b3, b4, b5⟩⟩, hS, hW, hGS, r1, r2, r3, r4, r5, r6⟩ := id hB
  obtain ⟨cL, cR, l0, q0, l1, l2, l3, l4, l5, l6, l7⟩ := id hL
  rcases tell (E := E) l5 x u with ⟨t1, t2, t3, j, hj, rfl⟩ | ⟨t1, t2⟩
  · rcases why_cases (E := E) hB hN y z with ⟨w1, w2⟩ | ⟨i, p, hi, hp, rfl, rfl, w2, w3⟩
    · refine Same.ro (v := -2) hh ?_ (by rw [e_Mo_heard, t2, B1s, if_neg (by decide), w2, B1s, if_pos rfl])
      rw [e_Hb_heard, t1, B1s, if_neg (by decide)]
      rcases ixc y (n := cH) (by omega) with hy | ⟨i, hi, rfl⟩
      · rw [has4_n D E a5 hy, B1s, if_pos rfl]
      · rw [has4_y D E a5 hi (by omega), B1s, if_neg (by decide)]
        rcases ixc z (n := cP) (by omega) with hz | ⟨p, hp, rfl⟩
        · rw [has2_n D E a3 hz, B1s, if_pos rfl]
        · exfalso
          rw [e_Mo_isAsked, is4_y D E b5 (by omega) hi, B1s, if_neg (by decide), is2_y D E b3 (by omega) hp, B1s, if_neg (by decide)] at w2
          simp at w2
    · have hp24 : p < 24 := by omega
      have bp : ¬ (nI p < 0 ∨ 24 ≤ (nI p).toNatClampNeg) := iB hp24 (by omega)
      have cp : (nI p).toNatClampNeg = p := iC (by omega)
      rcases w3 with ⟨k1, k2, -⟩ | ⟨k1, k2, -⟩
      · refine Same.ro (v := -4) hh ?_ ?_
        · rw [e_Hb_heard, t1, B1s, if_neg (by decide), has4_y D E a5 hi (by omega), B1s, if_neg (by decide), has2_y D E a3 hp (by omega), B1s, if_neg (by decide), Rn_isChosen_spec hp24, B1s, if_pos k1, if_pos rfl]
        · rw [e_Mo_heard, t2, B1s, if_neg (by decide), w2, B1s, if_neg (by decide), t3, B1s, if_neg (by decide), if_neg bp, cp, if_pos k2]
      · by_cases hf : cL = 30
        · refine Same.ro (v := -3) hh ?_ ?_
          · rw [e_Hb_heard, t1, B1s, if_neg (by decide), has4_y D E a5 hi (by omega), B1s, if_neg (by decide), has2_y D E a3 hp (by omega), B1s, if_neg (by decide), Rn_isChosen_spec hp24, B1s, if_neg k1, if_neg (by decide), e_La_isFull, l1, hf, if_neg (by decide), B1s, if_neg (by decide)]
          · rw [e_Mo_heard, t2, B1s, if_neg (by decide), w2, B1s, if_neg (by decide), t3, B1s, if_neg (by decide), if_neg bp, cp, if_neg k2, l2, hf, if_pos (show nI 30 = (30 : Int32) from rfl)]
        · have hlt : cL < 30 := by omega
          have kM : Ko [100, 135, 136] D (dset (dset (dset D 100 0 50 x) 135 0 cL x) 136 0 cL (nI i)) := ((Ko.rf.set (by decide) _ _ _).set (by decide) _ _ _).set (by decide) _ _ _
          have e100 : ∀ m, m ≠ 50 → dset (dset (dset D 100 0 50 x) 135 0 cL x) 136 0 cL (nI i) 100 0 m = D 100 0 m := fun m hm => by rw [dsN (by decide), dsN (by decide), dsA, if_neg hm]
          have had : Mo_had (nI p) (-1) (dset (dset (dset D 100 0 50 x) 135 0 cL x) 136 0 cL (nI i)) E = some (some (.inl (tAt D p)), dset (dset (dset D 100 0 50 x) 135 0 cL x) 136 0 cL (nI i), E) := by
            rw [M_had (hB.ko kM (by decide)) (hN.ko kM (by decide)) (hY.fr (kM.at (by decide)) (kM.c (by decide) _) (e100 _ (by decide))) hp24]
            unfold tAt
            rw [dsN (k' := 9) (by decide), dsN (k' := 9) (by decide), dsN (k' := 9) (by decide), dsN (k' := 44) (by decide), dsN (k' := 44) (by decide), dsN (k' := 44) (by decide), dsN (k' := 45) (by decide), dsN (k' := 45) (by decide), dsN (k' := 45) (by decide), dsN (k' := 46) (by decide), dsN (k' := 46) (by decide), dsN (k' := 46) (by decide)]
          have tq : Rn_traitsAt_held_wordTraits (nI p) D E = some (some (.inl (tAt D p)), D, E) := Rn_traitsAt_held_wordTraits_spec hp24 D E
          refine Bo.of (v := nI cL) (D1 := dset (dset (dset (dset (dset (dset (dset D 66 0 cL (nI i)) 67 0 cL (tAt D p)) 68 0 cL (nI j)) 69 0 cL x) 70 0 cL 0) 65 0 11 x) 65 0 12 (nI (cL + 1))) (E1 := E) (D2 := dset (dset (dset (dset (dset (dset D 100 0 50 x) 135 0 cL x) 136 0 cL (nI i)) 137 0 cL (tAt D p)) 138 0 cL (nI j)) 100 0 48 (nI (cL + 1))) (E2 := E) ⟨_, _, _, _, by repeat first | exact okL_nil | refine okL_n ?_ | refine okL_i ?_ | refine okL_r (by decide) ?_, fun _ _ => rfl⟩ ⟨_, _, _, _, by repeat first | exact okL_nil | refine okL_n ?_ | refine okL_i ?_ | refine okL_r (by decide) ?_, fun _ _ => rfl⟩ ?_ ?_ ?_
          · rw [e_Hb_heard, t1, B1s, if_neg (by decide), has4_y D E a5 hi (by omega), B1s, if_neg (by decide), has2_y D E a3 hp (by omega), B1s, if_neg (by decide), Rn_isChosen_spec hp24, B1s, if_neg k1, if_neg (by decide), e_La_isFull]
            simp (disch := omega) only [sC, sN, sN0, sLL, sTT, sEE, sM1, sF, sGt, sLe, sLt, sNe, or_false, or_true, false_or, true_or, or_self, if_true, if_false, not_true_eq_false, not_false_eq_true, B1s, B0s, B2s, l1, cl30, cn30, ct30, cu30, ce30, cf30, tq, e_La_append, ca1]
          · rw [e_Mo_heard, t2, B1s, if_neg (by decide), w2, B1s, if_neg (by decide), t3, B1s, if_neg (by decide), if_neg bp, cp, if_neg k2]
            simp (disch := omega) only [sC, sN, sN0, sLL, sTT, sEE, sM1, sF, sGt, sLe, sLt, sNe, or_false, or_true, false_or, true_or, or_self, if_true, if_false, not_true_eq_false, not_false_eq_true, B1s, B0s, B2s, l2, cl30, cn30, ct30, cu30, ce30, cf30, had, e100 48 (by decide), ca1, cs1, Nat.add_sub_cancel]
          · rw [cmb_sm (by decide), cmb_sm (by decide), cmb_sm (by decide), cmb_sm (by decide), cmb_sm (by decide), cmb_sm (by decide), cmb_sx (by decide), cmb_sx (by decide), cmb_sx (by decide), cmb_sx (by decide), cmb_sx (by decide), cmb_sx (by decide), cmb_sx (by decide), cmb_self]
            generalize hD' : dset (dset (dset (dset (dset (dset (dset (dset (dset (dset (dset (dset (dset D 66 0 cL (nI i)) 67 0 cL (tAt D p)) 68 0 cL (nI j)) 69 0 cL x) 70 0 cL 0) 65 0 11 x) 65 0 12 (nI (cL + 1))) 100 0 50 x) 135 0 cL x) 136 0 cL (nI i)) 137 0 cL (tAt D p)) 138 0 cL (nI j)) 100 0 48 (nI (cL + 1)) = D'
            have kk : Ko [65, 66, 67, 68, 69, 70, 100, 135, 136, 137, 138] D D' := by
              rw [← hD']
              exact ((((((((((((Ko.rf.set (by decide) _ _ _).set (by decide) _ _ _).set (by decide) _ _ _).set (by decide) _ _ _).set (by decide) _ _ _).set (by decide) _ _ _).set (by decide) _ _ _).set (by decide) _ _ _).set (by decide) _ _ _).set (by decide) _ _ _).set (by decide) _ _ _).set (by decide) _ _ _).set (by decide) _ _ _
            have c100 : ∀ m, m ≠ 48 → m ≠ 50 → D' 100 0 m = D 100 0 m := fun m h1 h2 => by
              rw [← hD']
              simp (disch := decide) only [dsN, dsA, h1, h2, if_false]
            have f66 : ∀ m, D' 66 0 m = if m = cL then nI i else D 66 0 m := fun m => by rw [← hD']; simp (disch := decide) only [dsN, dsA]
            have f67 : ∀ m, D' 67 0 m = if m = cL then tAt D p else D 67 0 m := fun m => by rw [← hD']; simp (disch := decide) only [dsN, dsA]
            have f68 : ∀ m, D' 68 0 m = if m = cL then nI j else D 68 0 m := fun m => by rw [← hD']; simp (disch := decide) only [dsN, dsA]
            have f69 : ∀ m, D' 69 0 m = if m = cL then x else D 69 0 m := fun m => by rw [← hD']; simp (disch := decide) only [dsN, dsA]
            have f70 : ∀ m, D' 70 0 m = if m = cL then 0 else D 70 0 m := fun m => by rw [← hD']; simp (disch := decide) only [dsN, dsA]
            have f135 : ∀ m, D' 135 0 m = if m = cL then x else D 135 0 m := fun m => by rw [← hD']; simp (disch := decide) only [dsN, dsA]
            have f136 : ∀ m, D' 136 0 m = if m = cL then nI i else D 136 0 m := fun m => by rw [← hD']; simp (disch := decide) only [dsN, dsA]
            have f137 : ∀ m, D' 137 0 m = if m = cL then tAt D p else D 137 0 m := fun m => by rw [← hD']; simp (disch := decide) only [dsN, dsA]
            have f138 : ∀ m, D' 138 0 m = if m = cL then nI j else D 138 0 m := fun m => by rw [← hD']; simp (disch := decide) only [dsN, dsA]
            have g11 : D' 65 0 11 = x := by rw [← hD']; simp (disch := decide) only [dsN, dsA, sNe, if_true, if_false]
            have g12 : D' 65 0 12 = nI (cL + 1) := by rw [← hD']; simp (disch := decide) only [dsN, dsA, sNe, if_true, if_false]
            have g13 : D' 65 0 13 = D 65 0 13 := by rw [← hD']; simp (disch := decide) only [dsN, dsA, sNe, if_true, if_false]
            have g48 : D' 100 0 48 = nI (cL + 1) := by rw [← hD']; simp (disch := decide) only [dsN, dsA, sNe, if_true, if_false]
            have g50 : D' 100 0 50 = x := by rw [← hD']; simp (disch := decide) only [dsN, dsA, sNe, if_true, if_false]
            have f71 : D' 71 0 = D 71 0 := by rw [kk 71 (by decide)]
            refine ⟨cN, cW, cP, cT, cH, hT.fr (kk.at (by decide)) (kk.c (by decide) _) (c100 _ (by decide) (by decide)), hF.fr (kk.c (by decide) _) (kk.c (by decide) _) (c100 _ (by decide) (by decide)) (c100 _ (by decide) (by decide)), hB.ko kk (by decide), hN.ko kk (by decide), hK.ko kk (by decide), hG.ko kk (by decide), hY.fr (kk.at (by decide)) (kk.c (by decide) _) (c100 _ (by decide) (by decide)), cL + 1, cR, by omega, q0, g12, g48, by rw [g13, l3], by rw [c100 _ (by decide) (by decide), l4], by rw [g50, g11], fun m hm => ?_, fun m hm => ?_⟩
            · rw [f66, f67, f68, f69, f70, f135, f136, f137, f138, f71]
              by_cases e : m = cL
              · rw [if_pos e, if_pos e, if_pos e, if_pos e, if_pos e, if_pos e, if_pos e, if_pos e, if_pos e]
                refine ⟨rfl, rfl, rfl, rfl, ?_, ?_⟩
                · have : j = 0 ∨ j = 1 := by omega
                  rcases this with rfl | rfl
                  · exact Or.inl rfl
                  · exact Or.inr rfl
                · rw [cnt_0]
                  · rfl
                  · intro n hn e2
                    have := (l7 n hn).2.2.2.1
                    rw [e2, e] at this
                    exact this (Or.inr (by rw [iC (by omega)]; omega))
              · rw [if_neg e, if_neg e, if_neg e, if_neg e, if_neg e, if_neg e, if_neg e, if_neg e, if_neg e]
                exact l6 m (by omega)
            · rw [f71, kk.c (k := 140) (by decide), kk.c (k := 141) (by decide), kk.c (k := 139) (by decide), kk.c (k := 72) (by decide), kk.c (k := 73) (by decide)]
              obtain ⟨z1, z2, z3, z4, z5⟩ := l7 m hm
              exact ⟨z1, z2, z3, in_mono z4 (by omega), z5⟩
  · refine Same.ro (v := -2) hh (by rw [e_Hb_heard, t1, B1s, if_pos rfl]) ?_
    rcases t2 with t2 | ⟨t2, t3⟩
    · rw [e_Mo_heard, t2, B1s, if_pos rfl]
    · rw [e_Mo_heard, t2, B1s, if_neg (by decide)]
      rcases why_cases (E := E) hB hN y z with ⟨-, w2⟩ | ⟨i, p, hi, hp, rfl, rfl, w2, -⟩
      · rw [w2, B1s, if_pos rfl]
      · rw [w2, B1s, if_neg (by decide), t3, B1s, if_pos rfl]
/-- right -/
theorem L_right (x y u : Int32) (D : pD) (E : pDL) (h : Inv D) : Same D E (Hb_right x y u) (Mo_right x y u) := by
  have hh := h
  obtain ⟨cN, cW, cP, cT, cH, hT, hF, hB, hN, hK, hG, hY, hL⟩ := h
  obtain ⟨⟨⟨n1, n2, n3, n4, n5⟩, ⟨a1, a2, a3, a4, a5⟩, ⟨b1, b2, b3, b4, b5⟩⟩, hS, hW, hGS, r1, r2, r3, r4, r5, r6⟩ := id hB
  obtain ⟨cL, cR, l0, q0, l1, l2, l3, l4, l5, l6, l7⟩ := id hL
  have size_out : y < 0 ∨ nI cL ≤ y → Mo_in y 0 (nI cL - 1) D E = some (some (.inl 0), D, E) := fun hy => in_0 D E (by omega) hy
  rcases tell (E := E) l5 x u with ⟨t1, t2, t3, j, hj, rfl⟩ | ⟨t1, t2⟩
  · rcases ixc y (n := cL) (by omega) with hy | ⟨k, hk, rfl⟩
    · refine Same.ro (v := -2) hh ?_ (by rw [e_Mo_right, t2, B1s, if_neg (by decide), l2, size_out hy, B1s, if_pos rfl])
      rw [e_Hb_right, t1, B1s, if_neg (by decide), l1]
      by_cases h0 : y < 0
      · rw [if_pos h0]
      · rw [if_neg h0, if_neg]
        have := hy.resolve_left h0
        rw [iNL] at this
        exact this
    · have kin : Mo_in (nI k) 0 (nI cL - 1) D E = some (some (.inl 1), D, E) := in_1 D E (by omega) hk
      by_cases hf : cR = 20
      · refine Same.ro (v := -3) hh ?_ ?_
        · rw [e_Hb_right, t1, B1s, if_neg (by decide), if_neg (iN (by omega)), l1, if_pos (nI_lt hk (by omega)), e_La_isFullOfRights, l3, hf, if_neg (by decide), B1s, if_neg (by decide)]
        · rw [e_Mo_right, t2, B1s, if_neg (by decide), l2, kin, B1s, if_neg (by decide), t3, B1s, if_neg (by decide), l4, hf, if_pos (show nI 20 = (20 : Int32) from rfl)]
      · have hlt : cR < 20 := by omega
        have e70 := (l6 k hk).2.2.2.2.2
        have hc := cnt_le (D 71 0) (nI k) cR
        generalize hM2 : dset (dset (dset (dset (dset D 100 0 50 x) 139 0 cR x) 140 0 cR (nI k)) 141 0 cR (nI j)) 100 0 49 (nI (cR + 1)) = D2
        have m49 : D2 100 0 49 = nI (cR + 1) := by rw [← hM2]; simp (disch := decide) only [dsN, dsA, sNe, if_true, if_false]
        have m140 : ∀ m, D2 140 0 m = if m = cR then nI k else D 140 0 m := fun m => by rw [← hM2]; simp (disch := decide) only [dsN, dsA]
        have cc : cnt (D2 140 0) (nI k) (cR + 1) = cnt (D 71 0) (nI k) cR + 1 := by
          rw [cnt, m140, if_pos rfl, if_pos rfl]
          rw [cnt_cong (g := D 71 0) (fun i hi => by rw [m140, if_neg (by omega), (l7 i hi).1])]
        have hloop : Mo_right_103 (nI k) 0 0 D2 E = some (some (.inl (nI (cnt (D 71 0) (nI k) cR + 1))), D2, E) := by
          rw [← cc]
          refine (z0 (fun i => Mo_right_103 (nI k) (nI (cnt (D2 140 0) (nI k) i)) (nI i) D2 E) (cR + 1) (fun i hi => ?_)).trans ?_
          · show Mo_right_103 _ _ _ _ _ = Mo_right_103 _ _ _ _ _
            rw [e_Mo_right_103, m49, cnt]
            by_cases c : D2 140 0 i = nI k
            · simp (disch := omega) only [sC, sN, sN0, sLL, sTT, sEE, sM1, sF, sGt, sLe, sLt, sNe, or_false, or_true, false_or, true_or, or_self, if_true, if_false, not_true_eq_false, not_false_eq_true, B1s, B0s, B2s, c, ca1]
            · simp (disch := omega) only [sC, sN, sN0, sLL, sTT, sEE, sM1, sF, sGt, sLe, sLt, sNe, or_false, or_true, false_or, true_or, or_self, if_true, if_false, not_true_eq_false, not_false_eq_true, B1s, B0s, B2s, c, ca1, Int32.add_zero, Nat.add_zero]
          · show Mo_right_103 _ _ _ _ _ = _
            rw [e_Mo_right_103, m49, if_pos (nI_le (Nat.le_refl _) (by omega))]
        refine Bo.of (v := nI (cnt (D 71 0) (nI k) cR + 1)) (D1 := dset (dset (dset (dset (dset (dset D 71 0 cR (nI k)) 72 0 cR (nI j)) 73 0 cR x) 65 0 11 x) 70 0 k (nI (cnt (D 71 0) (nI k) cR + 1))) 65 0 13 (nI (cR + 1))) (E1 := E) (D2 := D2) (E2 := E) ⟨_, _, _, _, by repeat first | exact okL_nil | refine okL_n ?_ | refine okL_i ?_ | refine okL_r (by decide) ?_, fun _ _ => rfl⟩ ⟨_, _, _, _, by repeat first | exact okL_nil | refine okL_n ?_ | refine okL_i ?_ | refine okL_r (by decide) ?_, fun _ _ => rfl⟩ ?_ ?_ ?_
        · rw [e_Hb_right, t1, B1s, if_neg (by decide), if_neg (iN (by omega)), l1, if_pos (nI_lt hk (by omega)), e_La_isFullOfRights]
          simp (disch := omega) only [sC, sN, sN0, sLL, sTT, sEE, sM1, sF, sGt, sLe, sLt, sNe, or_false, or_true, false_or, true_or, or_self, if_true, if_false, not_true_eq_false, not_false_eq_true, B1s, B0s, B2s, l3, cl20, cn20, ct20, cu20, ce20, cf20, e_La_putRight, e70, ca1]
          simp (disch := decide) only [dsN, dsA, if_true]
        · rw [e_Mo_right, t2, B1s, if_neg (by decide), l2, kin, B1s, if_neg (by decide), t3, B1s, if_neg (by decide)]
          simp (disch := omega) only [sC, sN, sN0, sLL, sTT, sEE, sM1, sF, sGt, sLe, sLt, sNe, or_false, or_true, false_or, true_or, or_self, if_true, if_false, not_true_eq_false, not_false_eq_true, B1s, B0s, B2s, l4, cl20, cn20, ct20, cu20, ce20, cf20, ca1]
          rw [hM2]
          exact hloop
        · rw [← hM2, cmb_sm (by decide), cmb_sm (by decide), cmb_sm (by decide), cmb_sm (by decide), cmb_sm (by decide), cmb_sx (by decide), cmb_sx (by decide), cmb_sx (by decide), cmb_sx (by decide), cmb_sx (by decide), cmb_sx (by decide), cmb_self]
          generalize hD' : dset (dset (dset (dset (dset (dset (dset (dset (dset (dset (dset D 71 0 cR (nI k)) 72 0 cR (nI j)) 73 0 cR x) 65 0 11 x) 70 0 k (nI (cnt (D 71 0) (nI k) cR + 1))) 65 0 13 (nI (cR + 1))) 100 0 50 x) 139 0 cR x) 140 0 cR (nI k)) 141 0 cR (nI j)) 100 0 49 (nI (cR + 1)) = D'
          have kk : Ko [65, 70, 71, 72, 73, 100, 139, 140, 141] D D' := by
            rw [← hD']
            exact ((((((((((Ko.rf.set (by decide) _ _ _).set (by decide) _ _ _).set (by decide) _ _ _).set (by decide) _ _ _).set (by decide) _ _ _).set (by decide) _ _ _).set (by decide) _ _ _).set (by decide) _ _ _).set (by decide) _ _ _).set (by decide) _ _ _).set (by decide) _ _ _
          have c100 : ∀ m, m ≠ 49 → m ≠ 50 → D' 100 0 m = D 100 0 m := fun m h1 h2 => by
            rw [← hD']
            simp (disch := decide) only [dsN, dsA, h1, h2, if_false]
          have f70 : ∀ m, D' 70 0 m = if m = k then nI (cnt (D 71 0) (nI k) cR + 1) else D 70 0 m := fun m => by rw [← hD']; simp (disch := decide) only [dsN, dsA]
          have f71 : ∀ m, D' 71 0 m = if m = cR then nI k else D 71 0 m := fun m => by rw [← hD']; simp (disch := decide) only [dsN, dsA]
          have f72 : ∀ m, D' 72 0 m = if m = cR then nI j else D 72 0 m := fun m => by rw [← hD']; simp (disch := decide) only [dsN, dsA]
          have f73 : ∀ m, D' 73 0 m = if m = cR then x else D 73 0 m := fun m => by rw [← hD']; simp (disch := decide) only [dsN, dsA]
          have f139 : ∀ m, D' 139 0 m = if m = cR then x else D 139 0 m := fun m => by rw [← hD']; simp (disch := decide) only [dsN, dsA]
          have f140 : ∀ m, D' 140 0 m = if m = cR then nI k else D 140 0 m := fun m => by rw [← hD']; simp (disch := decide) only [dsN, dsA]
          have f141 : ∀ m, D' 141 0 m = if m = cR then nI j else D 141 0 m := fun m => by rw [← hD']; simp (disch := decide) only [dsN, dsA]
          have g11 : D' 65 0 11 = x := by rw [← hD']; simp (disch := decide) only [dsN, dsA, sNe, if_true, if_false]
          have g12 : D' 65 0 12 = D 65 0 12 := by rw [← hD']; simp (disch := decide) only [dsN, dsA, sNe, if_true, if_false]
          have g13 : D' 65 0 13 = nI (cR + 1) := by rw [← hD']; simp (disch := decide) only [dsN, dsA, sNe, if_true, if_false]
          have g49 : D' 100 0 49 = nI (cR + 1) := by rw [← hD']; simp (disch := decide) only [dsN, dsA, sNe, if_true, if_false]
          have g50 : D' 100 0 50 = x := by rw [← hD']; simp (disch := decide) only [dsN, dsA, sNe, if_true, if_false]
          refine ⟨cN, cW, cP, cT, cH, hT.fr (kk.at (by decide)) (kk.c (by decide) _) (c100 _ (by decide) (by decide)), hF.fr (kk.c (by decide) _) (kk.c (by decide) _) (c100 _ (by decide) (by decide)) (c100 _ (by decide) (by decide)), hB.ko kk (by decide), hN.ko kk (by decide), hK.ko kk (by decide), hG.ko kk (by decide), hY.fr (kk.at (by decide)) (kk.c (by decide) _) (c100 _ (by decide) (by decide)), cL, cR + 1, l0, by omega, by rw [g12, l1], by rw [c100 _ (by decide) (by decide), l2], g13, g49, by rw [g50, g11], fun m hm => ?_, fun m hm => ?_⟩
          · obtain ⟨z1, z2, z3, z4, z5, z6⟩ := l6 m hm
            rw [kk.c (k := 136) (by decide), kk.c (k := 137) (by decide), kk.c (k := 138) (by decide), kk.c (k := 135) (by decide), kk.c (k := 66) (by decide), kk.c (k := 67) (by decide), kk.c (k := 68) (by decide), kk.c (k := 69) (by decide)]
            refine ⟨z1, z2, z3, z4, z5, ?_⟩
            rw [f70, cnt, f71, if_pos rfl, cnt_cong (f := D' 71 0) (g := D 71 0) (fun i hi => by rw [f71, if_neg (by omega)])]
            by_cases e : m = k
            · subst e
              rw [if_pos rfl, if_pos rfl]
            · rw [if_neg e, if_neg (fun z => e ((iE (by omega) (by omega)).mp z).symm), z6, Nat.add_zero]
          · rw [f71, f72, f73, f139, f140, f141]
            by_cases e : m = cR
            · rw [if_pos e, if_pos e, if_pos e, if_pos e, if_pos e, if_pos e]
              refine ⟨rfl, rfl, rfl, w_in hk (by omega), ?_⟩
              have : j = 0 ∨ j = 1 := by omega
              rcases this with rfl | rfl
              · exact Or.inl rfl
              · exact Or.inr rfl
            · rw [if_neg e, if_neg e, if_neg e, if_neg e, if_neg e, if_neg e]
              exact l7 m (by omega)
  · refine Same.ro (v := -2) hh (by rw [e_Hb_right, t1, B1s, if_pos rfl]) ?_
    rcases t2 with t2 | ⟨t2, t3⟩
    · rw [e_Mo_right, t2, B1s, if_pos rfl]
    · rw [e_Mo_right, t2, B1s, if_neg (by decide), l2]
      rcases ixc y (n := cL) (by omega) with hy | ⟨k, hk, rfl⟩
      · rw [size_out hy, B1s, if_pos rfl]
      · rw [in_1 D E (by omega) hk, B1s, if_neg (by decide), t3, B1s, if_pos rfl]
